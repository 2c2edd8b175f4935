section
/-! what the printed laws of 01 want of arrays of arrays: the table's word, told of the tables alone -/
def va_AOA (t : FieldType) (U : State) : Prop := (Cond.arrayOver (.array t)).before #[] U = true
theorem va_AOA.use {t : FieldType} {A : Array Value} {U : State} (h : va_AOA t U) : (Cond.arrayOver (.array t)).before A U = true := h
end
section
/-! ===== BEGIN words of one list among another's, by their places ===== -/
theorem goodIn_r {big : List Cond} (ws : List Cond) (ps : List Nat) (hp : ws = ps.filterMap (fun i => big[i]?)) (h : ws.all goodWord = true) : GoodIn big ws := by
  intro w hw
  have h1 := List.all_eq_true.mp h w hw
  rw [hp] at hw
  obtain ⟨i, -, hi⟩ := List.mem_filterMap.mp hw
  have hm : w ∈ big := by first | exact List.mem_of_getElem? hi | exact List.getElem?_mem hi
  exact ⟨hm, good_of_word h1⟩
theorem goodIn_app {big a b : List Cond} (ha : GoodIn big a) (hb : GoodIn big b) : GoodIn big (a ++ b) := fun w h => (List.mem_append.mp h).elim (ha w) (hb w)
theorem goodIn_ca {big a b : List Cond} {c : Cond} (ha : GoodIn big (c :: a)) (hb : GoodIn big b) : GoodIn big (c :: (a ++ b)) := fun w h => (List.mem_cons.mp h).elim (fun e => ha w (List.mem_cons.mpr (Or.inl e))) (fun h => (List.mem_append.mp h).elim (fun h => ha w (List.mem_cons.mpr (Or.inr h))) (hb w))
theorem goodIn_sub {big ws : List Cond} (hm : ∀ w ∈ ws, w ∈ big) (h : ws.all goodWord = true) : GoodIn big ws := fun w hw => ⟨hm w hw, good_of_word (List.all_eq_true.mp h w hw)⟩
/-! ===== END ===== -/

/-! ===== BEGIN new T[n][m]: the outer array a place, the inner ones among the pooled ===== -/
/-- f, but v at every address of l -/
def vr_up {α : Type} (f : Nat → α) (l : List Nat) (v : α) : Nat → α := fun a => if a ∈ l then v else f a
theorem vr_up_in {α : Type} {f : Nat → α} {l : List Nat} {v : α} {a : Nat} (h : a ∈ l) : vr_up f l v a = v := if_pos h
theorem vr_up_ne {α : Type} {f : Nat → α} {l : List Nat} {v : α} {a : Nat} (h : a ∉ l) : vr_up f l v a = f a := if_neg h
theorem vr_rows {L l : List Nat} {f : Nat → va_E} {e : va_E} (h : ∀ a, a ∈ l → a ∉ L) : va_pl L f ++ l.map (fun a => (a, e)) = va_pl (L ++ l) (vr_up f l e) := by
  unfold va_pl
  rw [List.map_append]
  congr 1
  · apply List.map_congr_left
    intro a ha
    rw [vr_up_ne (fun q => h a q ha)]
  · apply List.map_congr_left
    intro a ha
    rw [vr_up_in ha]
theorem vr_lay {X rows : va_W} {x : Nat × va_E} {pl : va_W} {D : va_G} {cl : List vw_C} {H : Heap} (hP : va_P D cl (((X ++ pl) ++ [x]) ++ rows) H) : va_P D cl ((X ++ [x]) ++ (pl ++ rows)) H := by
  rw [List.append_assoc (X ++ pl)] at hP
  have h := va_P.swap hP
  rw [← List.append_assoc X] at h
  have h2 := va_P.swap h
  rw [List.append_assoc (X ++ [x])] at h2
  exact h2
theorem vr_layD {X rows : va_W} {x : Nat × va_E} {pl : va_W} {A : Nat → Prop} (hD : va_D A (((X ++ pl) ++ [x]) ++ rows)) : va_D A ((X ++ [x]) ++ (pl ++ rows)) := by
  rw [List.append_assoc (X ++ pl)] at hD
  have h := va_D.swap hD
  rw [← List.append_assoc X] at h
  have h2 := va_D.swap h
  rw [List.append_assoc (X ++ [x])] at h2
  exact h2
theorem vr_outer (c : ClassId) (N h0 : Nat) : ∀ i : Nat, Jvm.Free.Multi.outerC c N h0 i = arrV c N (fun j => va_rf (if j < i then some (h0 + 1 + j) else none))
  | 0 => by
    show ({ cls := c, slots := Array.replicate N .null, vm := .none } : Cell) = _
    rw [arrV_new]
    refine congrArg (arrV c N) (funext fun j => ?_)
    simp [va_rf]
  | i + 1 => by
    show (Jvm.Free.Multi.outerC c N h0 i).setSlot i (.ref (h0 + 1 + i)) = _
    rw [vr_outer c N h0 i, arrV_store]
    refine congrArg (arrV c N) (funext fun j => ?_)
    by_cases e : j = i
    · subst e
      simp [updV, va_rf]
    · by_cases h : j < i
      · simp [updV, e, h, Nat.lt_succ_of_lt h]
      · simp [updV, e, h, show ¬ j < i + 1 by omega]
section VGM
variable {p : Program} {l : Launch} {e : Env} {R : Room} {s : State} {m : MethodId} {args : Array Value} {below : List Frame} {meth : Method} {c : Code} {H : Heap} {locs : List Loc} {cells slots : Nat} {Q : State → Prop}
variable {cc : ByteArray} {pc : Nat} {ls : Array Slot} {rest : List Value} {D : va_G} {cl : List vw_C} {A : Nat → Prop} {a : Nat} {tys : List (ClassId × FieldType)} {ws : va_W} {H0 : Heap}
theorem va_mna {X : va_W} {L : List Nat} {f : Nat → va_E} {cc : ByteArray} (hexec : p.tables.exec = Jvm.exec) (hb : c.code = cc) {own : String} {index : Nat} {ty : FieldType} {cy : ClassId} (hown : s.vm.findClass own = some m.cls) (hclink : (Cond.classLink own index ("[" ++ (FieldType.array ty).toString)).before args s = true) (hover : va_AOA ty s) (harr : (Cond.arrayClass ty).before args s = true) (hcy : s.vm.findClass (FieldType.array ty).toString = some cy)
    (hK : va_K D cl tys s) (hP : va_P D cl (X ++ va_pl L f) H) (hD : va_D A (X ++ va_pl L f)) (hS : va_S A H0 H locs) (hA : ∀ q, H0.size ≤ q → A q) {n k : Int32} {N' K' : Nat} {z : vp_A} (hn : ¬ n < 0) (hk : ¬ k < 0) (hN : n.toNatClampNeg = N') (hM : k.toNatClampNeg = K')
    (hb1 : N' * 4 ≤ 536870912) (hb2 : K' * componentBytes ty ≤ 536870912) (hb3 : K' ≤ 536870912) (hdf : fits ty (defaultValue ty) = true) (hdd : (defaultValue ty).isDefault = true) (hcells : cells + (1 + N') ≤ R.cells) (hslots : slots + (N' + N' * K') ≤ R.slots) (hz : ∀ c : ClassId, Jvm.Free.Multi.innerC c K' (defaultValue ty) = vp_cell c z) (hdg : decode cc pc = .ok (.multianewarray index 2, 4))
    (kk : ∀ (q : Nat) (r : Nat → Nat) (cA : ClassId) (H1 : Heap), (∀ i j : Nat, i < N' → j < N' → r i = r j → i = j) → (∀ i : Nat, i < N' → r i ∉ L) → va_K D cl (tys ++ [(cA, .array ty)]) s →
      va_P D cl ((X ++ [(q, .inl (cA, N', .inr (.inr (.inr (.inr (fun i => if i < N' then some (r i) else none))))))]) ++ va_pl (L ++ (List.range N').map r) (vr_up f ((List.range N').map r) (.inl (cy, z)))) H1 → va_D A ((X ++ [(q, .inl (cA, N', .inr (.inr (.inr (.inr (fun i => if i < N' then some (r i) else none))))))]) ++ va_pl (L ++ (List.range N').map r) (vr_up f ((List.range N').map r) (.inl (cy, z)))) → va_S A H0 H1 locs →
      W p l e R s m args below meth c H1 locs (cells + 1 + N') (slots + N' + N' * K') Q (F0 m (pc + 4) ls (.ref q :: rest))) : W p l e R s m args below meth c H locs cells slots Q (F0 m pc ls (.int k :: .int n :: rest)) := by
  subst hN
  subst hM
  intro T hT Xs
  obtain ⟨vm₁, cA, comp, -, fA, fC, hO, -, X', step⟩ := Xs.multianewarray2F hexec hown hclink (va_AOA.use hover) harr (g := F0 m pc ls (.int k :: .int n :: rest)) rfl (by rw [hb]; exact hdg) rfl hn hk hb1 hb2 hb3 hdf hdd hcells hslots
  have ec : some cy = some comp := hcy.symm.trans fC
  cases ec
  generalize hF : Jvm.Free.Multi.fill (T.setVm vm₁) cA cy n.toNatClampNeg k.toNatClampNeg (defaultValue ty) n.toNatClampNeg = F at X' step
  have hTh : (T.setVm vm₁).heap = H := hT
  obtain ⟨f1, f2, -, -⟩ := Jvm.Free.Multi.fill_facts (T.setVm vm₁) cA cy n.toNatClampNeg k.toNatClampNeg (defaultValue ty) n.toNatClampNeg
  rw [hF, hTh] at f1 f2
  have hold : ∀ x : Nat, x < H.size → F.heap[x]? = H[x]? := fun x hx => by
    have := Jvm.Free.Multi.fill_old (T.setVm vm₁) cA cy n.toNatClampNeg k.toNatClampNeg (defaultValue ty) (a := x) (by rw [hTh]; exact hx) n.toNatClampNeg
    rw [hF, hTh] at this
    exact this
  have hrow : ∀ j : Nat, j < n.toNatClampNeg → F.heap[H.size + 1 + j]? = some (vp_cell cy z) := fun j hj => by
    have := Jvm.Free.Multi.fill_inner (T.setVm vm₁) cA cy n.toNatClampNeg k.toNatClampNeg (defaultValue ty) n.toNatClampNeg j hj
    rw [hF, hTh, hz] at this
    exact this
  have hout : Jvm.Free.Multi.outerC cA n.toNatClampNeg H.size n.toNatClampNeg = vp_cell cA (n.toNatClampNeg, .inr (.inr (.inr (.inr (fun i => if i < n.toNatClampNeg then some (H.size + 1 + i) else none))))) := by
    rw [vp_cell_q]
    exact vr_outer cA n.toNatClampNeg H.size n.toNatClampNeg
  rw [hout] at f2
  have hlt : ∀ a, a ∈ L → a < H.size := fun a ha => by
    obtain ⟨k9, hk9⟩ := va_pl_get (X := X) (f := f) ha
    exact (hP k9 _ hk9).lt
  have hnl : ∀ i : Nat, i < n.toNatClampNeg → H.size + 1 + i ∉ L := fun i _ h => by
    have := hlt _ h
    omega
  have hnm : ∀ a, a ∈ (List.range n.toNatClampNeg).map (fun i => H.size + 1 + i) → a ∉ L := fun a ha h => by
    obtain ⟨i, -, rfl⟩ := List.mem_map.mp ha
    have := hlt _ h
    omega
  have hP0 : va_P D cl (X ++ va_pl L f) F.heap := hP.kept (fun k9 x hx => hold x.1 ((hP k9 x hx).lt))
  have hP1 : va_P D cl ((X ++ va_pl L f) ++ [(H.size, .inl (cA, n.toNatClampNeg, .inr (.inr (.inr (.inr (fun i => if i < n.toNatClampNeg then some (H.size + 1 + i) else none))))))]) F.heap := hP0.app (fun k9 x hx => by
    have h0 : k9 < 1 := (List.getElem?_eq_some_iff.mp hx).1
    rw [show k9 = 0 by omega] at hx
    cases hx
    exact f2)
  have hP2 : va_P D cl (((X ++ va_pl L f) ++ [(H.size, .inl (cA, n.toNatClampNeg, .inr (.inr (.inr (.inr (fun i => if i < n.toNatClampNeg then some (H.size + 1 + i) else none))))))]) ++ ((List.range n.toNatClampNeg).map (fun i => H.size + 1 + i)).map (fun a => (a, .inl (cy, z)))) F.heap := hP1.app (fun k9 x hx => by
    obtain ⟨a, ha, rfl⟩ := List.mem_map.mp (List.mem_of_getElem? hx)
    obtain ⟨i, hi, rfl⟩ := List.mem_map.mp ha
    exact hrow i (List.mem_range.mp hi))
  have hD2 : va_D A (((X ++ va_pl L f) ++ [(H.size, .inl (cA, n.toNatClampNeg, .inr (.inr (.inr (.inr (fun i => if i < n.toNatClampNeg then some (H.size + 1 + i) else none))))))]) ++ ((List.range n.toNatClampNeg).map (fun i => H.size + 1 + i)).map (fun a => (a, .inl (cy, z)))) := by
    have hD1 := hD.push (e := .inl (cA, n.toNatClampNeg, .inr (.inr (.inr (.inr (fun i => if i < n.toNatClampNeg then some (H.size + 1 + i) else none)))))) hP rfl (hA _ hS.1)
    generalize hW1 : (X ++ va_pl L f) ++ [(H.size, .inl (cA, n.toNatClampNeg, .inr (.inr (.inr (.inr (fun i => if i < n.toNatClampNeg then some (H.size + 1 + i) else none))))))] = W1 at hD1 hP1 ⊢
    have hle : ∀ (k9 : Nat) (x : Nat × va_E), W1[k9]? = some x → x.1 ≤ H.size := fun k9 x hx => by
      rw [← hW1] at hx
      by_cases hl : k9 < (X ++ va_pl L f).length
      · rw [List.getElem?_append_left hl] at hx
        exact Nat.le_of_lt ((hP k9 x hx).lt)
      · rw [List.getElem?_append_right (by omega)] at hx
        have h0 : k9 - (X ++ va_pl L f).length < 1 := (List.getElem?_eq_some_iff.mp hx).1
        rw [show k9 - (X ++ va_pl L f).length = 0 by omega] at hx
        cases hx
        exact Nat.le_refl _
    have hr : ∀ (k9 : Nat) (x : Nat × va_E), (((List.range n.toNatClampNeg).map (fun i => H.size + 1 + i)).map (fun a => ((a, .inl (cy, z)) : Nat × va_E)))[k9]? = some x → x.1 = H.size + 1 + k9 := fun k9 x hx => by
      rw [List.getElem?_map, List.getElem?_map] at hx
      by_cases h9 : k9 < n.toNatClampNeg
      · rw [List.getElem?_range h9] at hx
        cases hx
        rfl
      · have hn0 : (List.range n.toNatClampNeg)[k9]? = none := List.getElem?_eq_none (by rw [List.length_range]; omega)
        rw [hn0] at hx
        cases hx
    refine ⟨fun i j x y hi hj hxy => ?_, fun k9 x hx => ?_⟩
    · by_cases h1 : i < W1.length <;> by_cases h2 : j < W1.length
      · rw [List.getElem?_append_left h1] at hi
        rw [List.getElem?_append_left h2] at hj
        exact hD1.1 i j x y hi hj hxy
      · rw [List.getElem?_append_left h1] at hi
        rw [List.getElem?_append_right (by omega)] at hj
        have := hle _ _ hi
        have := hr _ _ hj
        omega
      · rw [List.getElem?_append_right (by omega)] at hi
        rw [List.getElem?_append_left h2] at hj
        have := hle _ _ hj
        have := hr _ _ hi
        omega
      · rw [List.getElem?_append_right (by omega)] at hi hj
        have := hr _ _ hi
        have := hr _ _ hj
        omega
    · by_cases h1 : k9 < W1.length
      · rw [List.getElem?_append_left h1] at hx
        exact hD1.2 k9 x hx
      · rw [List.getElem?_append_right (by omega)] at hx
        have := hr _ _ hx
        exact hA _ (by have := hS.1; omega)
  have hAr : ArrOfT s cA (.array ty) := fun N9 z9 => by
    obtain ⟨-, k9, hk9, cm9, hkk9⟩ := (hO 0 0 0).1
    exact ⟨(fun q hq => by cases hq), k9, hk9, cm9, hkk9⟩
  have hK2 : va_K D cl (tys ++ [(cA, .array ty)]) s := ⟨hK.1, fun k9 x hx => by
    by_cases hl : k9 < tys.length
    · rw [List.getElem?_append_left hl] at hx
      exact hK.2 k9 x hx
    · rw [List.getElem?_append_right (by omega)] at hx
      have h0 : k9 - tys.length < 1 := (List.getElem?_eq_some_iff.mp hx).1
      rw [show k9 - tys.length = 0 by omega] at hx
      cases hx
      exact ⟨hAr, fA⟩⟩
  obtain ⟨t, a1, b1⟩ := kk H.size (fun i => H.size + 1 + i) cA F.heap (fun i j _ _ h => by have h9 : H.size + 1 + i = H.size + 1 + j := h; omega) hnl hK2 (by rw [← vr_rows hnm]; exact vr_lay hP2) (by rw [← vr_rows hnm]; exact vr_layD hD2) ⟨by rw [f1]; have := hS.1; omega, fun x h1 h2 => (hold x (Nat.lt_of_lt_of_le h1 hS.1)).trans (hS.2.1 x h1 h2), hS.2.2⟩ F rfl X'
  refine ⟨t, step t ?_, b1⟩
  have e : T.heap.size = H.size := by rw [hT]
  rw [e]
  exact a1
end VGM
/-! ===== END ===== -/

/-! ===== BEGIN exceptions that leave a method, and their catching by the caller (launches without stack traces) ===== -/
section VXA
/-! The laws vx_back, vx_callV, vx_callS, vx_callSW, vx_throw0, vx_throwS follow proofs of the library, with one case more: JvmDerived/Free/Laws.lean (Back.of_free), Shelf42/LK1.lean (callV, callS), Shelf/KitTraced.lean (throwNew0V, throwNewS). -/
/-- where a method has thrown q: the class by its name, the cell, what was written, the world -/
def vx_T (XC : String → State → State → Prop) (st : State) (q : Addr) (t : State) (mc ms : Nat) (free : Addr → Prop) : Prop :=
  ∃ (E : String) (ce : Cell) (L : List Loc), XC E st t ∧ t.heap[q]? = some ce ∧ ce.vm = .none ∧ st.vm.findClass E = some ce.cls ∧ st.WarmedH t.vm ∧ st.sameButNew ({ t with vm := st.vm } : State) L mc ms ∧ ∀ z ∈ L, free z.base
def vx_Q (Qc : Array Value → State → Outcome → State → Prop) (XC : String → State → State → Prop) (mc ms : Nat) (free : Addr → Prop) : Array Value → State → Outcome → State → Prop := fun a st o t =>
  (Qc a st o t ∧ ∃ L, FrameEnd st o t L mc ms ∧ ∀ q ∈ L, free q.base) ∨ ∃ q, o = .threw q ∧ vx_T XC st q t mc ms free
/-- a callee that returns or throws -/
def vx_Met (l : Launch) (y : MethodName) (ws : List Cond) (rm : Room) (Pc : Array Value → State → Prop) (Qc : Array Value → State → Outcome → State → Prop) (XC : String → State → State → Prop) (mc ms : Nat) (free : Addr → Prop) : Prop :=
  MetFree l y (headSpec ws rm) Pc (fun _ _ _ _ _ => True) (vx_Q Qc XC mc ms free)
def vx_Post (XC : String → State → State → Prop) (mc ms : Nat) (free : Addr → Prop) : Pt → Array Value → Addr → Pt → Prop := fun A a q B =>
  ∃ (g : JFrame) (mk : MethodId) (t : State) (L : List Loc) (E : String) (ce : Cell), B.U.heap = t.heap ∧ B.U.vm = t.vm ∧ XC E (A.U.calling g mk a) t ∧ t.heap[q]? = some ce ∧ ce.vm = .none ∧ A.U.vm.findClass E = some ce.cls ∧ B.locs = A.locs ++ L ∧ (∀ z ∈ L, free z.base) ∧ B.cells = A.cells + mc ∧ B.slots = A.slots + ms
def vx_Back (l : Launch) (R : Room) (p : Program) (e : Env) (below : List Frame) (s : State) (sargs : Array Value) (y : MethodName) (len W9 : Nat)
    (Pre : Pt → Array Value → Prop) (Post : Pt → Array Value → Option Value → Pt → Prop) (PostX : Pt → Array Value → Addr → Pt → Prop) : Prop :=
  ∀ (m : MethodId) (meth : Method) (c : Code) (A : Pt) (g : JFrame) (ig : Instr) (mk : MethodId) (a : Array Value),
    Stand p l e R s m sargs below meth c A.U A.locs A.cells A.slots → g.method = m → g.locals.size = c.maxLocals → decode c.code g.pc = .ok (ig, len) →
    2 * g.monitorRoom + (g.stack.map fun v => v.category).sum ≤ W9 → A.U.methodNamed? y = some mk → Pre A a →
    (∃ (v : Option Value) (B : Pt), Stand p l e R s m sargs below meth c B.U B.locs B.cells B.slots ∧ Post A a v B ∧
      Steps p.tables e below (doInvoke e (A.U.setTop g) [] mk a).1 (B.U.setTop { g with pc := g.pc + len, stack := v.toList ++ g.stack })) ∨
    (∃ (q : Addr) (B : Pt), Stand p l e R s m sargs below meth c B.U B.locs B.cells B.slots ∧ PostX A a q B ∧
      Steps p.tables e below (doInvoke e (A.U.setTop g) [] mk a).1 ((B.U.setTop g).pushFrame (.throwing q)))
section Payer
variable {l : Launch} {R : Room} {p : Program} {e : Env} {below : List Frame} {s : State} {sargs : Array Value} {y : MethodName} {len W9 : Nat}
theorem vx_back {ws : List Cond} {rm : Room} {Pc : Array Value → State → Prop} {Qc : Array Value → State → Outcome → State → Prop} {XC : String → State → State → Prop} {mc ms : Nat} {free : Addr → Prop} {bytes : ByteArray} {maxL : Nat} {ret : Option FieldType}
    (hM : vx_Met l y ws rm Pc Qc XC mc ms free) (hblind : FrameBlind Pc) (hrc : rm.cells = mc) (hrs : rm.slots = ms)
    (hframes : rm.frames + 1 ≤ R.frames) (hlocals : W9 + (maxL + 11) + rm.locals ≤ R.locals)
    (hws : ∀ w ∈ ws, ∀ a' U, s.WarmedH U.vm → w.before a' U = true) (hcode : Cond.code y bytes maxL ret ∈ ws) (hinit : ∀ a' U, s.WarmedH U.vm → (Cond.initialized y.cls).before a' U = true) :
    vx_Back l R p e below s sargs y len W9 (PreOf R mc ms Pc) (PostOf Qc mc ms free) (vx_Post XC mc ms free) := by
  intro m meth c A g ig mk a X hg hsize hdg hW hn hp
  have h1 : (headSpec ws rm).pre.before a A.U = true := atoms_intro fun w hw => hws w hw _ _ X.warmed
  have h2 : (Cond.code y bytes maxL ret).before a A.U = true := hws _ hcode _ _ X.warmed
  have h3 : (Cond.initialized y.cls).before a A.U = true := hinit _ _ X.warmed
  have h4 : A.cells + (headSpec ws rm).room.cells ≤ R.cells := by rw [show (headSpec ws rm).room.cells = mc from hrc]; exact hp.1
  have h5 : A.slots + (headSpec ws rm).room.slots ≤ R.slots := by rw [show (headSpec ws rm).room.slots = ms from hrs]; exact hp.2.1
  have hPc : Pc a (A.U.calling g mk a) := hblind _ _ _ _ hp.2.2
  obtain ⟨U, Ls, c0, s0⟩ := A
  dsimp only [Pt.U, Pt.locs, Pt.cells, Pt.slots] at h1 h2 h3 h4 h5 X hn hPc ⊢
  obtain ⟨methY, cY, hmY, hcY, -, hlY, -, -, -, -⟩ := Cond.code_spec hn h2
  obtain ⟨kY, hkY, -⟩ := className_of_methodNamed hn
  have hinitY : kY.init = .initialized := Cond.initialized_spec (findClass_of_methodNamed hn) hkY h3
  have h : At U g.method c below := by rw [hg]; exact X.here
  have hlocals9 : W9 + (maxL + 11) + (headSpec ws rm).room.locals ≤ R.locals := hlocals
  have happ : (headSpec ws rm).appliesLoose y e.platform (U.calling g mk a) = true :=
    Spec.appliesLoose_calling (g := g) h hdg hn hkY hinitY
      (X.room_calling (g := g) (R' := (headSpec ws rm).room) hsize hmY hcY hframes (by rw [hlY]; omega) h4 h5) h1
  obtain ⟨mid, hmid⟩ := h.above
  have hfr : (U.setTop g).frames = (.java g :: mid) ++ below := by rw [State.frames_setTop' g h.top, hmid]; rfl
  obtain ⟨o, s₂, hsteps, -, hend, hq⟩ := Steps.callFree hM p X.admits X.cas X.clock (acts := []) hfr happ hPc trivial
  have hq' : vx_Q Qc XC mc ms free a (U.calling g mk a) o s₂ := hq
  rw [State.frames_setTop' g h.top] at hend
  obtain ⟨g₀, hg0⟩ := Option.isSome_iff_exists.mp h.top
  obtain ⟨r, hr⟩ := State.topJava?_eq_some.mp hg0
  have hr' : (({ U with heap := s₂.heap, slotsUsed := s₂.slotsUsed } : State).setVm s₂.vm).frames = .java g₀ :: r := hr
  rcases hq' with ⟨hqc, L, hfe, hL⟩ | ⟨q, rfl, E, ce, L, hx, hce, hcv, hcl, hW₂, hsm, hL⟩
  · obtain ⟨⟨v, rfl⟩, hW₂, e2, q2, q3, q4, q5, q6⟩ := id hfe
    have e3 : s₂ = ({ (U.calling g mk a).setFrames s₂.frames with heap := s₂.heap, slotsUsed := s₂.slotsUsed } : State).setVm s₂.vm := by
      have : s₂ = ({ s₂ with vm := (U.calling g mk a).vm } : State).setVm s₂.vm := rfl
      rw [e2] at this
      exact this
    obtain ⟨c₂, i₂, len₂, hc₂, hd₂, hf₂⟩ := hend
    have hW' : U.WarmedH s₂.vm := hW₂
    have hcc : c₂ = c := by
      have h1 : s₂.code? g.method = U.code? g.method := by
        rw [State.code?_eq, State.code?_eq, hW'.alike.method?]
      exact Option.some.inj (hc₂.symm.trans (h1.trans h.code))
    subst hcc
    have hlen : len₂ = len := by rw [hdg] at hd₂; cases hd₂; rfl
    subst hlen
    have hs₂ : s₂ = (({ U with heap := s₂.heap, slotsUsed := s₂.slotsUsed } : State).setVm s₂.vm).setTop { g with pc := g.pc + len₂, stack := v.toList ++ g.stack } := by
      refine e3.trans ?_
      rw [hf₂, State.calling_eq h.top, State.setFrames_setFrames, State.setTop_of_frames _ hr', hr]
      rfl
    have hsame : U.sameButNew ({ U with heap := s₂.heap, slotsUsed := s₂.slotsUsed } : State) L mc ms := by
      refine ⟨?_, q2, q3, q4, q5, q6⟩
      obtain ⟨t, ht, -⟩ := State.frames_cons hr
      show ({ U with heap := s₂.heap, slotsUsed := s₂.slotsUsed } : State) = { U.setFrames U.frames with heap := s₂.heap, slotsUsed := s₂.slotsUsed }
      rw [State.setFrames_self ht]
    subst hg
    refine Or.inl ⟨v, ⟨(({ U with heap := s₂.heap, slotsUsed := s₂.slotsUsed } : State).setVm s₂.vm), Ls ++ L, c0 + mc, s0 + ms⟩,
      ⟨X.admits, X.cas, X.clock, X.frames, X.room, X.hears, X.method, X.code, (X.here.setHeapUsed s₂.heap s₂.slotsUsed).setVm hW'.alike, X.tail, State.WarmedH.trans X.warmed hW', X.limits, X.bytes, X.same.trans (hsame.setVm s.vm)⟩,
      ⟨g, mk, s₂, L, rfl, rfl, hqc, rfl, hL, rfl, rfl⟩, ?_⟩
    show Steps p.tables e below _ ((({ U with heap := s₂.heap, slotsUsed := s₂.slotsUsed } : State).setVm s₂.vm).setTop { g with pc := g.pc + len₂, stack := v.toList ++ g.stack })
    rw [← hs₂]
    exact hsteps
  · obtain ⟨e2, q2, q3, q4, q5, q6⟩ := id hsm
    have e3 : s₂ = ({ (U.calling g mk a).setFrames s₂.frames with heap := s₂.heap, slotsUsed := s₂.slotsUsed } : State).setVm s₂.vm := by
      have : s₂ = ({ s₂ with vm := (U.calling g mk a).vm } : State).setVm s₂.vm := rfl
      rw [e2] at this
      exact this
    have hf₂ : s₂.frames = .throwing q :: .java g :: U.frames.tail := hend
    have hW' : U.WarmedH s₂.vm := hW₂
    have hs₂ : s₂ = ((({ U with heap := s₂.heap, slotsUsed := s₂.slotsUsed } : State).setVm s₂.vm).setTop g).pushFrame (.throwing q) := by
      refine e3.trans ?_
      rw [hf₂, State.calling_eq h.top, State.setFrames_setFrames, State.pushFrame, State.frames_setTop _ hr', State.setTop_of_frames _ hr', State.setFrames_setFrames, hr]
      rfl
    have hsame : U.sameButNew ({ U with heap := s₂.heap, slotsUsed := s₂.slotsUsed } : State) L mc ms := by
      refine ⟨?_, q2, q3, q4, q5, q6⟩
      obtain ⟨t, ht, -⟩ := State.frames_cons hr
      show ({ U with heap := s₂.heap, slotsUsed := s₂.slotsUsed } : State) = { U.setFrames U.frames with heap := s₂.heap, slotsUsed := s₂.slotsUsed }
      rw [State.setFrames_self ht]
    subst hg
    refine Or.inr ⟨q, ⟨(({ U with heap := s₂.heap, slotsUsed := s₂.slotsUsed } : State).setVm s₂.vm), Ls ++ L, c0 + mc, s0 + ms⟩,
      ⟨X.admits, X.cas, X.clock, X.frames, X.room, X.hears, X.method, X.code, (X.here.setHeapUsed s₂.heap s₂.slotsUsed).setVm hW'.alike, X.tail, State.WarmedH.trans X.warmed hW', X.limits, X.bytes, X.same.trans (hsame.setVm s.vm)⟩,
      ⟨g, mk, s₂, L, E, ce, rfl, rfl, hx, hce, hcv, hcl, rfl, hL, rfl, rfl⟩, ?_⟩
    show Steps p.tables e below _ (((({ U with heap := s₂.heap, slotsUsed := s₂.slotsUsed } : State).setVm s₂.vm).setTop g).pushFrame (.throwing q))
    rw [← hs₂]
    exact hsteps
end Payer
section Calls
variable {p : Program} {l : Launch} {e : Env} {R : Room} {s : State} {m : MethodId} {args : Array Value} {below : List Frame} {meth : Method} {c : Code} {T : State} {locs : List Loc} {cells slots : Nat}
theorem vx_callV (X : Stand p l e R s m args below meth c T locs cells slots) (hexec : p.tables.exec = Jvm.exec) {own C : String} {index : Nat} {y : MethodName} {bytes : ByteArray} {maxL : Nat} {ret : Option FieldType}
    (hown : s.vm.findClass own = some m.cls) (hlink : (Cond.methodLink own index y).before args s = true) (hinst : (Cond.instanceMethod y).before args s = true) (hsel : (Cond.selects C y y).before args s = true)
    (hcode : (Cond.code y bytes maxL ret).before args s = true) (hy : y.cls ≠ "java/lang/invoke/MethodHandle" ∧ y.cls ≠ "java/lang/invoke/VarHandle")
    {W9 : Nat} {Pre : Pt → Array Value → Prop} {Post : Pt → Array Value → Option Value → Pt → Prop} {PostX : Pt → Array Value → Addr → Pt → Prop} (hK : vx_Back l R p e below s args y 3 W9 Pre Post PostX)
    {b : Addr} {cellB : Cell} (hcell : T.heap[b]? = some cellB) (hobj : cellB.vm.isStatics = false) (hcls : s.vm.findClass C = some cellB.cls)
    {g : JFrame} (hg : g.method = m) (hsize : g.locals.size = c.maxLocals) {argsL rest : List Value} (hlen : ∀ sig, parseMethodDescriptor y.desc = some sig → argsL.length = sig.parameters.length)
    (hstack : g.stack = argsL.reverse ++ .ref b :: rest) (hW : 2 * g.monitorRoom + (rest.map fun v => v.category).sum ≤ W9) (hdg : decode c.code g.pc = .ok (.invokevirtual index, 3))
    (hpre : ∀ vm₁, s.WarmedH vm₁ → Pre ⟨T.setVm vm₁, locs, cells, slots⟩ (Value.ref b :: argsL).toArray) :
    (∃ (v : Option Value) (vm₁ : Vm) (B : Pt), s.WarmedH vm₁ ∧ Stand p l e R s m args below meth c B.U B.locs B.cells B.slots ∧ Post ⟨T.setVm vm₁, locs, cells, slots⟩ (Value.ref b :: argsL).toArray v B ∧
      ∀ target, Steps p.tables e below (B.U.setTop { g with pc := g.pc + 3, stack := v.toList ++ rest }) target → Steps p.tables e below (T.setTop g) target) ∨
    (∃ (q : Addr) (vm₁ : Vm) (B : Pt), s.WarmedH vm₁ ∧ Stand p l e R s m args below meth c B.U B.locs B.cells B.slots ∧ PostX ⟨T.setVm vm₁, locs, cells, slots⟩ (Value.ref b :: argsL).toArray q B ∧
      Steps p.tables e below (T.setTop g) ((B.U.setTop { g with stack := rest }).pushFrame (.throwing q))) := by
  obtain ⟨mk, methM, hnamed, hmethM, hstM, habM⟩ := Cond.instanceMethod_spec hinst
  obtain ⟨methM', cM, hmethM', -, -, -, -, -, -, hsigM⟩ := Cond.code_spec hnamed hcode
  cases hmethM.symm.trans hmethM'
  obtain ⟨c2, r2, m2, q1, q2, q3, q4, kP, hkP, hkPi⟩ := Cond.selects_spec hsel
  cases hcls.symm.trans q1
  cases (State.methodFound?_of_named hnamed hy).symm.trans q2
  cases hnamed.symm.trans q3
  have hselP : selectMethod e.platform s.vm cellB.cls mk = .method mk := by rw [Launch.admits_selectMethod X.admits]; exact q4
  obtain ⟨vm₁, X₁, hstep₁⟩ := X.invokevirtual hexec hown hlink hnamed hmethM hstM hkP hkPi hy (a := b) (cell := cellB) hcell
    (fun z h => by rw [h] at hobj; cases hobj) hselP hmethM habM hkP hkPi (g := g) hg (argsL := argsL) (rest := rest) (hlen _ hsigM) hstack hdg
  rcases hK m meth c ⟨T.setVm vm₁, locs, cells, slots⟩ { g with stack := rest } (.invokevirtual index) mk (Value.ref b :: argsL).toArray X₁ hg hsize hdg hW (X₁.named hnamed) (hpre vm₁ X₁.warmed) with ⟨v, B, X', hpost, hsteps⟩ | ⟨q, B, X', hpost, hsteps⟩
  · exact Or.inl ⟨v, vm₁, B, X₁.warmed, X', hpost, fun target h => hstep₁ _ fun acts => by rw [doInvoke_state]; exact hsteps.trans h⟩
  · exact Or.inr ⟨q, vm₁, B, X₁.warmed, X', hpost, hstep₁ _ fun acts => by rw [doInvoke_state]; exact hsteps⟩
theorem vx_callS (X : Stand p l e R s m args below meth c T locs cells slots) (hexec : p.tables.exec = Jvm.exec) {own : String} {index : Nat} {y : MethodName} {bytes : ByteArray} {maxL : Nat} {ret : Option FieldType}
    (hown : s.vm.findClass own = some m.cls) (hlink : (Cond.methodLink own index y).before args s = true) (hstat : (Cond.static y).before args s = true) (hinit : (Cond.initialized y.cls).before args s = true)
    (hcode : (Cond.code y bytes maxL ret).before args s = true) (hy : y.cls ≠ "java/lang/invoke/MethodHandle" ∧ y.cls ≠ "java/lang/invoke/VarHandle")
    {W9 : Nat} {Pre : Pt → Array Value → Prop} {Post : Pt → Array Value → Option Value → Pt → Prop} {PostX : Pt → Array Value → Addr → Pt → Prop} (hK : vx_Back l R p e below s args y 3 W9 Pre Post PostX)
    {g : JFrame} (hg : g.method = m) (hsize : g.locals.size = c.maxLocals) {argsL rest : List Value} (hlen : ∀ sig, parseMethodDescriptor y.desc = some sig → argsL.length = sig.parameters.length)
    (hstack : g.stack = argsL.reverse ++ rest) (hW : 2 * g.monitorRoom + (rest.map fun v => v.category).sum ≤ W9) (hdg : decode c.code g.pc = .ok (.invokestatic index, 3))
    (hpre : ∀ vm₁, s.WarmedH vm₁ → Pre ⟨T.setVm vm₁, locs, cells, slots⟩ argsL.toArray) :
    (∃ (v : Option Value) (vm₁ : Vm) (B : Pt), s.WarmedH vm₁ ∧ Stand p l e R s m args below meth c B.U B.locs B.cells B.slots ∧ Post ⟨T.setVm vm₁, locs, cells, slots⟩ argsL.toArray v B ∧
      ∀ target, Steps p.tables e below (B.U.setTop { g with pc := g.pc + 3, stack := v.toList ++ rest }) target → Steps p.tables e below (T.setTop g) target) ∨
    (∃ (q : Addr) (vm₁ : Vm) (B : Pt), s.WarmedH vm₁ ∧ Stand p l e R s m args below meth c B.U B.locs B.cells B.slots ∧ PostX ⟨T.setVm vm₁, locs, cells, slots⟩ argsL.toArray q B ∧
      Steps p.tables e below (T.setTop g) ((B.U.setTop { g with stack := rest }).pushFrame (.throwing q))) := by
  obtain ⟨mk, hnamed⟩ := Cond.code_named hcode
  obtain ⟨methM, cM, hmethM, -, -, -, -, -, -, hsigM⟩ := Cond.code_spec hnamed hcode
  have hstatic : methM.isStatic = true := Cond.static_spec hnamed hmethM hstat
  obtain ⟨kP, hkP, -⟩ := className_of_methodNamed hnamed
  have hinitP : kP.init = .initialized := Cond.initialized_spec (findClass_of_methodNamed hnamed) hkP hinit
  obtain ⟨vm₁, X₁, hstep₁⟩ := X.invokestatic hexec hown hlink hnamed hmethM hstatic hkP hinitP hy (g := g) hg (argsL := argsL) (rest := rest) (hlen _ hsigM) hstack hdg
  rcases hK m meth c ⟨T.setVm vm₁, locs, cells, slots⟩ { g with stack := rest } (.invokestatic index) mk argsL.toArray X₁ hg hsize hdg hW (X₁.named hnamed) (hpre vm₁ X₁.warmed) with ⟨v, B, X', hpost, hsteps⟩ | ⟨q, B, X', hpost, hsteps⟩
  · exact Or.inl ⟨v, vm₁, B, X₁.warmed, X', hpost, fun target h => hstep₁ _ fun acts => by rw [doInvoke_state]; exact hsteps.trans h⟩
  · exact Or.inr ⟨q, vm₁, B, X₁.warmed, X', hpost, hstep₁ _ fun acts => by rw [doInvoke_state]; exact hsteps⟩
end Calls
theorem vx_cls {s : State} {T : State} {vm₁ : Vm} {E : String} {k : ClassId} (hW : s.WarmedH vm₁) (h : (T.setVm vm₁).vm.findClass E = some k) : s.vm.findClass E = some k := by
  have h1 : vm₁.findClass E = some k := h
  rw [hW.alike.findClass] at h1
  exact h1
/-- the method's frame g, with q thrown over it -/
def vx_W (p : Program) (l : Launch) (e : Env) (R : Room) (s : State) (m : MethodId) (args : Array Value) (below : List Frame) (meth : Method) (c : Code) (H : Heap) (locs : List Loc) (cells slots : Nat) (Q : State → Prop) (g : JFrame) (q : Addr) : Prop :=
  ∀ T : State, T.heap = H → Stand p l e R s m args below meth c T locs cells slots → ∃ t, Steps p.tables e below ((T.setTop g).pushFrame (.throwing q)) t ∧ Q t
def vx_Run (p : Program) (l : Launch) (e : Env) (R : Room) (s : State) (m : MethodId) (args : Array Value) (below : List Frame) (meth : Method) (c : Code) (H : Heap) (locs : List Loc) (cells slots mc ms : Nat) (g : JFrame) (rest : List Value) (Qa : State → Outcome → State → Prop) (XC : String → State → State → Prop) (free : Addr → Prop) : Prop :=
  ∀ T : State, T.heap = H → Stand p l e R s m args below meth c T locs cells slots →
    (∃ (v : Option Value) (st₀ t T' : State) (L : List Loc), st₀.heap = H ∧ Stand p l e R s m args below meth c T' (locs ++ L) (cells + mc) (slots + ms) ∧ (∀ q ∈ L, free q.base) ∧ T'.heap = t.heap ∧ T'.vm = t.vm ∧ Qa st₀ (.returned v) t ∧
      Goes p e below T g T' { g with pc := g.pc + 3, stack := v.toList ++ rest }) ∨
    (∃ (q : Addr) (st₀ t T' : State) (L : List Loc) (E : String) (ce : Cell), st₀.heap = H ∧ Stand p l e R s m args below meth c T' (locs ++ L) (cells + mc) (slots + ms) ∧ (∀ z ∈ L, free z.base) ∧ T'.heap = t.heap ∧ T'.vm = t.vm ∧ XC E st₀ t ∧ t.heap[q]? = some ce ∧ ce.vm = .none ∧ s.vm.findClass E = some ce.cls ∧
      Steps p.tables e below (T.setTop g) ((T'.setTop { g with stack := rest }).pushFrame (.throwing q)))
def vx_X {S : Type} (px : S → Prop) (B : String → S → State → Prop) (A : Nat → Prop) : String → State → State → Prop := fun E st t => ∃ u : S, px u ∧ B E u t ∧ va_F A st t
section Runs
variable {p : Program} {l : Launch} {e : Env} {R : Room} {s : State} {m : MethodId} {args : Array Value} {below : List Frame} {meth : Method} {c : Code} {H : Heap} {locs : List Loc} {cells slots : Nat}
variable {y : MethodName} {bytes cc : ByteArray} {maxL nL mc ms n index : Nat} {ret : Option FieldType} {ws : List Cond} {rm : Room} {Pc : Array Value → State → Prop} {Qc : Array Value → State → Outcome → State → Prop} {XC : String → State → State → Prop} {free : Addr → Prop} {Ts : List Cond} {own C : String} {b : Addr} {As rest : List Value} {g : JFrame}
theorem vx_callBack (cb : CallB R s args own index y bytes maxL ret ws rm mc ms n) (hM : vx_Met l y ws rm Pc Qc XC mc ms free) (hbl : FrameBlind Pc) : vx_Back l R p e below s args y 3 8 (PreOf R mc ms Pc) (PostOf Qc mc ms free) (vx_Post XC mc ms free) := by
  obtain ⟨hrc, hrs, hfr, hlo, hws, hcw, -, hini, -⟩ := cb
  exact vx_back (bytes := bytes) (maxL := maxL) (ret := ret) hM hbl hrc hrs hfr hlo hws hcw (fun a' U hW => word_at hW (Or.inl (by first | rfl | simp [Cond.onTables, Cond.keeps, Cond.steady])) hini)
theorem vx_runV (S : CallFix p m c cc nL s args Ts own) (hM : vx_Met l y ws rm Pc Qc XC mc ms free) (cw : CallW R s args own C index y bytes maxL ret ws rm mc ms n) (hp : PreV s H C b Pc As)
    (hg : g.method = m) (hn : As.length = n) (hsize : g.locals.size = nL) (hstack : g.stack = As.reverse ++ .ref b :: rest) (hW : 2 * g.monitorRoom + (rest.map fun v => v.category).sum ≤ 8) (hdg : decode cc g.pc = .ok (.invokevirtual index, 3)) (hf : cells + mc ≤ R.cells ∧ slots + ms ≤ R.slots) :
    vx_Run p l e R s m args below meth c H locs cells slots mc ms g rest (Qc (Value.ref b :: As).toArray) XC free := by
  have hK : vx_Back l R p e below s args y 3 8 (PreOf R mc ms Pc) (PostOf Qc mc ms free) (vx_Post XC mc ms free) := vx_callBack cw.1 hM hp.1
  obtain ⟨⟨-, -, -, -, -, -, hcode, -, hy, hlen, hl⟩, hin, hse⟩ := cw
  obtain ⟨hx, hb, hml, ho, -⟩ := S
  obtain ⟨-, ⟨cellB, hcB, hoB, hclB⟩, hPc⟩ := hp
  intro T hT X
  rcases vx_callV X hx (C := C) (bytes := bytes) (maxL := maxL) (ret := ret) ho hl hin hse hcode hy hK (by rw [hT]; exact hcB) hoB hclB hg (hsize.trans hml.symm) (argsL := As) (rest := rest) (fun sig h => hn.trans (hlen sig h)) hstack hW (by rw [hb]; exact hdg)
    (fun vm₁ hW₁ => ⟨hf.1, hf.2, hPc (T.setVm vm₁) hT hW₁⟩) with ⟨v, vm₁, ⟨U', l2, c2, s2⟩, hW₁, X', ⟨g', mk, t, L, e1, e2, hq, h1, hL, h2, h3⟩, st⟩ | ⟨q, vm₁, ⟨U', l2, c2, s2⟩, hW₁, X', ⟨g', mk, t, L, E, ce, e1, e2, hq, hce, hcv, hcl, h1, hL, h2, h3⟩, st⟩
  · dsimp only [Pt.U, Pt.locs, Pt.cells, Pt.slots] at X' e1 e2 h1 h2 h3 st
    subst h1; subst h2; subst h3
    exact Or.inl ⟨v, (T.setVm vm₁).calling g' mk (Value.ref b :: As).toArray, t, U', L, hT, X', hL, e1, e2, hq, st⟩
  · dsimp only [Pt.U, Pt.locs, Pt.cells, Pt.slots] at X' e1 e2 h1 h2 h3 st hcl
    subst h1; subst h2; subst h3
    exact Or.inr ⟨q, (T.setVm vm₁).calling g' mk (Value.ref b :: As).toArray, t, U', L, E, ce, hT, X', hL, e1, e2, hq, hce, hcv, vx_cls hW₁ hcl, st⟩
theorem vx_runS (S : CallFix p m c cc nL s args Ts own) (hM : vx_Met l y ws rm Pc Qc XC mc ms free) (cw : CallB R s args own index y bytes maxL ret ws rm mc ms n ∧ (Cond.static y).before args s = true) (hp : PreS s H Pc As)
    (hg : g.method = m) (hn : As.length = n) (hsize : g.locals.size = nL) (hstack : g.stack = As.reverse ++ rest) (hW : 2 * g.monitorRoom + (rest.map fun v => v.category).sum ≤ 8) (hdg : decode cc g.pc = .ok (.invokestatic index, 3)) (hf : cells + mc ≤ R.cells ∧ slots + ms ≤ R.slots) :
    vx_Run p l e R s m args below meth c H locs cells slots mc ms g rest (Qc As.toArray) XC free := by
  have hK : vx_Back l R p e below s args y 3 8 (PreOf R mc ms Pc) (PostOf Qc mc ms free) (vx_Post XC mc ms free) := vx_callBack cw.1 hM hp.1
  obtain ⟨⟨-, -, -, -, -, -, hcode, hini, hy, hlen, hl⟩, hstt⟩ := cw
  obtain ⟨hx, hb, hml, ho, -⟩ := S
  intro T hT X
  rcases vx_callS X hx (bytes := bytes) (maxL := maxL) (ret := ret) ho hl hstt hini hcode hy hK hg (hsize.trans hml.symm) (argsL := As) (rest := rest) (fun sig h => hn.trans (hlen sig h)) hstack hW (by rw [hb]; exact hdg)
    (fun vm₁ hW₁ => ⟨hf.1, hf.2, hp.2 (T.setVm vm₁) hT hW₁⟩) with ⟨v, vm₁, ⟨U', l2, c2, s2⟩, hW₁, X', ⟨g', mk, t, L, e1, e2, hq, h1, hL, h2, h3⟩, st⟩ | ⟨q, vm₁, ⟨U', l2, c2, s2⟩, hW₁, X', ⟨g', mk, t, L, E, ce, e1, e2, hq, hce, hcv, hcl, h1, hL, h2, h3⟩, st⟩
  · dsimp only [Pt.U, Pt.locs, Pt.cells, Pt.slots] at X' e1 e2 h1 h2 h3 st
    subst h1; subst h2; subst h3
    exact Or.inl ⟨v, (T.setVm vm₁).calling g' mk As.toArray, t, U', L, hT, X', hL, e1, e2, hq, st⟩
  · dsimp only [Pt.U, Pt.locs, Pt.cells, Pt.slots] at X' e1 e2 h1 h2 h3 st hcl
    subst h1; subst h2; subst h3
    exact Or.inr ⟨q, (T.setVm vm₁).calling g' mk As.toArray, t, U', L, E, ce, hT, X', hL, e1, e2, hq, hce, hcv, vx_cls hW₁ hcl, st⟩
end Runs
section Rows
variable {p : Program} {l : Launch} {e : Env} {R : Room} {s : State} {m : MethodId} {args : Array Value} {below : List Frame} {meth : Method} {c : Code} {H : Heap} {locs : List Loc} {cells slots : Nat} {Q : State → Prop}
variable {mc ms : Nat} {free : Addr → Prop} {A0 A1 : Nat → Prop} {H0 : Heap} {a : Array Value} {pc : Nat} {ls : Array Slot} {st0 rest : List Value}
theorem vx_keep {st₀ t T' : State} {L : List Loc} (h0 : st₀.heap = H) (e1 : T'.heap = t.heap) (hS : va_S A0 H0 H locs) (hA : ∀ q, q < H.size → A1 q → A0 q) (hf : ∀ q, free q → A0 q) (hL : ∀ q ∈ L, free q.base) (hF : va_F A1 st₀ t) :
    H.size ≤ T'.heap.size ∧ (∀ q : Nat, q < H.size → ¬ A1 q → T'.heap[q]? = H[q]?) ∧ va_S A0 H0 T'.heap (locs ++ L) := by
  obtain ⟨hz, hk⟩ := hF
  rw [h0] at hz hk
  exact ⟨by rw [e1]; exact hz, fun q h1 h2 => by rw [e1]; exact hk q h1 h2,
    ⟨Nat.le_trans hS.1 (by rw [e1]; exact hz), fun q h1 h2 => by rw [e1, hk q (Nat.lt_of_lt_of_le h1 hS.1) (fun z => h2 (hA q (Nat.lt_of_lt_of_le h1 hS.1) z))]; exact hS.2.1 q h1 h2, fun q hq => by
      rcases List.mem_append.mp hq with h | h
      · exact hS.2.2 q h
      · exact hf _ (hL q h)⟩⟩
theorem vx_calli {S SX : Type} {post : Int32 → S → Prop} {px : SX → Prop} {B : S → State → Prop} {BX : String → SX → State → Prop} {AX : Nat → Prop} (hr : vx_Run p l e R s m args below meth c H locs cells slots mc ms (F0 m pc ls st0) rest (va_Qi post B A1 a) (vx_X px BX AX) free) (hS : va_S A0 H0 H locs) (hA : ∀ q, q < H.size → A1 q → A0 q) (hf : ∀ q, free q → A0 q) (hAX : ∀ q, q < H.size → AX q → A0 q)
    (kx : ∀ (E : String) (ce : Cell) (q9 : Addr) (u : SX) (t : State) (H1 : Heap) (locs1 : List Loc), t.heap = H1 → s.vm.Alike t.vm → px u → BX E u t → H.size ≤ H1.size → (∀ q : Nat, q < H.size → ¬ AX q → H1[q]? = H[q]?) → va_S A0 H0 H1 locs1 → H1[q9]? = some ce → ce.vm = .none → s.vm.findClass E = some ce.cls → vx_W p l e R s m args below meth c H1 locs1 (cells + mc) (slots + ms) Q (F0 m pc ls rest) q9)
    (kk : ∀ (r : Int32) (u : S) (t : State) (H1 : Heap) (locs1 : List Loc), t.heap = H1 → s.vm.Alike t.vm → post r u → B u t → H.size ≤ H1.size → (∀ q : Nat, q < H.size → ¬ A1 q → H1[q]? = H[q]?) → va_S A0 H0 H1 locs1 → W p l e R s m args below meth c H1 locs1 (cells + mc) (slots + ms) Q (F0 m (pc + 3) ls (.int r :: rest))) : W p l e R s m args below meth c H locs cells slots Q (F0 m pc ls st0) := by
  intro T hT X
  rcases hr T hT X with ⟨v, st₀, t, T', L, h0, X', hL, e1, e2, ⟨⟨r, u, hv, hp, hb⟩, hF⟩, st⟩ | ⟨q, st₀, t, T', L, E, ce, h0, X', hL, e1, e2, ⟨u, hp, hb, hF⟩, hce, hcv, hcl, st⟩
  · cases hv
    obtain ⟨k1, k2, k3⟩ := vx_keep h0 e1 hS hA hf hL hF
    obtain ⟨t2, a1, b1⟩ := kk r u t T'.heap (locs ++ L) e1.symm (by rw [← e2]; exact X'.warmed.alike) hp hb k1 k2 k3 T' rfl X'
    exact ⟨t2, st t2 a1, b1⟩
  · obtain ⟨k1, k2, k3⟩ := vx_keep h0 e1 hS hAX hf hL hF
    obtain ⟨t2, a1, b1⟩ := kx E ce q u t T'.heap (locs ++ L) e1.symm (by rw [← e2]; exact X'.warmed.alike) hp hb k1 k2 k3 (by rw [e1]; exact hce) hcv hcl T' rfl X'
    exact ⟨t2, st.trans a1, b1⟩
theorem vx_calll {S SX : Type} {post : Int64 → S → Prop} {px : SX → Prop} {B : S → State → Prop} {BX : String → SX → State → Prop} {AX : Nat → Prop} (hr : vx_Run p l e R s m args below meth c H locs cells slots mc ms (F0 m pc ls st0) rest (va_Ql post B A1 a) (vx_X px BX AX) free) (hS : va_S A0 H0 H locs) (hA : ∀ q, q < H.size → A1 q → A0 q) (hf : ∀ q, free q → A0 q) (hAX : ∀ q, q < H.size → AX q → A0 q)
    (kx : ∀ (E : String) (ce : Cell) (q9 : Addr) (u : SX) (t : State) (H1 : Heap) (locs1 : List Loc), t.heap = H1 → s.vm.Alike t.vm → px u → BX E u t → H.size ≤ H1.size → (∀ q : Nat, q < H.size → ¬ AX q → H1[q]? = H[q]?) → va_S A0 H0 H1 locs1 → H1[q9]? = some ce → ce.vm = .none → s.vm.findClass E = some ce.cls → vx_W p l e R s m args below meth c H1 locs1 (cells + mc) (slots + ms) Q (F0 m pc ls rest) q9)
    (kk : ∀ (r : Int64) (u : S) (t : State) (H1 : Heap) (locs1 : List Loc), t.heap = H1 → s.vm.Alike t.vm → post r u → B u t → H.size ≤ H1.size → (∀ q : Nat, q < H.size → ¬ A1 q → H1[q]? = H[q]?) → va_S A0 H0 H1 locs1 → W p l e R s m args below meth c H1 locs1 (cells + mc) (slots + ms) Q (F0 m (pc + 3) ls (.long r :: rest))) : W p l e R s m args below meth c H locs cells slots Q (F0 m pc ls st0) := by
  intro T hT X
  rcases hr T hT X with ⟨v, st₀, t, T', L, h0, X', hL, e1, e2, ⟨⟨r, u, hv, hp, hb⟩, hF⟩, st⟩ | ⟨q, st₀, t, T', L, E, ce, h0, X', hL, e1, e2, ⟨u, hp, hb, hF⟩, hce, hcv, hcl, st⟩
  · cases hv
    obtain ⟨k1, k2, k3⟩ := vx_keep h0 e1 hS hA hf hL hF
    obtain ⟨t2, a1, b1⟩ := kk r u t T'.heap (locs ++ L) e1.symm (by rw [← e2]; exact X'.warmed.alike) hp hb k1 k2 k3 T' rfl X'
    exact ⟨t2, st t2 a1, b1⟩
  · obtain ⟨k1, k2, k3⟩ := vx_keep h0 e1 hS hAX hf hL hF
    obtain ⟨t2, a1, b1⟩ := kx E ce q u t T'.heap (locs ++ L) e1.symm (by rw [← e2]; exact X'.warmed.alike) hp hb k1 k2 k3 (by rw [e1]; exact hce) hcv hcl T' rfl X'
    exact ⟨t2, st.trans a1, b1⟩
theorem vx_callf {S SX : Type} {post : UInt32 → S → Prop} {px : SX → Prop} {B : S → State → Prop} {BX : String → SX → State → Prop} {AX : Nat → Prop} (hr : vx_Run p l e R s m args below meth c H locs cells slots mc ms (F0 m pc ls st0) rest (va_Qf post B A1 a) (vx_X px BX AX) free) (hS : va_S A0 H0 H locs) (hA : ∀ q, q < H.size → A1 q → A0 q) (hf : ∀ q, free q → A0 q) (hAX : ∀ q, q < H.size → AX q → A0 q)
    (kx : ∀ (E : String) (ce : Cell) (q9 : Addr) (u : SX) (t : State) (H1 : Heap) (locs1 : List Loc), t.heap = H1 → s.vm.Alike t.vm → px u → BX E u t → H.size ≤ H1.size → (∀ q : Nat, q < H.size → ¬ AX q → H1[q]? = H[q]?) → va_S A0 H0 H1 locs1 → H1[q9]? = some ce → ce.vm = .none → s.vm.findClass E = some ce.cls → vx_W p l e R s m args below meth c H1 locs1 (cells + mc) (slots + ms) Q (F0 m pc ls rest) q9)
    (kk : ∀ (r : UInt32) (u : S) (t : State) (H1 : Heap) (locs1 : List Loc), t.heap = H1 → s.vm.Alike t.vm → post r u → B u t → H.size ≤ H1.size → (∀ q : Nat, q < H.size → ¬ A1 q → H1[q]? = H[q]?) → va_S A0 H0 H1 locs1 → W p l e R s m args below meth c H1 locs1 (cells + mc) (slots + ms) Q (F0 m (pc + 3) ls (.float r :: rest))) : W p l e R s m args below meth c H locs cells slots Q (F0 m pc ls st0) := by
  intro T hT X
  rcases hr T hT X with ⟨v, st₀, t, T', L, h0, X', hL, e1, e2, ⟨⟨r, u, hv, hp, hb⟩, hF⟩, st⟩ | ⟨q, st₀, t, T', L, E, ce, h0, X', hL, e1, e2, ⟨u, hp, hb, hF⟩, hce, hcv, hcl, st⟩
  · cases hv
    obtain ⟨k1, k2, k3⟩ := vx_keep h0 e1 hS hA hf hL hF
    obtain ⟨t2, a1, b1⟩ := kk r u t T'.heap (locs ++ L) e1.symm (by rw [← e2]; exact X'.warmed.alike) hp hb k1 k2 k3 T' rfl X'
    exact ⟨t2, st t2 a1, b1⟩
  · obtain ⟨k1, k2, k3⟩ := vx_keep h0 e1 hS hAX hf hL hF
    obtain ⟨t2, a1, b1⟩ := kx E ce q u t T'.heap (locs ++ L) e1.symm (by rw [← e2]; exact X'.warmed.alike) hp hb k1 k2 k3 (by rw [e1]; exact hce) hcv hcl T' rfl X'
    exact ⟨t2, st.trans a1, b1⟩
theorem vx_calld {S SX : Type} {post : UInt64 → S → Prop} {px : SX → Prop} {B : S → State → Prop} {BX : String → SX → State → Prop} {AX : Nat → Prop} (hr : vx_Run p l e R s m args below meth c H locs cells slots mc ms (F0 m pc ls st0) rest (va_Qd post B A1 a) (vx_X px BX AX) free) (hS : va_S A0 H0 H locs) (hA : ∀ q, q < H.size → A1 q → A0 q) (hf : ∀ q, free q → A0 q) (hAX : ∀ q, q < H.size → AX q → A0 q)
    (kx : ∀ (E : String) (ce : Cell) (q9 : Addr) (u : SX) (t : State) (H1 : Heap) (locs1 : List Loc), t.heap = H1 → s.vm.Alike t.vm → px u → BX E u t → H.size ≤ H1.size → (∀ q : Nat, q < H.size → ¬ AX q → H1[q]? = H[q]?) → va_S A0 H0 H1 locs1 → H1[q9]? = some ce → ce.vm = .none → s.vm.findClass E = some ce.cls → vx_W p l e R s m args below meth c H1 locs1 (cells + mc) (slots + ms) Q (F0 m pc ls rest) q9)
    (kk : ∀ (r : UInt64) (u : S) (t : State) (H1 : Heap) (locs1 : List Loc), t.heap = H1 → s.vm.Alike t.vm → post r u → B u t → H.size ≤ H1.size → (∀ q : Nat, q < H.size → ¬ A1 q → H1[q]? = H[q]?) → va_S A0 H0 H1 locs1 → W p l e R s m args below meth c H1 locs1 (cells + mc) (slots + ms) Q (F0 m (pc + 3) ls (.double r :: rest))) : W p l e R s m args below meth c H locs cells slots Q (F0 m pc ls st0) := by
  intro T hT X
  rcases hr T hT X with ⟨v, st₀, t, T', L, h0, X', hL, e1, e2, ⟨⟨r, u, hv, hp, hb⟩, hF⟩, st⟩ | ⟨q, st₀, t, T', L, E, ce, h0, X', hL, e1, e2, ⟨u, hp, hb, hF⟩, hce, hcv, hcl, st⟩
  · cases hv
    obtain ⟨k1, k2, k3⟩ := vx_keep h0 e1 hS hA hf hL hF
    obtain ⟨t2, a1, b1⟩ := kk r u t T'.heap (locs ++ L) e1.symm (by rw [← e2]; exact X'.warmed.alike) hp hb k1 k2 k3 T' rfl X'
    exact ⟨t2, st t2 a1, b1⟩
  · obtain ⟨k1, k2, k3⟩ := vx_keep h0 e1 hS hAX hf hL hF
    obtain ⟨t2, a1, b1⟩ := kx E ce q u t T'.heap (locs ++ L) e1.symm (by rw [← e2]; exact X'.warmed.alike) hp hb k1 k2 k3 (by rw [e1]; exact hce) hcv hcl T' rfl X'
    exact ⟨t2, st.trans a1, b1⟩
theorem vx_callv {S SX : Type} {post : S → Prop} {px : SX → Prop} {B : S → State → Prop} {BX : String → SX → State → Prop} {AX : Nat → Prop} (hr : vx_Run p l e R s m args below meth c H locs cells slots mc ms (F0 m pc ls st0) rest (va_Qv post B A1 a) (vx_X px BX AX) free) (hS : va_S A0 H0 H locs) (hA : ∀ q, q < H.size → A1 q → A0 q) (hf : ∀ q, free q → A0 q) (hAX : ∀ q, q < H.size → AX q → A0 q)
    (kx : ∀ (E : String) (ce : Cell) (q9 : Addr) (u : SX) (t : State) (H1 : Heap) (locs1 : List Loc), t.heap = H1 → s.vm.Alike t.vm → px u → BX E u t → H.size ≤ H1.size → (∀ q : Nat, q < H.size → ¬ AX q → H1[q]? = H[q]?) → va_S A0 H0 H1 locs1 → H1[q9]? = some ce → ce.vm = .none → s.vm.findClass E = some ce.cls → vx_W p l e R s m args below meth c H1 locs1 (cells + mc) (slots + ms) Q (F0 m pc ls rest) q9)
    (kk : ∀ (u : S) (t : State) (H1 : Heap) (locs1 : List Loc), t.heap = H1 → s.vm.Alike t.vm → post u → B u t → H.size ≤ H1.size → (∀ q : Nat, q < H.size → ¬ A1 q → H1[q]? = H[q]?) → va_S A0 H0 H1 locs1 → W p l e R s m args below meth c H1 locs1 (cells + mc) (slots + ms) Q (F0 m (pc + 3) ls (rest))) : W p l e R s m args below meth c H locs cells slots Q (F0 m pc ls st0) := by
  intro T hT X
  rcases hr T hT X with ⟨v, st₀, t, T', L, h0, X', hL, e1, e2, ⟨⟨u, hv, hp, hb⟩, hF⟩, st⟩ | ⟨q, st₀, t, T', L, E, ce, h0, X', hL, e1, e2, ⟨u, hp, hb, hF⟩, hce, hcv, hcl, st⟩
  · cases hv
    obtain ⟨k1, k2, k3⟩ := vx_keep h0 e1 hS hA hf hL hF
    obtain ⟨t2, a1, b1⟩ := kk u t T'.heap (locs ++ L) e1.symm (by rw [← e2]; exact X'.warmed.alike) hp hb k1 k2 k3 T' rfl X'
    exact ⟨t2, st t2 a1, b1⟩
  · obtain ⟨k1, k2, k3⟩ := vx_keep h0 e1 hS hAX hf hL hF
    obtain ⟨t2, a1, b1⟩ := kx E ce q u t T'.heap (locs ++ L) e1.symm (by rw [← e2]; exact X'.warmed.alike) hp hb k1 k2 k3 (by rw [e1]; exact hce) hcv hcl T' rfl X'
    exact ⟨t2, st.trans a1, b1⟩
/-- caught by the row x of this method's table; the rows ahead don't take it -/
theorem vx_catch {own name : String} {E : String} {ce : Cell} {q : Addr} (hown : s.vm.findClass own = some m.cls) (pre : List ExceptionTableEntry) (x : ExceptionTableEntry) (suf : List ExceptionTableEntry) (hsplit : c.exceptionTable.toList = pre ++ x :: suf)
    (hpass : ∀ z ∈ pre, covers z pc = false ∨ (z.catchType ≠ 0 ∧ ∃ nm : String, (Cond.classLink own z.catchType nm).before args s = true ∧ va_Nc E nm s)) (hx : covers x pc = true) (h0 : x.catchType ≠ 0)
    (hlink : (Cond.classLink own x.catchType name).before args s = true) (hcast : (Cond.castable E name).before args s = true) (hcell : H[q]? = some ce) (hv : ce.vm = .none) (hcl : s.vm.findClass E = some ce.cls)
    (kk : W p l e R s m args below meth c H locs cells slots Q (F0 m x.handlerPc ls [.ref q])) : vx_W p l e R s m args below meth c H locs cells slots Q (F0 m pc ls rest) q := by
  intro T hT X
  have hpl : e.platform.magicAccessors = ({} : Platform).magicAccessors := by rw [X.admits.platform]
  obtain ⟨c3, c4, hc3, hc4, hasg⟩ := Cond.castable_spec hcast
  cases Option.some.inj (hc3.symm.trans hcl)
  obtain ⟨c5, hc5, hcl5⟩ := Cond.classLink_spec hown hlink e.platform hpl
  cases Option.some.inj (hc4.symm.trans hc5)
  obtain ⟨vm', X', st⟩ := X.thenCaughtThrough q (g := F0 m pc ls rest) rfl (Steps.refl _) (by rw [hT]; exact hcell) (by rw [hv]; rfl) (by obtain ⟨k9, h9, -⟩ := Vm.findClass_spec hcl; exact ⟨k9, h9⟩) pre x suf hsplit
    (fun z hz => by
      rcases hpass z hz with h | ⟨hz0, nm, hl1, hn1⟩
      · exact Or.inl h
      · obtain ⟨c6, hc6, hcl6⟩ := Cond.classLink_spec hown hl1 e.platform hpl
        obtain ⟨a8, b8, h1, h2, h3⟩ := hn1
        cases Option.some.inj (h1.symm.trans hcl)
        cases Option.some.inj (h2.symm.trans hc6)
        exact Or.inr ⟨hz0, _, hcl6, h3⟩) hx (Or.inr ⟨h0, c4, hcl5, hasg⟩)
  obtain ⟨t, a1, b1⟩ := kk (T.setVm vm') hT X'
  exact ⟨t, st.trans a1, b1⟩
end Rows
section Ends
variable {p : Program} {l : Launch} {e : Env} {R : Room} {s : State} {m : MethodId} {args : Array Value} {below : List Frame} {meth : Method} {c : Code} {H : Heap} {locs : List Loc} {cells slots : Nat} {Q : State → Prop}
variable {mc ms : Nat} {free : Addr → Prop} {A0 A1 : Nat → Prop} {H0 : Heap} {a : Array Value} {ls : Array Slot} {st0 rest : List Value}
variable {Qc : Array Value → State → Outcome → State → Prop} {XC : String → State → State → Prop}
/-- what a body that may throw owes at its end -/
def vx_MQ (below : List Frame) (Qc : Array Value → State → Outcome → State → Prop) (XC : String → State → State → Prop) (a : Array Value) (s : State) (mc ms : Nat) (free : Addr → Prop) : State → Prop := fun t =>
  ∃ o, t.status = .running ∧ Ended t below o ∧ vx_Q Qc XC mc ms free a s o t
theorem vx_ret {g : JFrame} {mc ms : Nat} (k : W p l e R s m args below meth c H locs cells slots (MQ below Qc args s mc ms free) g) : W p l e R s m args below meth c H locs cells slots (vx_MQ below Qc XC args s mc ms free) g := by
  intro T hT X
  obtain ⟨t, a1, o, b1, b2, b3, b4⟩ := k T hT X
  exact ⟨t, a1, o, b1, b2, Or.inl ⟨b3, b4⟩⟩
/-- not caught here: it goes on to the caller -/
theorem vx_widen {g : JFrame} {q : Addr} {k n : Nat} (h1 : cells ≤ k) (h2 : slots ≤ n) (kk : vx_W p l e R s m args below meth c H locs k n Q g q) : vx_W p l e R s m args below meth c H locs cells slots Q g q := fun T hT X => kk T hT (stand_widen X h1 h2)
theorem vx_out {pc : Nat} {E : String} {ce : Cell} {q : Addr} {mc ms : Nat} (hout : ∀ x ∈ c.exceptionTable.toList, covers x pc = false) (hlocks : meth.locks = false) (hcell : H[q]? = some ce) (hv : ce.vm = .none) (hcl : s.vm.findClass E = some ce.cls)
    (hx : ∀ t : State, t.heap = H → s.vm.Alike t.vm → XC E s t) (hf : ∀ z ∈ locs, free z.base) (hc : cells ≤ mc) (hs : slots ≤ ms) :
    vx_W p l e R s m args below meth c H locs cells slots (vx_MQ below Qc XC args s mc ms free) (F0 m pc ls rest) q := by
  intro T hT X
  obtain ⟨st1, hrun, hend, hW, hsm⟩ := X.leaveThrown q (g := F0 m pc ls rest) rfl rfl rfl hout hlocks
  have hcell9 : (T.setFrames (.throwing q :: below)).heap[q]? = some ce := by
    show T.heap[q]? = some ce
    rw [hT]; exact hcell
  exact ⟨_, st1, .threw q, hrun, hend, Or.inr ⟨q, rfl, E, ce, locs, hx _ hT hW.alike, hcell9, hv, hcl, hW, hsm.mono hc hs, hf⟩⟩
theorem vx_frame {U : State} {k n : Nat} (h : s.sameButNew ({ U with vm := s.vm } : State) locs k n) : s.heap.size ≤ U.heap.size ∧ ∀ q : Nat, q < s.heap.size → (∀ z ∈ locs, z.base ≠ q) → U.heap[q]? = s.heap[q]? := by
  obtain ⟨-, h2, -, -, -, h6⟩ := h
  refine ⟨h2, fun q hq hz => ?_⟩
  obtain ⟨c9, e1, e2, e3, e4⟩ := h6 q _ (Array.getElem?_eq_getElem hq)
  have hs : c9.slots = (s.heap[q]).slots := Array.ext_getElem? fun i => e4 i fun hm => hz _ hm rfl
  have h9 : c9 = s.heap[q] := by
    rw [hs] at e2
    exact e2
  have e5 : U.heap[q]? = some c9 := e1
  rw [e5, h9, Array.getElem?_eq_getElem hq]
/-- the words of a throw but the four that speak of the heap -/
def vx_no (w : Cond) : Bool := decide (w ≠ .isRef (.static Bundle.tN "UNASSIGNED_STACK" Bundle.steD)) && decide (w ≠ .isRef (.static Bundle.tN "SUPPRESSED_SENTINEL" Bundle.listD)) && decide (w ≠ .laysStatic Bundle.tN "UNASSIGNED_STACK" Bundle.steD) && decide (w ≠ .laysStatic Bundle.tN "SUPPRESSED_SENTINEL" Bundle.listD)
def vx_at0 (own : String) (ic : Nat) (X : String) (names : List String) : List Cond := (Bundle.ownAtoms0 own ic X names).filter vx_no
def vx_atS (own : String) (ic : Nat) (X : String) (names : List String) : List Cond := (Bundle.ownAtoms own ic X names).filter vx_no
/-- a word that the tables alone decide, or a good one -/
def vx_ot (w : Cond) : Bool := w.onTables || goodWord w
theorem vx_ot_at {args a' : Array Value} {s U : State} {w : Cond} (hW : s.WarmedH U.vm) (hvm : s.vm = U.vm) (hg : vx_ot w = true) (h : w.before args s = true) : w.before a' U = true := by
  simp only [vx_ot, Bool.or_eq_true] at hg
  rcases hg with hg | hg
  · exact va_tabs hg hvm h
  · exact word_at hW (good_of_word hg) h
/-- a list's words: the good ones out of the method's own list, the others by premises of their own -/
theorem vx_hat {args : Array Value} {s : State} {L B : List Cond} (h1 : ∀ w ∈ L.filter goodWord, w.before args s = true) (h2 : ∀ w ∈ L.filter (fun w => !goodWord w), w ∈ B) (h3 : ∀ w ∈ B, w.before args s = true) : ∀ w ∈ L, w.before args s = true := by
  intro w hw
  by_cases g : goodWord w = true
  · exact h1 w (List.mem_filter.mpr ⟨hw, g⟩)
  · refine h3 w (h2 w (List.mem_filter.mpr ⟨hw, ?_⟩))
    show (!goodWord w) = true
    cases hgw : goodWord w
    · rfl
    · exact absurd hgw g
theorem vx_c {args : Array Value} {s : State} {w : Cond} {B : List Cond} (h : w.before args s = true) (t : ∀ w ∈ B, w.before args s = true) : ∀ w' ∈ w :: B, w'.before args s = true := fun w' h' => (List.mem_cons.mp h').elim (fun e => by rw [e]; exact h) (t w')
theorem vx_n {args : Array Value} {s : State} : ∀ w ∈ ([] : List Cond), w.before args s = true := fun _ h => nomatch h
theorem vx_own {args : Array Value} {s : State} {L : List Cond} (h1 : ∀ w ∈ L.filter vx_no, w.before args s = true)
    (hU : (Cond.isRef (.static Bundle.tN "UNASSIGNED_STACK" Bundle.steD)).before args s = true) (hN : (Cond.isRef (.static Bundle.tN "SUPPRESSED_SENTINEL" Bundle.listD)).before args s = true)
    (lU : (Cond.laysStatic Bundle.tN "UNASSIGNED_STACK" Bundle.steD).before args s = true) (lN : (Cond.laysStatic Bundle.tN "SUPPRESSED_SENTINEL" Bundle.listD).before args s = true) : ∀ w ∈ L, w.before args s = true := by
  intro w hw
  by_cases e1 : w = .isRef (.static Bundle.tN "UNASSIGNED_STACK" Bundle.steD)
  · rw [e1]; exact hU
  · by_cases e2 : w = .isRef (.static Bundle.tN "SUPPRESSED_SENTINEL" Bundle.listD)
    · rw [e2]; exact hN
    · by_cases e3 : w = .laysStatic Bundle.tN "UNASSIGNED_STACK" Bundle.steD
      · rw [e3]; exact lU
      · by_cases e4 : w = .laysStatic Bundle.tN "SUPPRESSED_SENTINEL" Bundle.listD
        · rw [e4]; exact lN
        · exact h1 w (List.mem_filter.mpr ⟨hw, by unfold vx_no; rw [decide_eq_true e1, decide_eq_true e2, decide_eq_true e3, decide_eq_true e4]; rfl⟩)
/-- where a static field lies, its class's statics cell in H -/
def vx_L (C n d : String) (A : Nat → Prop) (U : State) (H : Heap) : Prop := ∃ (c : ClassId) (k : Class) (i : Nat) (f : Field) (a : Nat) (cell : Cell), U.vm.findClass C = some c ∧ U.fieldFound? C n d = some (c, k, i, f) ∧ f.isStatic = true ∧ k.statics = some a ∧ H[a]? = some cell ∧ cell.vm.isStatics = true ∧ cell.cls = c ∧ f.slot < cell.slots.size ∧ k.staticTypes[f.slot]? = some f.type ∧ ¬ A a
theorem vx_L.moved {C n d : String} {A : Nat → Prop} {u U : State} {H : Heap} (hvm : u.vm.Alike U.vm) (h : vx_L C n d A u H) : vx_L C n d A U H := by
  obtain ⟨c, k, i, f, a, cell, h1, h2, h3, h4, h5, h6, h7, h8, h9, h10⟩ := h
  obtain ⟨k', hi', he⟩ := State.fieldFound?_setVm hvm h2
  exact ⟨c, k', i, f, a, cell, by rw [hvm.findClass]; exact h1, hi', h3, by rw [he]; exact h4, h5, h6, h7, h8, by rw [he]; exact h9, h10⟩
theorem vx_L.kept {C n d : String} {A : Nat → Prop} {U : State} {H H1 : Heap} (h : vx_L C n d A U H) (hq : ∀ a : Nat, a < H.size → ¬ A a → H1[a]? = H[a]?) : vx_L C n d A U H1 := by
  obtain ⟨c, k, i, f, a, cell, h1, h2, h3, h4, h5, h6, h7, h8, h9, h10⟩ := h
  exact ⟨c, k, i, f, a, cell, h1, h2, h3, h4, by rw [hq a (Array.getElem?_eq_some_iff.mp h5).1 h10]; exact h5, h6, h7, h8, h9, h10⟩
theorem vx_L.narrow {C n d : String} {A B : Nat → Prop} {U : State} {H : Heap} (h : vx_L C n d A U H) (hAB : ∀ q, B q → A q) : vx_L C n d B U H := by
  obtain ⟨c, k, i, f, a, cell, h1, h2, h3, h4, h5, h6, h7, h8, h9, h10⟩ := h
  exact ⟨c, k, i, f, a, cell, h1, h2, h3, h4, h5, h6, h7, h8, h9, fun z => h10 (hAB _ z)⟩
theorem vx_L.word {C n d : String} {A : Nat → Prop} {s : State} {args : Array Value} (h : vx_L C n d A s s.heap) : (Cond.laysStatic C n d).before args s = true := by
  obtain ⟨c, k, i, f, a, cell, h1, h2, h3, h4, h5, h6, h7, h8, h9, -⟩ := h
  show (Cond.laysStatic C n d).holds args s none s [] = true
  exact Cond.laysStatic_of h1 h2 h3 h4 h5 h6 h7 h8 h9
/-- .. and what it holds: null or some reference -/
def vx_Zq (C n d : String) (A : Nat → Prop) (U : State) (H : Heap) : Prop := va_Zq C n d A U H ∧ vx_L C n d A U H
theorem vx_Zq.moved {C n d : String} {A : Nat → Prop} {u U : State} {H : Heap} (hvm : u.vm.Alike U.vm) (h : vx_Zq C n d A u H) : vx_Zq C n d A U H := ⟨va_Zq.moved hvm h.1, vx_L.moved hvm h.2⟩
theorem vx_Zq.kept {C n d : String} {A : Nat → Prop} {U : State} {H H1 : Heap} (h : vx_Zq C n d A U H) (hq : ∀ a : Nat, a < H.size → ¬ A a → H1[a]? = H[a]?) : vx_Zq C n d A U H1 := ⟨va_Zq.kept h.1 hq, vx_L.kept h.2 hq⟩
theorem vx_Zq.narrow {C n d : String} {A B : Nat → Prop} {U : State} {H : Heap} (h : vx_Zq C n d A U H) (hAB : ∀ q, B q → A q) : vx_Zq C n d B U H := ⟨va_Zq.narrow h.1 hAB, vx_L.narrow h.2 hAB⟩
theorem vx_Zqof {args : Array Value} {s : State} {C n d : String} {A : Nat → Prop} (hl : (Cond.laysStatic C n d).before args s = true) (hini : (Cond.initialized C).before args s = true) (h : (Cond.isRef (.static C n d)).before args s = true) (hA : ∀ a : Nat, a < s.heap.size → ¬ A a) : vx_Zq C n d A s s.heap := by
  refine ⟨va_Zqof hl hini h hA, ?_⟩
  obtain ⟨c, k, i, f, a, cell, h1, h2, h3, h4, h5, h6, h7, h8, h9⟩ := Cond.laysStatic_spec hl
  exact ⟨c, k, i, f, a, cell, h1, h2, h3, h4, h5, h6, h7, h8, h9, hA a (Array.getElem?_eq_some_iff.mp h5).1⟩
theorem vx_isRef {C n d : String} {v : Value} {A : Nat → Prop} {s : State} {args : Array Value} (h : va_Z C n d v A s s.heap) (hv : v.isRef = true) : (Cond.isRef (.static C n d)).before args s = true := by
  obtain ⟨cf, kf, fi, f, a, cell, h1, h2, h3, h4, h5, h6, h7, -⟩ := h
  have he : (Term.static C n d).eval args s none [] s = some v := by
    simp [Term.eval, State.fieldNamed?, h1, h2, h4, h5, h6, h7]
  simp only [Cond.before, Cond.holds, Cond.value, he]
  cases v <;> simp_all [Value.isRef]
theorem vx_isRefq {C n d : String} {A : Nat → Prop} {s : State} {args : Array Value} (h : va_Zq C n d A s s.heap) : (Cond.isRef (.static C n d)).before args s = true := by
  rcases h with h | ⟨t, h⟩
  · exact vx_isRef h rfl
  · exact vx_isRef h rfl
/-- the same frame, seen from here: as if the method were called anew in this heap -/
theorem vx_rebase {T : State} (X : Stand p l e R s m args below meth c T locs cells slots) {R' : Room} (hf : R'.frames ≤ R.frames) (hl : R'.locals ≤ R.locals) (hc : cells + R'.cells ≤ R.cells) (hs : slots + R'.slots ≤ R.slots) :
    Stand p l e R' ((T.setVm s.vm).setFrames (.invoking m args :: below)) m args below meth c T [] 0 0 := by
  have htop : (T.setVm s.vm).topJava?.isSome := X.here.top
  have hF : ((T.setVm s.vm).setFrames (.invoking m args :: below)).frames = .invoking m args :: below := State.frames_setFrames _ (State.cur_lt_of_top htop)
  obtain ⟨g₀, hg0⟩ := Option.isSome_iff_exists.mp htop
  obtain ⟨r, hr⟩ := State.topJava?_eq_some.mp hg0
  have hl9 : e.platform.stackLimits (T.setVm s.vm).me = e.platform.stackLimits s.me := X.limits
  have hb9 : (T.setVm s.vm).me.stackBytes = s.me.stackBytes := X.bytes
  refine ⟨X.admits, X.cas, X.clock, hF, ?_, X.hears, X.method, X.code, X.here, X.tail, X.warmed, ?_, ?_, ?_⟩
  · have h := X.room
    have hU : ((T.setVm s.vm).setFrames (.invoking m args :: below)).localsInUse = s.localsInUse := by
      rw [State.localsInUse_invoking hF (meth := meth) (c := c) X.method X.code, State.localsInUse_invoking X.frames X.method X.code]
    simp only [State.hasRoom, Bool.and_eq_true, decide_eq_true_eq] at h ⊢
    obtain ⟨⟨⟨⟨h1, h2, h3, h4, h5, h6⟩, h7⟩, h8⟩, h9⟩ := h
    rw [X.frames, List.length_cons] at h2 h3
    have q1 := X.heapSize
    have q2 := X.used
    simp only [hF, hU, List.length_cons, State.stackLimits_setFrames, State.stackBytes_setFrames, hl9, hb9]
    refine ⟨⟨⟨⟨by omega, by omega, by omega, by omega, by omega, h6⟩, ?_⟩, ?_⟩, X.book⟩
    · show T.heap.size + R'.cells ≤ e.platform.maxCells
      omega
    · show T.slotsUsed + R'.slots ≤ e.platform.maxSlots
      omega
  · rw [State.stackLimits_setFrames]; rfl
  · rw [State.stackBytes_setFrames]; rfl
  · refine ⟨?_, Nat.le_refl _, Nat.le_refl _, ?_, ?_, fun a c9 h9 => ⟨c9, h9, rfl, rfl, fun _ _ => rfl⟩⟩
    · obtain ⟨t, ht, -⟩ := State.frames_cons hr
      show T.setVm s.vm = { ((T.setVm s.vm).setFrames (.invoking m args :: below)).setFrames (T.setVm s.vm).frames with heap := T.heap, slotsUsed := T.slotsUsed }
      rw [State.setFrames_setFrames, State.setFrames_self ht]
      rfl
    · show T.slotsUsed = T.slotsUsed + ((T.heap.toList.drop T.heap.size).map (·.slots.size)).sum
      rw [List.drop_eq_nil_of_le (Nat.le_of_eq Array.length_toList)]
      rfl
    · show ((T.heap.toList.drop T.heap.size).map (·.slots.size)).sum ≤ 0
      rw [List.drop_eq_nil_of_le (Nat.le_of_eq Array.length_toList)]
      exact Nat.le_refl _
/-- 'throw new E()': new; dup; invokespecial; athrow -/
theorem vx_throw0 {cc : ByteArray} {pc : Nat} (hexec : p.tables.exec = Jvm.exec) (hb : c.code = cc) (hl : l.stackTraces = false) {own cls : String} {names : List String} {ik ic mc ms : Nat} {A : Nat → Prop}
    (hown : s.vm.findClass own = some m.cls) (hcls : Bundle.fit cls = true) (hnames : ∀ n ∈ names, Bundle.fit n = true)
    (hk : (Cond.classLink own ik cls).before args s = true) (hini : (Cond.initialized cls).before args s = true) (hat : ∀ w ∈ vx_at0 own ic cls names, w.before args s = true)
    (hgood : ∀ w ∈ Cond.classLink own ik cls :: Cond.initialized cls :: vx_at0 own ic cls names, vx_ot w = true)
    (hU : vx_Zq Bundle.tN "UNASSIGNED_STACK" Bundle.steD A s s.heap) (hN : vx_Zq Bundle.tN "SUPPRESSED_SENTINEL" Bundle.listD A s s.heap) (hS : va_S A s.heap H locs) (hsize : ls.size = c.maxLocals)
    (d0 : decode cc pc = .ok (.new ik, 3)) (d3 : decode cc (pc + 3) = .ok (.dup, 1)) (d4 : decode cc (pc + 4) = .ok (.invokespecial ic, 3)) (d7 : decode cc (pc + 7) = .ok (.athrow, 1))
    (hout : ∀ x ∈ c.exceptionTable.toList, covers x (pc + 7) = false)
    (hRframes : names.length + 3 < R.frames) (hRlocals : (rest.map fun v => v.category).sum + (13 * (names.length + 1) + 42) ≤ R.locals) (hRcells : cells + 1 ≤ R.cells) (hRslots : slots + 6 ≤ R.slots) (hlocks : meth.locks = false)
    (hx : ∀ t : State, s.vm.Alike t.vm → H.size ≤ t.heap.size → (∀ q : Nat, q < H.size → t.heap[q]? = H[q]?) → XC cls s t)
    (hf : ∀ z ∈ locs, free z.base) (hc : cells + 1 ≤ mc) (hs : slots + 6 ≤ ms) :
    W p l e R s m args below meth c H locs cells slots (vx_MQ below Qc XC args s mc ms free) (F0 m pc ls rest) := by
  intro T hT X
  have htr : e.platform.stackTraces = false := (show e.platform.stackTraces = l.stackTraces by rw [X.admits.platform]).trans hl
  have Y := vx_rebase X (R' := { frames := R.frames, locals := R.locals, cells := 1, slots := 6 }) (Nat.le_refl _) (Nat.le_refl _) hRcells hRslots
  obtain ⟨s', hA⟩ : ∃ z, z = (T.setVm s.vm).setFrames (.invoking m args :: below) := ⟨_, rfl⟩
  rw [← hA] at Y
  have hvm : s'.vm = s.vm := by rw [hA]; rfl
  have hhp : s'.heap = H := by rw [hA]; exact hT
  have hW0 : s.WarmedH s'.vm := by rw [hvm]; exact State.WarmedH.refl s
  have hat' : ∀ w ∈ vx_at0 own ic cls names, w.before args s' = true := fun w hw => vx_ot_at hW0 hvm.symm (hgood w (List.mem_cons_of_mem _ (List.mem_cons_of_mem _ hw))) (hat w hw)
  have hk' : (Cond.classLink own ik cls).before args s' = true := vx_ot_at hW0 hvm.symm (hgood _ List.mem_cons_self) hk
  have hini' : (Cond.initialized cls).before args s' = true := vx_ot_at hW0 hvm.symm (hgood _ (List.mem_cons_of_mem _ List.mem_cons_self)) hini
  have hU' : vx_Zq Bundle.tN "UNASSIGNED_STACK" Bundle.steD A s' s'.heap := by rw [hhp]; exact vx_Zq.moved hW0.alike (hU.kept hS.2.1)
  have hN' : vx_Zq Bundle.tN "SUPPRESSED_SENTINEL" Bundle.listD A s' s'.heap := by rw [hhp]; exact vx_Zq.moved hW0.alike (hN.kept hS.2.1)
  have h : ∀ w ∈ Bundle.ownAtoms0 own ic cls names, w.before args s' = true := vx_own hat' (vx_isRefq hU'.1) (vx_isRefq hN'.1) hU'.2.word hN'.2.word
  have hown' : s'.vm.findClass own = some m.cls := by rw [hvm]; exact hown
  have hins : (Cond.instantiable cls 6).before args s' = true := h _ (by simp [Bundle.ownAtoms0])
  obtain ⟨vm₁, cX, kX, hfX, hkX, -, -, X₁, st1⟩ := Y.newCold hexec (own := own) (C := cls) (index := ik) (n := 6) hown' hk' hins hini'
    (g := F0 m pc ls rest) rfl (by rw [hb]; exact d0) (Nat.le_refl _) (Nat.le_refl _)
  generalize hT1 : (T.setVm vm₁).pushCell { cls := cX, slots := kX.instanceTypes.map defaultValue, vm := .none } = T1 at X₁ st1
  have hcat : (Value.ref T.heap.size).category = 1 := rfl
  have hcellA : T1.heap[T.heap.size]? = some (freshCell cX kX) := by rw [← hT1]; exact State.heap_pushCell_size _ _
  have d3' : decode c.code (pc + 3) = .ok (.dup, 1) := by rw [hb]; exact d3
  obtain ⟨U, hsteps, hrun, hend, hW, hsame, ce, hce, hO⟩ := X₁.ctorThrow0 hexec htr (own := own) (cls := cls) (names := names) (ic := ic) hown' hcls hnames h (fun x hx => nomatch hx) hfX hkX hcellA (by rw [hhp, hT]; exact Nat.le_refl _)
    (g := { method := m, pc := pc + 4, locals := ls, stack := .ref T.heap.size :: .ref T.heap.size :: rest, locked := none }) rfl hsize rfl rfl (rest := rest) rfl
    (by rw [hb]; exact d4) (by rw [hb]; exact d7) hout hRframes (by simp only [List.map_cons, List.sum_cons, hcat]; omega) hlocks
  obtain ⟨f1, f2⟩ := vx_frame hsame
  rw [hhp] at f1 f2
  have hWs : s.WarmedH U.vm := State.WarmedH.trans hW0 hW
  have hcl : s.vm.findClass cls = some ce.cls := by
    have h9 := hO.cls
    rw [hvm] at h9
    exact h9
  have hall : s.sameButNew ({ U with vm := s.vm } : State) locs mc ms := by
    subst hA
    obtain ⟨e1, e2⟩ := hsame
    rw [State.setFrames_setFrames] at e1
    have h2 : (T.setVm s.vm).sameButNew ({ U with vm := s.vm } : State) [] (0 + 1) (0 + 6) := ⟨e1, e2⟩
    have h3 := X.same.trans h2
    rw [List.append_nil] at h3
    exact h3.mono hc hs
  refine ⟨U, ?_, .threw T.heap.size, hrun, hend, Or.inr ⟨T.heap.size, rfl, cls, ce, locs, hx U hWs.alike f1 (fun q hq => f2 q hq (fun z hz => nomatch hz)), hce, hO.vm, hcl, hWs, hall, hf⟩⟩
  refine st1 _ ?_
  show Steps p.tables e below (T1.setTop { method := m, pc := pc + 3, locals := ls, stack := .ref T.heap.size :: rest, locked := none }) _
  jvm_step X₁.here [X₁.here.top, hexec, d3', Value.category]
  exact hsteps
/-- 'throw new E("text")': new; dup; ldc; invokespecial; athrow -/
theorem vx_throwS {cc : ByteArray} {pc : Nat} (hexec : p.tables.exec = Jvm.exec) (hb : c.code = cc) (hl : l.stackTraces = false) {own cls text : String} {names : List String} {ik is ic mc ms sa : Nat} {A : Nat → Prop}
    (hown : s.vm.findClass own = some m.cls) (hcls : Bundle.fit cls = true) (hnames : ∀ n ∈ names, Bundle.fit n = true)
    (hk : (Cond.classLink own ik cls).before args s = true) (hini : (Cond.initialized cls).before args s = true) (hstr : vk_R own is text sa s) (hat : ∀ w ∈ vx_atS own ic cls names, w.before args s = true)
    (hgood : ∀ w ∈ Cond.classLink own ik cls :: Cond.initialized cls :: vx_atS own ic cls names, vx_ot w = true)
    (hU : vx_Zq Bundle.tN "UNASSIGNED_STACK" Bundle.steD A s s.heap) (hN : vx_Zq Bundle.tN "SUPPRESSED_SENTINEL" Bundle.listD A s s.heap) (hS : va_S A s.heap H locs) (hsize : ls.size = c.maxLocals)
    (d0 : decode cc pc = .ok (.new ik, 3)) (d3 : decode cc (pc + 3) = .ok (.dup, 1)) (d4 : decode cc (pc + 4) = .ok (.ldc is, 2)) (d6 : decode cc (pc + 6) = .ok (.invokespecial ic, 3)) (d9 : decode cc (pc + 9) = .ok (.athrow, 1))
    (hout : ∀ x ∈ c.exceptionTable.toList, covers x (pc + 9) = false)
    (hRframes : names.length + 3 < R.frames) (hRlocals : (rest.map fun v => v.category).sum + (13 * (names.length + 1) + 43) ≤ R.locals) (hRcells : cells + 1 ≤ R.cells) (hRslots : slots + 6 ≤ R.slots) (hlocks : meth.locks = false)
    (hx : ∀ t : State, s.vm.Alike t.vm → H.size ≤ t.heap.size → (∀ q : Nat, q < H.size → t.heap[q]? = H[q]?) → XC cls s t)
    (hf : ∀ z ∈ locs, free z.base) (hc : cells + 1 ≤ mc) (hs : slots + 6 ≤ ms) :
    W p l e R s m args below meth c H locs cells slots (vx_MQ below Qc XC args s mc ms free) (F0 m pc ls rest) := by
  intro T hT X
  have htr : e.platform.stackTraces = false := (show e.platform.stackTraces = l.stackTraces by rw [X.admits.platform]).trans hl
  have Y := vx_rebase X (R' := { frames := R.frames, locals := R.locals, cells := 1, slots := 6 }) (Nat.le_refl _) (Nat.le_refl _) hRcells hRslots
  obtain ⟨s', hA⟩ : ∃ z, z = (T.setVm s.vm).setFrames (.invoking m args :: below) := ⟨_, rfl⟩
  rw [← hA] at Y
  have hvm : s'.vm = s.vm := by rw [hA]; rfl
  have hhp : s'.heap = H := by rw [hA]; exact hT
  have hW0 : s.WarmedH s'.vm := by rw [hvm]; exact State.WarmedH.refl s
  have hat' : ∀ w ∈ vx_atS own ic cls names, w.before args s' = true := fun w hw => vx_ot_at hW0 hvm.symm (hgood w (List.mem_cons_of_mem _ (List.mem_cons_of_mem _ hw))) (hat w hw)
  have hk' : (Cond.classLink own ik cls).before args s' = true := vx_ot_at hW0 hvm.symm (hgood _ List.mem_cons_self) hk
  have hini' : (Cond.initialized cls).before args s' = true := vx_ot_at hW0 hvm.symm (hgood _ (List.mem_cons_of_mem _ List.mem_cons_self)) hini
  have hU' : vx_Zq Bundle.tN "UNASSIGNED_STACK" Bundle.steD A s' s'.heap := by rw [hhp]; exact vx_Zq.moved hW0.alike (hU.kept hS.2.1)
  have hN' : vx_Zq Bundle.tN "SUPPRESSED_SENTINEL" Bundle.listD A s' s'.heap := by rw [hhp]; exact vx_Zq.moved hW0.alike (hN.kept hS.2.1)
  have h : ∀ w ∈ Bundle.ownAtoms own ic cls names, w.before args s' = true := vx_own hat' (vx_isRefq hU'.1) (vx_isRefq hN'.1) hU'.2.word hN'.2.word
  have hown' : s'.vm.findClass own = some m.cls := by rw [hvm]; exact hown
  have hins : (Cond.instantiable cls 6).before args s' = true := h _ (by simp [Bundle.ownAtoms])
  obtain ⟨vm₁, cX, kX, hfX, hkX, -, -, X₁, st1⟩ := Y.newCold hexec (own := own) (C := cls) (index := ik) (n := 6) hown' hk' hins hini'
    (g := F0 m pc ls rest) rfl (by rw [hb]; exact d0) (Nat.le_refl _) (Nat.le_refl _)
  generalize hT1 : (T.setVm vm₁).pushCell { cls := cX, slots := kX.instanceTypes.map defaultValue, vm := .none } = T1 at X₁ st1
  have hcat : (Value.ref T.heap.size).category = 1 := rfl
  have hcellA : T1.heap[T.heap.size]? = some (freshCell cX kX) := by rw [← hT1]; exact State.heap_pushCell_size _ _
  have d3' : decode c.code (pc + 3) = .ok (.dup, 1) := by rw [hb]; exact d3
  have d4' : decode c.code (pc + 4) = .ok (.ldc is, 2) := by rw [hb]; exact d4
  have hstr' : vk_R own is text sa s' := vk_R.warm hW0 hstr
  obtain ⟨U, hsteps, hrun, hend, hW, hsame, ce, hce, hO⟩ := X₁.ctorThrowS hexec htr (own := own) (cls := cls) (names := names) (ic := ic) hown' hcls hnames h (fun x hx => nomatch hx) hfX hkX hcellA (by rw [hhp, hT]; exact Nat.le_refl _) (msg := .ref sa) rfl
    (g := { method := m, pc := pc + 6, locals := ls, stack := .ref sa :: .ref T.heap.size :: .ref T.heap.size :: rest, locked := none }) rfl hsize rfl rfl (rest := rest) rfl
    (by rw [hb]; exact d6) (by rw [hb]; exact d9) hout hRframes (by simp only [List.map_cons, List.sum_cons, hcat]; omega) hlocks
  obtain ⟨f1, f2⟩ := vx_frame hsame
  rw [hhp] at f1 f2
  have hWs : s.WarmedH U.vm := State.WarmedH.trans hW0 hW
  have hcl : s.vm.findClass cls = some ce.cls := by
    have h9 := hO.cls
    rw [hvm] at h9
    exact h9
  have hall : s.sameButNew ({ U with vm := s.vm } : State) locs mc ms := by
    subst hA
    obtain ⟨e1, e2⟩ := hsame
    rw [State.setFrames_setFrames] at e1
    have h2 : (T.setVm s.vm).sameButNew ({ U with vm := s.vm } : State) [] (0 + 1) (0 + 6) := ⟨e1, e2⟩
    have h3 := X.same.trans h2
    rw [List.append_nil] at h3
    exact h3.mono hc hs
  refine ⟨U, ?_, .threw T.heap.size, hrun, hend, Or.inr ⟨T.heap.size, rfl, cls, ce, locs, hx U hWs.alike f1 (fun q hq => f2 q hq (fun z hz => nomatch hz)), hce, hO.vm, hcl, hWs, hall, hf⟩⟩
  refine st1 _ ?_
  show Steps p.tables e below (T1.setTop { method := m, pc := pc + 3, locals := ls, stack := .ref T.heap.size :: rest, locked := none }) _
  jvm_step X₁.here [X₁.here.top, hexec, d3', Value.category]
  exact X₁.ldcString hexec (own := own) (text := text) (index := is) (a := sa) hown' hstr'.1 hstr'.2
    (g := { method := m, pc := pc + 4, locals := ls, stack := .ref T.heap.size :: .ref T.heap.size :: rest, locked := none }) rfl d4' _ hsteps
/-- 'throw new E("text")', the text by a wide index -/
theorem vx_throwSW {cc : ByteArray} {pc : Nat} (hexec : p.tables.exec = Jvm.exec) (hb : c.code = cc) (hl : l.stackTraces = false) {own cls text : String} {names : List String} {ik is ic mc ms sa : Nat} {A : Nat → Prop}
    (hown : s.vm.findClass own = some m.cls) (hcls : Bundle.fit cls = true) (hnames : ∀ n ∈ names, Bundle.fit n = true)
    (hk : (Cond.classLink own ik cls).before args s = true) (hini : (Cond.initialized cls).before args s = true) (hstr : vk_R own is text sa s) (hat : ∀ w ∈ vx_atS own ic cls names, w.before args s = true)
    (hgood : ∀ w ∈ Cond.classLink own ik cls :: Cond.initialized cls :: vx_atS own ic cls names, vx_ot w = true)
    (hU : vx_Zq Bundle.tN "UNASSIGNED_STACK" Bundle.steD A s s.heap) (hN : vx_Zq Bundle.tN "SUPPRESSED_SENTINEL" Bundle.listD A s s.heap) (hS : va_S A s.heap H locs) (hsize : ls.size = c.maxLocals)
    (d0 : decode cc pc = .ok (.new ik, 3)) (d3 : decode cc (pc + 3) = .ok (.dup, 1)) (d4 : decode cc (pc + 4) = .ok (.ldc_w is, 3)) (d7 : decode cc (pc + 7) = .ok (.invokespecial ic, 3)) (d10 : decode cc (pc + 10) = .ok (.athrow, 1))
    (hout : ∀ x ∈ c.exceptionTable.toList, covers x (pc + 10) = false)
    (hRframes : names.length + 3 < R.frames) (hRlocals : (rest.map fun v => v.category).sum + (13 * (names.length + 1) + 43) ≤ R.locals) (hRcells : cells + 1 ≤ R.cells) (hRslots : slots + 6 ≤ R.slots) (hlocks : meth.locks = false)
    (hx : ∀ t : State, s.vm.Alike t.vm → H.size ≤ t.heap.size → (∀ q : Nat, q < H.size → t.heap[q]? = H[q]?) → XC cls s t)
    (hf : ∀ z ∈ locs, free z.base) (hc : cells + 1 ≤ mc) (hs : slots + 6 ≤ ms) :
    W p l e R s m args below meth c H locs cells slots (vx_MQ below Qc XC args s mc ms free) (F0 m pc ls rest) := by
  intro T hT X
  have htr : e.platform.stackTraces = false := (show e.platform.stackTraces = l.stackTraces by rw [X.admits.platform]).trans hl
  have Y := vx_rebase X (R' := { frames := R.frames, locals := R.locals, cells := 1, slots := 6 }) (Nat.le_refl _) (Nat.le_refl _) hRcells hRslots
  obtain ⟨s', hA⟩ : ∃ z, z = (T.setVm s.vm).setFrames (.invoking m args :: below) := ⟨_, rfl⟩
  rw [← hA] at Y
  have hvm : s'.vm = s.vm := by rw [hA]; rfl
  have hhp : s'.heap = H := by rw [hA]; exact hT
  have hW0 : s.WarmedH s'.vm := by rw [hvm]; exact State.WarmedH.refl s
  have hat' : ∀ w ∈ vx_atS own ic cls names, w.before args s' = true := fun w hw => vx_ot_at hW0 hvm.symm (hgood w (List.mem_cons_of_mem _ (List.mem_cons_of_mem _ hw))) (hat w hw)
  have hk' : (Cond.classLink own ik cls).before args s' = true := vx_ot_at hW0 hvm.symm (hgood _ List.mem_cons_self) hk
  have hini' : (Cond.initialized cls).before args s' = true := vx_ot_at hW0 hvm.symm (hgood _ (List.mem_cons_of_mem _ List.mem_cons_self)) hini
  have hU' : vx_Zq Bundle.tN "UNASSIGNED_STACK" Bundle.steD A s' s'.heap := by rw [hhp]; exact vx_Zq.moved hW0.alike (hU.kept hS.2.1)
  have hN' : vx_Zq Bundle.tN "SUPPRESSED_SENTINEL" Bundle.listD A s' s'.heap := by rw [hhp]; exact vx_Zq.moved hW0.alike (hN.kept hS.2.1)
  have h : ∀ w ∈ Bundle.ownAtoms own ic cls names, w.before args s' = true := vx_own hat' (vx_isRefq hU'.1) (vx_isRefq hN'.1) hU'.2.word hN'.2.word
  have hown' : s'.vm.findClass own = some m.cls := by rw [hvm]; exact hown
  have hins : (Cond.instantiable cls 6).before args s' = true := h _ (by simp [Bundle.ownAtoms])
  obtain ⟨vm₁, cX, kX, hfX, hkX, -, -, X₁, st1⟩ := Y.newCold hexec (own := own) (C := cls) (index := ik) (n := 6) hown' hk' hins hini'
    (g := F0 m pc ls rest) rfl (by rw [hb]; exact d0) (Nat.le_refl _) (Nat.le_refl _)
  generalize hT1 : (T.setVm vm₁).pushCell { cls := cX, slots := kX.instanceTypes.map defaultValue, vm := .none } = T1 at X₁ st1
  have hcat : (Value.ref T.heap.size).category = 1 := rfl
  have hcellA : T1.heap[T.heap.size]? = some (freshCell cX kX) := by rw [← hT1]; exact State.heap_pushCell_size _ _
  have d3' : decode c.code (pc + 3) = .ok (.dup, 1) := by rw [hb]; exact d3
  have d4' : decode c.code (pc + 4) = .ok (.ldc_w is, 3) := by rw [hb]; exact d4
  have hstr' : vk_R own is text sa s' := vk_R.warm hW0 hstr
  obtain ⟨U, hsteps, hrun, hend, hW, hsame, ce, hce, hO⟩ := X₁.ctorThrowS hexec htr (own := own) (cls := cls) (names := names) (ic := ic) hown' hcls hnames h (fun x hx => nomatch hx) hfX hkX hcellA (by rw [hhp, hT]; exact Nat.le_refl _) (msg := .ref sa) rfl
    (g := { method := m, pc := pc + 7, locals := ls, stack := .ref sa :: .ref T.heap.size :: .ref T.heap.size :: rest, locked := none }) rfl hsize rfl rfl (rest := rest) rfl
    (by rw [hb]; exact d7) (by rw [hb]; exact d10) hout hRframes (by simp only [List.map_cons, List.sum_cons, hcat]; omega) hlocks
  obtain ⟨f1, f2⟩ := vx_frame hsame
  rw [hhp] at f1 f2
  have hWs : s.WarmedH U.vm := State.WarmedH.trans hW0 hW
  have hcl : s.vm.findClass cls = some ce.cls := by
    have h9 := hO.cls
    rw [hvm] at h9
    exact h9
  have hall : s.sameButNew ({ U with vm := s.vm } : State) locs mc ms := by
    subst hA
    obtain ⟨e1, e2⟩ := hsame
    rw [State.setFrames_setFrames] at e1
    have h2 : (T.setVm s.vm).sameButNew ({ U with vm := s.vm } : State) [] (0 + 1) (0 + 6) := ⟨e1, e2⟩
    have h3 := X.same.trans h2
    rw [List.append_nil] at h3
    exact h3.mono hc hs
  refine ⟨U, ?_, .threw T.heap.size, hrun, hend, Or.inr ⟨T.heap.size, rfl, cls, ce, locs, hx U hWs.alike f1 (fun q hq => f2 q hq (fun z hz => nomatch hz)), hce, hO.vm, hcl, hWs, hall, hf⟩⟩
  refine st1 _ ?_
  show Steps p.tables e below (T1.setTop { method := m, pc := pc + 3, locals := ls, stack := .ref T.heap.size :: rest, locked := none }) _
  jvm_step X₁.here [X₁.here.top, hexec, d3', Value.category]
  exact X₁.ldcStringW hexec (own := own) (text := text) (index := is) (a := sa) hown' hstr'.1 hstr'.2
    (g := { method := m, pc := pc + 4, locals := ls, stack := .ref T.heap.size :: .ref T.heap.size :: rest, locked := none }) rfl d4' _ hsteps
end Ends
section Bodies
variable {l : Launch}
theorem vx_ofW {y : MethodName} {ws ws' : List Cond} {rm : Room} {Pc : Array Value → State → Prop} {Qc : Array Value → State → Outcome → State → Prop} {XC : String → State → State → Prop} {mc ms : Nat} {free : Addr → Prop} {cc : ByteArray} {maxL : Nat} {ret : Option FieldType}
    (hy : plainName y.cls = true) (hw : ws = Cond.code y cc maxL ret :: ws')
    (body : ∀ p e s m args below meth c s₁, BodyLoose p l y (headSpec ws rm) cc maxL ret e s m args below meth c s₁ → c.maxLocals = maxL → (∀ x ∈ c.exceptionTable.toList, False) → Pc args s →
      W p l e (headSpec ws rm).room s m args below meth c s.heap [] 0 0 (vx_MQ below Qc XC args s mc ms free) (entryFrame m args maxL)) : vx_Met l y ws rm Pc Qc XC mc ms free := by
  refine MetFree.of_bodyS (code := cc) (maxLocals := maxL) (ret := ret) hy ?_ ?_
  · intro args s m h hn
    obtain ⟨meth, c, h1, h2, h3, h4, h5, h6, -, -⟩ := Cond.code_spec hn (atoms_spec (ws := ws) h _ (by rw [hw]; exact List.mem_cons_self))
    exact ⟨meth, c, h1, h2, h3, h4, h5, h6⟩
  · intro p e s m args below meth c s₁ B hml hP _
    have hh0 : s₁.heap = s.heap := by rw [B.state]; rfl
    have ht : ∀ x ∈ c.exceptionTable.toList, False := by
      obtain ⟨meth9, c9, h1, h2, -, -, -, -, h7, -⟩ := Cond.code_spec B.named (atoms_spec (ws := ws) B.pre _ (by rw [hw]; exact List.mem_cons_self))
      cases Option.some.inj (h1.symm.trans B.method)
      cases Option.some.inj (h2.symm.trans (Stand.of_body B).code)
      intro x hx
      rw [Array.isEmpty_iff.mp h7] at hx
      cases hx
    obtain ⟨t, a1, o, b1, b2, b3⟩ := body p e s m args below meth c s₁ B hml ht hP s₁ hh0 (Stand.of_body B)
    exact ⟨t, o, a1, b1, b2, b3⟩
/-- the table of a body with handlers -/
theorem vx_table {p : Program} {x y : MethodName} {S : Spec} {cc bytes : ByteArray} {maxL maxL' : Nat} {ret ret' : Option FieldType} {e : Env} {s s₁ : State} {m : MethodId} {args : Array Value} {below : List Frame} {meth : Method} {c : Code} {hh : List (Nat × Nat × Nat × Nat)}
    (B : BodyLoose p l y S cc maxL ret e s m args below meth c s₁) (h : (Cond.codeWith y bytes maxL' ret' hh).before args s = true) : c.exceptionTable.toList = tableOf hh := by
  obtain ⟨m9, meth9, c9, hn9, h1, h2, -, -, h6, -⟩ := Cond.codeWith_spec h
  cases Option.some.inj (hn9.symm.trans B.named)
  cases Option.some.inj (h1.symm.trans B.method)
  cases Option.some.inj (h2.symm.trans (Stand.of_body B).code)
  rw [← h6, table_eq]
end Bodies
end VXA
/-! ===== END ===== -/
/-! ===== BEGIN a static call of a method with an exception table ===== -/
section VXS
variable {p : Program} {l : Launch} {e : Env} {R : Room} {s : State} {m : MethodId} {args : Array Value} {below : List Frame} {meth : Method} {c : Code} {T : State} {H : Heap} {locs : List Loc} {cells slots : Nat}
abbrev vx_CSW (R : Room) (s : State) (args : Array Value) (own : String) (index : Nat) (y : MethodName) (bytes : ByteArray) (maxL : Nat) (ret : Option FieldType) (hh : List (Nat × Nat × Nat × Nat)) (ws : List Cond) (rm : Room) (mc ms n : Nat) : Prop :=
  (rm.cells = mc ∧ rm.slots = ms ∧ rm.frames + 1 ≤ R.frames ∧ 8 + (maxL + 11) + rm.locals ≤ R.locals ∧ (∀ w ∈ ws, ∀ (a' : Array Value) (U : State), s.WarmedH U.vm → w.before a' U = true) ∧ Cond.codeWith y bytes maxL ret hh ∈ ws) ∧
  (Cond.codeWith y bytes maxL ret hh).before args s = true ∧ (Cond.initialized y.cls).before args s = true ∧ (y.cls ≠ "java/lang/invoke/MethodHandle" ∧ y.cls ≠ "java/lang/invoke/VarHandle") ∧
  (∀ sig, parseMethodDescriptor y.desc = some sig → n = sig.parameters.length) ∧ (Cond.methodLink own index y).before args s = true ∧ (Cond.static y).before args s = true
theorem vx_cwSW {own : String} {index maxL mc ms : Nat} {y : MethodName} {bytes : ByteArray} {ret : Option FieldType} {hh : List (Nat × Nat × Nat × Nat)} {Ts ws ws' : List Cond} {rm : Room} (n : Nat) (ht : ∀ w ∈ Ts, w.before args s = true) (hT : GoodIn Ts (va_wsS own index y ws)) (hw : ws = Cond.codeWith y bytes maxL ret hh :: ws') (hrc : rm.cells = mc) (hrs : rm.slots = ms)
    (hd : y.cls ≠ "java/lang/invoke/MethodHandle" ∧ y.cls ≠ "java/lang/invoke/VarHandle" ∧ (parseMethodDescriptor y.desc).map (fun d => d.parameters.length) = some n) (hR : rm.frames + 1 ≤ R.frames ∧ 8 + (maxL + 11) + rm.locals ≤ R.locals) :
    vx_CSW R s args own index y bytes maxL ret hh ws rm mc ms n := by
  have ok : ∀ w ∈ va_wsS own index y ws, w.before args s = true := fun w h => ht w (hT w h).1
  have hG : GoodIn Ts ws := fun w h => hT w (by unfold va_wsS; exact List.mem_append_right _ h)
  have hc : Cond.codeWith y bytes maxL ret hh ∈ ws := by rw [hw]; exact List.mem_cons_self
  refine ⟨⟨hrc, hrs, hR.1, hR.2, pay_in ht hG, hc⟩, ht _ (hG _ hc).1, ok _ (by simp [va_wsS]), ⟨hd.1, hd.2.1⟩, fun sig h => ?_, ok _ (by simp [va_wsS]), ok _ (by simp [va_wsS])⟩
  have h2 := hd.2.2
  rw [h] at h2
  exact (Option.some.inj h2).symm
theorem vx_callSW (X : Stand p l e R s m args below meth c T locs cells slots) (hexec : p.tables.exec = Jvm.exec) {own : String} {index : Nat} {y : MethodName} {bytes : ByteArray} {maxL : Nat} {ret : Option FieldType} {hh : List (Nat × Nat × Nat × Nat)}
    (hown : s.vm.findClass own = some m.cls) (hlink : (Cond.methodLink own index y).before args s = true) (hstat : (Cond.static y).before args s = true) (hinit : (Cond.initialized y.cls).before args s = true)
    (hcode : (Cond.codeWith y bytes maxL ret hh).before args s = true) (hy : y.cls ≠ "java/lang/invoke/MethodHandle" ∧ y.cls ≠ "java/lang/invoke/VarHandle")
    {W9 : Nat} {Pre : Pt → Array Value → Prop} {Post : Pt → Array Value → Option Value → Pt → Prop} (hK : Back l R p e below s args y 3 W9 Pre Post)
    {g : JFrame} (hg : g.method = m) (hsize : g.locals.size = c.maxLocals) {argsL rest : List Value} (hlen : ∀ sig, parseMethodDescriptor y.desc = some sig → argsL.length = sig.parameters.length)
    (hstack : g.stack = argsL.reverse ++ rest) (hW : 2 * g.monitorRoom + (rest.map fun v => v.category).sum ≤ W9) (hdg : decode c.code g.pc = .ok (.invokestatic index, 3))
    (hpre : ∀ vm₁, s.WarmedH vm₁ → Pre ⟨T.setVm vm₁, locs, cells, slots⟩ argsL.toArray) :
    ∃ (v : Option Value) (vm₁ : Vm) (B : Pt), s.WarmedH vm₁ ∧ Stand p l e R s m args below meth c B.U B.locs B.cells B.slots ∧ Post ⟨T.setVm vm₁, locs, cells, slots⟩ argsL.toArray v B ∧
      ∀ target, Steps p.tables e below (B.U.setTop { g with pc := g.pc + 3, stack := v.toList ++ rest }) target → Steps p.tables e below (T.setTop g) target := by
  obtain ⟨mk, methM, cM, hnamed, hmethM, -, -, -, -, -, -, hsigM⟩ := Cond.codeWith_spec hcode
  have hstatic : methM.isStatic = true := Cond.static_spec hnamed hmethM hstat
  obtain ⟨kP, hkP, -⟩ := className_of_methodNamed hnamed
  have hinitP : kP.init = .initialized := Cond.initialized_spec (findClass_of_methodNamed hnamed) hkP hinit
  obtain ⟨vm₁, X₁, hstep₁⟩ := X.invokestatic hexec hown hlink hnamed hmethM hstatic hkP hinitP hy (g := g) hg (argsL := argsL) (rest := rest) (hlen _ hsigM) hstack hdg
  obtain ⟨v, B, X', hpost, hsteps⟩ := hK m meth c ⟨T.setVm vm₁, locs, cells, slots⟩ { g with stack := rest } (.invokestatic index) mk argsL.toArray X₁ hg hsize hdg hW (X₁.named hnamed) (hpre vm₁ X₁.warmed)
  exact ⟨v, vm₁, B, X₁.warmed, X', hpost, fun target h => hstep₁ _ fun acts => by rw [doInvoke_state]; exact hsteps.trans h⟩
theorem vx_runSW {y : MethodName} {bytes cc : ByteArray} {maxL nL mc ms n index : Nat} {ret : Option FieldType} {hh : List (Nat × Nat × Nat × Nat)} {ws : List Cond} {rm : Room} {Pc : Array Value → State → Prop} {Qc : Array Value → State → Outcome → State → Prop} {free : Addr → Prop} {Ts : List Cond} {own : String} {As rest : List Value} {g : JFrame}
    (S : CallFix p m c cc nL s args Ts own) (hM : Met l y ws rm Pc Qc mc ms free) (cw : vx_CSW R s args own index y bytes maxL ret hh ws rm mc ms n) (hp : PreS s H Pc As)
    (hg : g.method = m) (hn : As.length = n) (hsize : g.locals.size = nL) (hstack : g.stack = As.reverse ++ rest) (hW : 2 * g.monitorRoom + (rest.map fun v => v.category).sum ≤ 8) (hdg : decode cc g.pc = .ok (.invokestatic index, 3)) (hf : cells + mc ≤ R.cells ∧ slots + ms ≤ R.slots) :
    va_Run p l e R s m args below meth c H locs cells slots mc ms g rest (Qc As.toArray) (free) := by
  obtain ⟨⟨hrc, hrs, hfr, hlo, hws, hcw⟩, hcode, hini, hy, hlen, hl, hstt⟩ := cw
  have hK : Back l R p e below s args y 3 8 (PreOf R mc ms Pc) (PostOf Qc mc ms free) := va_backW (hh := hh) (bytes := bytes) (maxL := maxL) (ret := ret) hM hp.1 hrc hrs hfr hlo hws hcw (fun a' U hW => word_at hW (Or.inl (by first | rfl | simp [Cond.onTables, Cond.keeps, Cond.steady])) hini)
  obtain ⟨hx, hb, hml, ho, -⟩ := S
  intro T hT X
  obtain ⟨v, vm₁, ⟨U', l2, c2, s2⟩, hW₁, X', ⟨g', mk, t, L, e1, e2, hq, h1, hL, h2, h3⟩, st⟩ := vx_callSW X hx (hh := hh) (bytes := bytes) (maxL := maxL) (ret := ret) ho hl hstt hini hcode hy hK hg (hsize.trans hml.symm) (argsL := As) (rest := rest) (fun sig h => hn.trans (hlen sig h)) hstack hW (by rw [hb]; exact hdg)
    (fun vm₁ hW₁ => ⟨hf.1, hf.2, hp.2 (T.setVm vm₁) hT hW₁⟩)
  dsimp only [Pt.U, Pt.locs, Pt.cells, Pt.slots] at X' e1 e2 h1 h2 h3 st
  subst h1; subst h2; subst h3
  exact ⟨v, (T.setVm vm₁).calling g' mk As.toArray, t, U', L, hT, X', hL, e1, e2, hq, st⟩
/-- not caught here, past rows that name other classes: it goes on to the caller -/
theorem vx_outP {p : Program} {l : Launch} {e : Env} {R : Room} {s : State} {m : MethodId} {args : Array Value} {below : List Frame} {meth : Method} {c : Code} {H : Heap} {locs : List Loc} {cells slots : Nat} {free : Addr → Prop} {ls : Array Slot} {rest : List Value} {Qc : Array Value → State → Outcome → State → Prop} {XC : String → State → State → Prop}
    {pc : Nat} {own E : String} {ce : Cell} {q : Addr} {mc ms : Nat} (hown : s.vm.findClass own = some m.cls) (hlocks : meth.locks = false)
    (hpass : ∀ z ∈ c.exceptionTable.toList, covers z pc = false ∨ (z.catchType ≠ 0 ∧ ∃ nm : String, (Cond.classLink own z.catchType nm).before args s = true ∧ va_Nc E nm s)) (hcell : H[q]? = some ce) (hv : ce.vm = .none) (hcl : s.vm.findClass E = some ce.cls)
    (hx : ∀ t : State, t.heap = H → s.vm.Alike t.vm → XC E s t) (hf : ∀ z ∈ locs, free z.base) (hc : cells ≤ mc) (hs : slots ≤ ms) :
    vx_W p l e R s m args below meth c H locs cells slots (vx_MQ below Qc XC args s mc ms free) (F0 m pc ls rest) q := by
  intro T hT X
  have hpl : e.platform.magicAccessors = ({} : Platform).magicAccessors := by rw [X.admits.platform]
  obtain ⟨vm', hW', X', st⟩ := X.outThrough hlocks q (g := F0 m pc ls rest) rfl rfl rfl (cell := ce) (by rw [hT]; exact hcell) (by rw [hv]; rfl)
    (by obtain ⟨k9, h9, -⟩ := Vm.findClass_spec hcl; exact ⟨k9, h9⟩) (fun z hz => by
      rcases hpass z hz with h | ⟨hz0, nm, hl1, hn1⟩
      · exact Or.inl h
      · obtain ⟨c6, hc6, hcl6⟩ := Cond.classLink_spec hown hl1 e.platform hpl
        obtain ⟨a8, b8, h1, h2, h3⟩ := hn1
        cases Option.some.inj (h1.symm.trans hcl)
        cases Option.some.inj (h2.symm.trans hc6)
        exact Or.inr ⟨hz0, _, hcl6, h3⟩)
  obtain ⟨g₀, hfr⟩ := X'.frames_eq
  have hcell9 : ((T.setVm vm').setFrames (.throwing q :: below)).heap[q]? = some ce := by
    show T.heap[q]? = some ce
    rw [hT]; exact hcell
  have hend : Ended ((T.setVm vm').setFrames (.throwing q :: below)) below (.threw q) := State.frames_setFrames _ (State.cur_lt_of_frames hfr)
  refine ⟨(T.setVm vm').setFrames (.throwing q :: below), ?_, .threw q, X'.here.running, hend, Or.inr ⟨q, rfl, E, ce, locs, hx _ hT (X'.ends _).1.alike, hcell9, hv, hcl, (X'.ends _).1, (X'.ends _).2.mono hc hs, hf⟩⟩
  rw [X.pushThrowing_eq]
  exact st
/-- a thing of a world lies in the heap -/
theorem vx_lt {D : va_G} {cl : List vw_C} {ws : va_W} {H1 : Heap} (h : va_P D cl ws H1) {k : Nat} {q : Nat × va_E} (hk : ws[k]? = some q) : q.1 < H1.size := (h k q hk).lt
end VXS
/-! ===== END ===== -/
/-! ===== BEGIN methods with a table of their own: called by a name, returning or throwing ===== -/
section VXH
/-! vx_backW, vx_callVX, vx_callSX, vx_callVW, vx_runVW, vx_runVX, vx_runSX, vx_ofWH follow the same proofs as their sisters above (Free/Laws.lean, Shelf42/LK1.lean); vx_outP calls Shelf42/NT130.lean (outThrough). -/
section
variable {l : Launch} {R : Room} {p : Program} {e : Env} {below : List Frame} {s : State} {sargs : Array Value} {y : MethodName} {len W9 : Nat}
theorem vx_backW {ws : List Cond} {rm : Room} {Pc : Array Value → State → Prop} {Qc : Array Value → State → Outcome → State → Prop} {XC : String → State → State → Prop} {mc ms : Nat} {free : Addr → Prop} {bytes : ByteArray} {maxL : Nat} {ret : Option FieldType} {hh : List (Nat × Nat × Nat × Nat)}
    (hM : vx_Met l y ws rm Pc Qc XC mc ms free) (hblind : FrameBlind Pc) (hrc : rm.cells = mc) (hrs : rm.slots = ms)
    (hframes : rm.frames + 1 ≤ R.frames) (hlocals : W9 + (maxL + 11) + rm.locals ≤ R.locals)
    (hws : ∀ w ∈ ws, ∀ a' U, s.WarmedH U.vm → w.before a' U = true) (hcode : Cond.codeWith y bytes maxL ret hh ∈ ws) (hinit : ∀ a' U, s.WarmedH U.vm → (Cond.initialized y.cls).before a' U = true) :
    vx_Back l R p e below s sargs y len W9 (PreOf R mc ms Pc) (PostOf Qc mc ms free) (vx_Post XC mc ms free) := by
  intro m meth c A g ig mk a X hg hsize hdg hW hn hp
  have h1 : (headSpec ws rm).pre.before a A.U = true := atoms_intro fun w hw => hws w hw _ _ X.warmed
  have h2 : (Cond.codeWith y bytes maxL ret hh).before a A.U = true := hws _ hcode _ _ X.warmed
  have h3 : (Cond.initialized y.cls).before a A.U = true := hinit _ _ X.warmed
  have h4 : A.cells + (headSpec ws rm).room.cells ≤ R.cells := by rw [show (headSpec ws rm).room.cells = mc from hrc]; exact hp.1
  have h5 : A.slots + (headSpec ws rm).room.slots ≤ R.slots := by rw [show (headSpec ws rm).room.slots = ms from hrs]; exact hp.2.1
  have hPc : Pc a (A.U.calling g mk a) := hblind _ _ _ _ hp.2.2
  obtain ⟨U, Ls, c0, s0⟩ := A
  dsimp only [Pt.U, Pt.locs, Pt.cells, Pt.slots] at h1 h2 h3 h4 h5 X hn hPc ⊢
  obtain ⟨m9, methY, cY, hn9, hmY, hcY, -, hlY, -⟩ := Cond.codeWith_spec h2
  cases Option.some.inj (hn9.symm.trans hn)
  obtain ⟨kY, hkY, -⟩ := className_of_methodNamed hn
  have hinitY : kY.init = .initialized := Cond.initialized_spec (findClass_of_methodNamed hn) hkY h3
  have h : At U g.method c below := by rw [hg]; exact X.here
  have hlocals9 : W9 + (maxL + 11) + (headSpec ws rm).room.locals ≤ R.locals := hlocals
  have happ : (headSpec ws rm).appliesLoose y e.platform (U.calling g mk a) = true :=
    Spec.appliesLoose_calling (g := g) h hdg hn hkY hinitY
      (X.room_calling (g := g) (R' := (headSpec ws rm).room) hsize hmY hcY hframes (by rw [hlY]; omega) h4 h5) h1
  obtain ⟨mid, hmid⟩ := h.above
  have hfr : (U.setTop g).frames = (.java g :: mid) ++ below := by rw [State.frames_setTop' g h.top, hmid]; rfl
  obtain ⟨o, s₂, hsteps, -, hend, hq⟩ := Steps.callFree hM p X.admits X.cas X.clock (acts := []) hfr happ hPc trivial
  have hq' : vx_Q Qc XC mc ms free a (U.calling g mk a) o s₂ := hq
  rw [State.frames_setTop' g h.top] at hend
  obtain ⟨g₀, hg0⟩ := Option.isSome_iff_exists.mp h.top
  obtain ⟨r, hr⟩ := State.topJava?_eq_some.mp hg0
  have hr' : (({ U with heap := s₂.heap, slotsUsed := s₂.slotsUsed } : State).setVm s₂.vm).frames = .java g₀ :: r := hr
  rcases hq' with ⟨hqc, L, hfe, hL⟩ | ⟨q, rfl, E, ce, L, hx, hce, hcv, hcl, hW₂, hsm, hL⟩
  · obtain ⟨⟨v, rfl⟩, hW₂, e2, q2, q3, q4, q5, q6⟩ := id hfe
    have e3 : s₂ = ({ (U.calling g mk a).setFrames s₂.frames with heap := s₂.heap, slotsUsed := s₂.slotsUsed } : State).setVm s₂.vm := by
      have : s₂ = ({ s₂ with vm := (U.calling g mk a).vm } : State).setVm s₂.vm := rfl
      rw [e2] at this
      exact this
    obtain ⟨c₂, i₂, len₂, hc₂, hd₂, hf₂⟩ := hend
    have hW' : U.WarmedH s₂.vm := hW₂
    have hcc : c₂ = c := by
      have h1 : s₂.code? g.method = U.code? g.method := by
        rw [State.code?_eq, State.code?_eq, hW'.alike.method?]
      exact Option.some.inj (hc₂.symm.trans (h1.trans h.code))
    subst hcc
    have hlen : len₂ = len := by rw [hdg] at hd₂; cases hd₂; rfl
    subst hlen
    have hs₂ : s₂ = (({ U with heap := s₂.heap, slotsUsed := s₂.slotsUsed } : State).setVm s₂.vm).setTop { g with pc := g.pc + len₂, stack := v.toList ++ g.stack } := by
      refine e3.trans ?_
      rw [hf₂, State.calling_eq h.top, State.setFrames_setFrames, State.setTop_of_frames _ hr', hr]
      rfl
    have hsame : U.sameButNew ({ U with heap := s₂.heap, slotsUsed := s₂.slotsUsed } : State) L mc ms := by
      refine ⟨?_, q2, q3, q4, q5, q6⟩
      obtain ⟨t, ht, -⟩ := State.frames_cons hr
      show ({ U with heap := s₂.heap, slotsUsed := s₂.slotsUsed } : State) = { U.setFrames U.frames with heap := s₂.heap, slotsUsed := s₂.slotsUsed }
      rw [State.setFrames_self ht]
    subst hg
    refine Or.inl ⟨v, ⟨(({ U with heap := s₂.heap, slotsUsed := s₂.slotsUsed } : State).setVm s₂.vm), Ls ++ L, c0 + mc, s0 + ms⟩,
      ⟨X.admits, X.cas, X.clock, X.frames, X.room, X.hears, X.method, X.code, (X.here.setHeapUsed s₂.heap s₂.slotsUsed).setVm hW'.alike, X.tail, State.WarmedH.trans X.warmed hW', X.limits, X.bytes, X.same.trans (hsame.setVm s.vm)⟩,
      ⟨g, mk, s₂, L, rfl, rfl, hqc, rfl, hL, rfl, rfl⟩, ?_⟩
    show Steps p.tables e below _ ((({ U with heap := s₂.heap, slotsUsed := s₂.slotsUsed } : State).setVm s₂.vm).setTop { g with pc := g.pc + len₂, stack := v.toList ++ g.stack })
    rw [← hs₂]
    exact hsteps
  · obtain ⟨e2, q2, q3, q4, q5, q6⟩ := id hsm
    have e3 : s₂ = ({ (U.calling g mk a).setFrames s₂.frames with heap := s₂.heap, slotsUsed := s₂.slotsUsed } : State).setVm s₂.vm := by
      have : s₂ = ({ s₂ with vm := (U.calling g mk a).vm } : State).setVm s₂.vm := rfl
      rw [e2] at this
      exact this
    have hf₂ : s₂.frames = .throwing q :: .java g :: U.frames.tail := hend
    have hW' : U.WarmedH s₂.vm := hW₂
    have hs₂ : s₂ = ((({ U with heap := s₂.heap, slotsUsed := s₂.slotsUsed } : State).setVm s₂.vm).setTop g).pushFrame (.throwing q) := by
      refine e3.trans ?_
      rw [hf₂, State.calling_eq h.top, State.setFrames_setFrames, State.pushFrame, State.frames_setTop _ hr', State.setTop_of_frames _ hr', State.setFrames_setFrames, hr]
      rfl
    have hsame : U.sameButNew ({ U with heap := s₂.heap, slotsUsed := s₂.slotsUsed } : State) L mc ms := by
      refine ⟨?_, q2, q3, q4, q5, q6⟩
      obtain ⟨t, ht, -⟩ := State.frames_cons hr
      show ({ U with heap := s₂.heap, slotsUsed := s₂.slotsUsed } : State) = { U.setFrames U.frames with heap := s₂.heap, slotsUsed := s₂.slotsUsed }
      rw [State.setFrames_self ht]
    subst hg
    refine Or.inr ⟨q, ⟨(({ U with heap := s₂.heap, slotsUsed := s₂.slotsUsed } : State).setVm s₂.vm), Ls ++ L, c0 + mc, s0 + ms⟩,
      ⟨X.admits, X.cas, X.clock, X.frames, X.room, X.hears, X.method, X.code, (X.here.setHeapUsed s₂.heap s₂.slotsUsed).setVm hW'.alike, X.tail, State.WarmedH.trans X.warmed hW', X.limits, X.bytes, X.same.trans (hsame.setVm s.vm)⟩,
      ⟨g, mk, s₂, L, E, ce, rfl, rfl, hx, hce, hcv, hcl, rfl, hL, rfl, rfl⟩, ?_⟩
    show Steps p.tables e below _ (((({ U with heap := s₂.heap, slotsUsed := s₂.slotsUsed } : State).setVm s₂.vm).setTop g).pushFrame (.throwing q))
    rw [← hs₂]
    exact hsteps
end
variable {p : Program} {l : Launch} {e : Env} {R : Room} {s : State} {m : MethodId} {args : Array Value} {below : List Frame} {meth : Method} {c : Code} {T : State} {H : Heap} {locs : List Loc} {cells slots : Nat}
theorem vx_callVX (X : Stand p l e R s m args below meth c T locs cells slots) (hexec : p.tables.exec = Jvm.exec) {own C : String} {index : Nat} {y : MethodName} {bytes : ByteArray} {maxL : Nat} {ret : Option FieldType} {hh : List (Nat × Nat × Nat × Nat)}
    (hown : s.vm.findClass own = some m.cls) (hlink : (Cond.methodLink own index y).before args s = true) (hinst : (Cond.instanceMethod y).before args s = true) (hsel : (Cond.selects C y y).before args s = true)
    (hcode : (Cond.codeWith y bytes maxL ret hh).before args s = true) (hy : y.cls ≠ "java/lang/invoke/MethodHandle" ∧ y.cls ≠ "java/lang/invoke/VarHandle")
    {W9 : Nat} {Pre : Pt → Array Value → Prop} {Post : Pt → Array Value → Option Value → Pt → Prop} {PostX : Pt → Array Value → Addr → Pt → Prop} (hK : vx_Back l R p e below s args y 3 W9 Pre Post PostX)
    {b : Addr} {cellB : Cell} (hcell : T.heap[b]? = some cellB) (hobj : cellB.vm.isStatics = false) (hcls : s.vm.findClass C = some cellB.cls)
    {g : JFrame} (hg : g.method = m) (hsize : g.locals.size = c.maxLocals) {argsL rest : List Value} (hlen : ∀ sig, parseMethodDescriptor y.desc = some sig → argsL.length = sig.parameters.length)
    (hstack : g.stack = argsL.reverse ++ .ref b :: rest) (hW : 2 * g.monitorRoom + (rest.map fun v => v.category).sum ≤ W9) (hdg : decode c.code g.pc = .ok (.invokevirtual index, 3))
    (hpre : ∀ vm₁, s.WarmedH vm₁ → Pre ⟨T.setVm vm₁, locs, cells, slots⟩ (Value.ref b :: argsL).toArray) :
    (∃ (v : Option Value) (vm₁ : Vm) (B : Pt), s.WarmedH vm₁ ∧ Stand p l e R s m args below meth c B.U B.locs B.cells B.slots ∧ Post ⟨T.setVm vm₁, locs, cells, slots⟩ (Value.ref b :: argsL).toArray v B ∧
      ∀ target, Steps p.tables e below (B.U.setTop { g with pc := g.pc + 3, stack := v.toList ++ rest }) target → Steps p.tables e below (T.setTop g) target) ∨
    (∃ (q : Addr) (vm₁ : Vm) (B : Pt), s.WarmedH vm₁ ∧ Stand p l e R s m args below meth c B.U B.locs B.cells B.slots ∧ PostX ⟨T.setVm vm₁, locs, cells, slots⟩ (Value.ref b :: argsL).toArray q B ∧
      Steps p.tables e below (T.setTop g) ((B.U.setTop { g with stack := rest }).pushFrame (.throwing q))) := by
  obtain ⟨mk, methM, hnamed, hmethM, hstM, habM⟩ := Cond.instanceMethod_spec hinst
  obtain ⟨m8, methM', cM, hn8, hmethM', -, -, -, -, -, -, hsigM⟩ := Cond.codeWith_spec hcode
  cases Option.some.inj (hn8.symm.trans hnamed)
  cases hmethM.symm.trans hmethM'
  obtain ⟨c2, r2, m2, q1, q2, q3, q4, kP, hkP, hkPi⟩ := Cond.selects_spec hsel
  cases hcls.symm.trans q1
  cases (State.methodFound?_of_named hnamed hy).symm.trans q2
  cases hnamed.symm.trans q3
  have hselP : selectMethod e.platform s.vm cellB.cls mk = .method mk := by rw [Launch.admits_selectMethod X.admits]; exact q4
  obtain ⟨vm₁, X₁, hstep₁⟩ := X.invokevirtual hexec hown hlink hnamed hmethM hstM hkP hkPi hy (a := b) (cell := cellB) hcell
    (fun z h => by rw [h] at hobj; cases hobj) hselP hmethM habM hkP hkPi (g := g) hg (argsL := argsL) (rest := rest) (hlen _ hsigM) hstack hdg
  rcases hK m meth c ⟨T.setVm vm₁, locs, cells, slots⟩ { g with stack := rest } (.invokevirtual index) mk (Value.ref b :: argsL).toArray X₁ hg hsize hdg hW (X₁.named hnamed) (hpre vm₁ X₁.warmed) with ⟨v, B, X', hpost, hsteps⟩ | ⟨q, B, X', hpost, hsteps⟩
  · exact Or.inl ⟨v, vm₁, B, X₁.warmed, X', hpost, fun target h => hstep₁ _ fun acts => by rw [doInvoke_state]; exact hsteps.trans h⟩
  · exact Or.inr ⟨q, vm₁, B, X₁.warmed, X', hpost, hstep₁ _ fun acts => by rw [doInvoke_state]; exact hsteps⟩
theorem vx_callSX (X : Stand p l e R s m args below meth c T locs cells slots) (hexec : p.tables.exec = Jvm.exec) {own : String} {index : Nat} {y : MethodName} {bytes : ByteArray} {maxL : Nat} {ret : Option FieldType} {hh : List (Nat × Nat × Nat × Nat)}
    (hown : s.vm.findClass own = some m.cls) (hlink : (Cond.methodLink own index y).before args s = true) (hstat : (Cond.static y).before args s = true) (hinit : (Cond.initialized y.cls).before args s = true)
    (hcode : (Cond.codeWith y bytes maxL ret hh).before args s = true) (hy : y.cls ≠ "java/lang/invoke/MethodHandle" ∧ y.cls ≠ "java/lang/invoke/VarHandle")
    {W9 : Nat} {Pre : Pt → Array Value → Prop} {Post : Pt → Array Value → Option Value → Pt → Prop} {PostX : Pt → Array Value → Addr → Pt → Prop} (hK : vx_Back l R p e below s args y 3 W9 Pre Post PostX)
    {g : JFrame} (hg : g.method = m) (hsize : g.locals.size = c.maxLocals) {argsL rest : List Value} (hlen : ∀ sig, parseMethodDescriptor y.desc = some sig → argsL.length = sig.parameters.length)
    (hstack : g.stack = argsL.reverse ++ rest) (hW : 2 * g.monitorRoom + (rest.map fun v => v.category).sum ≤ W9) (hdg : decode c.code g.pc = .ok (.invokestatic index, 3))
    (hpre : ∀ vm₁, s.WarmedH vm₁ → Pre ⟨T.setVm vm₁, locs, cells, slots⟩ argsL.toArray) :
    (∃ (v : Option Value) (vm₁ : Vm) (B : Pt), s.WarmedH vm₁ ∧ Stand p l e R s m args below meth c B.U B.locs B.cells B.slots ∧ Post ⟨T.setVm vm₁, locs, cells, slots⟩ argsL.toArray v B ∧
      ∀ target, Steps p.tables e below (B.U.setTop { g with pc := g.pc + 3, stack := v.toList ++ rest }) target → Steps p.tables e below (T.setTop g) target) ∨
    (∃ (q : Addr) (vm₁ : Vm) (B : Pt), s.WarmedH vm₁ ∧ Stand p l e R s m args below meth c B.U B.locs B.cells B.slots ∧ PostX ⟨T.setVm vm₁, locs, cells, slots⟩ argsL.toArray q B ∧
      Steps p.tables e below (T.setTop g) ((B.U.setTop { g with stack := rest }).pushFrame (.throwing q))) := by
  obtain ⟨mk, methM, cM, hnamed, hmethM, -, -, -, -, -, -, hsigM⟩ := Cond.codeWith_spec hcode
  have hstatic : methM.isStatic = true := Cond.static_spec hnamed hmethM hstat
  obtain ⟨kP, hkP, -⟩ := className_of_methodNamed hnamed
  have hinitP : kP.init = .initialized := Cond.initialized_spec (findClass_of_methodNamed hnamed) hkP hinit
  obtain ⟨vm₁, X₁, hstep₁⟩ := X.invokestatic hexec hown hlink hnamed hmethM hstatic hkP hinitP hy (g := g) hg (argsL := argsL) (rest := rest) (hlen _ hsigM) hstack hdg
  rcases hK m meth c ⟨T.setVm vm₁, locs, cells, slots⟩ { g with stack := rest } (.invokestatic index) mk argsL.toArray X₁ hg hsize hdg hW (X₁.named hnamed) (hpre vm₁ X₁.warmed) with ⟨v, B, X', hpost, hsteps⟩ | ⟨q, B, X', hpost, hsteps⟩
  · exact Or.inl ⟨v, vm₁, B, X₁.warmed, X', hpost, fun target h => hstep₁ _ fun acts => by rw [doInvoke_state]; exact hsteps.trans h⟩
  · exact Or.inr ⟨q, vm₁, B, X₁.warmed, X', hpost, hstep₁ _ fun acts => by rw [doInvoke_state]; exact hsteps⟩
theorem vx_callVW (X : Stand p l e R s m args below meth c T locs cells slots) (hexec : p.tables.exec = Jvm.exec) {own C : String} {index : Nat} {y : MethodName} {bytes : ByteArray} {maxL : Nat} {ret : Option FieldType} {hh : List (Nat × Nat × Nat × Nat)}
    (hown : s.vm.findClass own = some m.cls) (hlink : (Cond.methodLink own index y).before args s = true) (hinst : (Cond.instanceMethod y).before args s = true) (hsel : (Cond.selects C y y).before args s = true)
    (hcode : (Cond.codeWith y bytes maxL ret hh).before args s = true) (hy : y.cls ≠ "java/lang/invoke/MethodHandle" ∧ y.cls ≠ "java/lang/invoke/VarHandle")
    {W9 : Nat} {Pre : Pt → Array Value → Prop} {Post : Pt → Array Value → Option Value → Pt → Prop} (hK : Back l R p e below s args y 3 W9 Pre Post)
    {b : Addr} {cellB : Cell} (hcell : T.heap[b]? = some cellB) (hobj : cellB.vm.isStatics = false) (hcls : s.vm.findClass C = some cellB.cls)
    {g : JFrame} (hg : g.method = m) (hsize : g.locals.size = c.maxLocals) {argsL rest : List Value} (hlen : ∀ sig, parseMethodDescriptor y.desc = some sig → argsL.length = sig.parameters.length)
    (hstack : g.stack = argsL.reverse ++ .ref b :: rest) (hW : 2 * g.monitorRoom + (rest.map fun v => v.category).sum ≤ W9) (hdg : decode c.code g.pc = .ok (.invokevirtual index, 3))
    (hpre : ∀ vm₁, s.WarmedH vm₁ → Pre ⟨T.setVm vm₁, locs, cells, slots⟩ (Value.ref b :: argsL).toArray) :
    ∃ (v : Option Value) (vm₁ : Vm) (B : Pt), s.WarmedH vm₁ ∧ Stand p l e R s m args below meth c B.U B.locs B.cells B.slots ∧ Post ⟨T.setVm vm₁, locs, cells, slots⟩ (Value.ref b :: argsL).toArray v B ∧
      ∀ target, Steps p.tables e below (B.U.setTop { g with pc := g.pc + 3, stack := v.toList ++ rest }) target → Steps p.tables e below (T.setTop g) target := by
  obtain ⟨mk, methM, hnamed, hmethM, hstM, habM⟩ := Cond.instanceMethod_spec hinst
  obtain ⟨m8, methM', cM, hn8, hmethM', -, -, -, -, -, -, hsigM⟩ := Cond.codeWith_spec hcode
  cases Option.some.inj (hn8.symm.trans hnamed)
  cases hmethM.symm.trans hmethM'
  obtain ⟨c2, r2, m2, q1, q2, q3, q4, kP, hkP, hkPi⟩ := Cond.selects_spec hsel
  cases hcls.symm.trans q1
  cases (State.methodFound?_of_named hnamed hy).symm.trans q2
  cases hnamed.symm.trans q3
  have hselP : selectMethod e.platform s.vm cellB.cls mk = .method mk := by rw [Launch.admits_selectMethod X.admits]; exact q4
  obtain ⟨vm₁, X₁, hstep₁⟩ := X.invokevirtual hexec hown hlink hnamed hmethM hstM hkP hkPi hy (a := b) (cell := cellB) hcell
    (fun z h => by rw [h] at hobj; cases hobj) hselP hmethM habM hkP hkPi (g := g) hg (argsL := argsL) (rest := rest) (hlen _ hsigM) hstack hdg
  obtain ⟨v, B, X', hpost, hsteps⟩ := hK m meth c ⟨T.setVm vm₁, locs, cells, slots⟩ { g with stack := rest } (.invokevirtual index) mk (Value.ref b :: argsL).toArray X₁ hg hsize hdg hW (X₁.named hnamed) (hpre vm₁ X₁.warmed)
  exact ⟨v, vm₁, B, X₁.warmed, X', hpost, fun target h => hstep₁ _ fun acts => by rw [doInvoke_state]; exact hsteps.trans h⟩
abbrev vx_CVW (R : Room) (s : State) (args : Array Value) (own C : String) (index : Nat) (y : MethodName) (bytes : ByteArray) (maxL : Nat) (ret : Option FieldType) (hh : List (Nat × Nat × Nat × Nat)) (ws : List Cond) (rm : Room) (mc ms n : Nat) : Prop :=
  (rm.cells = mc ∧ rm.slots = ms ∧ rm.frames + 1 ≤ R.frames ∧ 8 + (maxL + 11) + rm.locals ≤ R.locals ∧ (∀ w ∈ ws, ∀ (a' : Array Value) (U : State), s.WarmedH U.vm → w.before a' U = true) ∧ Cond.codeWith y bytes maxL ret hh ∈ ws) ∧
  (Cond.codeWith y bytes maxL ret hh).before args s = true ∧ (Cond.initialized y.cls).before args s = true ∧ (y.cls ≠ "java/lang/invoke/MethodHandle" ∧ y.cls ≠ "java/lang/invoke/VarHandle") ∧
  (∀ sig, parseMethodDescriptor y.desc = some sig → n = sig.parameters.length) ∧ (Cond.methodLink own index y).before args s = true ∧ (Cond.instanceMethod y).before args s = true ∧ (Cond.selects C y y).before args s = true
theorem vx_cwVW {own C : String} {index maxL mc ms : Nat} {y : MethodName} {bytes : ByteArray} {ret : Option FieldType} {hh : List (Nat × Nat × Nat × Nat)} {Ts ws ws' : List Cond} {rm : Room} (n : Nat) (ht : ∀ w ∈ Ts, w.before args s = true) (hT : GoodIn Ts (wsV own index C y ws)) (hw : ws = Cond.codeWith y bytes maxL ret hh :: ws') (hrc : rm.cells = mc) (hrs : rm.slots = ms)
    (hd : y.cls = C ∧ y.cls ≠ "java/lang/invoke/MethodHandle" ∧ y.cls ≠ "java/lang/invoke/VarHandle" ∧ (parseMethodDescriptor y.desc).map (fun d => d.parameters.length) = some n) (hR : rm.frames + 1 ≤ R.frames ∧ 8 + (maxL + 11) + rm.locals ≤ R.locals) :
    vx_CVW R s args own C index y bytes maxL ret hh ws rm mc ms n := by
  obtain ⟨hC, hd⟩ := hd
  subst hC
  have ok : ∀ w ∈ wsV own index y.cls y ws, w.before args s = true := fun w h => ht w (hT w h).1
  have hG : GoodIn Ts ws := fun w h => hT w (by unfold wsV; exact List.mem_append_right _ h)
  have hc : Cond.codeWith y bytes maxL ret hh ∈ ws := by rw [hw]; exact List.mem_cons_self
  refine ⟨⟨hrc, hrs, hR.1, hR.2, pay_in ht hG, hc⟩, ht _ (hG _ hc).1, ok _ (by simp [wsV]), ⟨hd.1, hd.2.1⟩, fun sig h => ?_, ok _ (by simp [wsV]), ok _ (by simp [wsV]), ok _ (by simp [wsV])⟩
  have h2 := hd.2.2
  rw [h] at h2
  exact (Option.some.inj h2).symm
theorem vx_runVW {y : MethodName} {bytes cc : ByteArray} {maxL nL mc ms n index : Nat} {ret : Option FieldType} {hh : List (Nat × Nat × Nat × Nat)} {ws : List Cond} {rm : Room} {Pc : Array Value → State → Prop} {Qc : Array Value → State → Outcome → State → Prop} {free : Addr → Prop} {Ts : List Cond} {own C : String} {b : Addr} {As rest : List Value} {g : JFrame}
    (S : CallFix p m c cc nL s args Ts own) (hM : Met l y ws rm Pc Qc mc ms free) (cw : vx_CVW R s args own C index y bytes maxL ret hh ws rm mc ms n) (hp : PreV s H C b Pc As)
    (hg : g.method = m) (hn : As.length = n) (hsize : g.locals.size = nL) (hstack : g.stack = As.reverse ++ .ref b :: rest) (hW : 2 * g.monitorRoom + (rest.map fun v => v.category).sum ≤ 8) (hdg : decode cc g.pc = .ok (.invokevirtual index, 3)) (hf : cells + mc ≤ R.cells ∧ slots + ms ≤ R.slots) :
    va_Run p l e R s m args below meth c H locs cells slots mc ms g rest (Qc (Value.ref b :: As).toArray) free := by
  obtain ⟨⟨hrc, hrs, hfr, hlo, hws, hcw⟩, hcode, hini, hy, hlen, hl, hin, hse⟩ := cw
  have hK : Back l R p e below s args y 3 8 (PreOf R mc ms Pc) (PostOf Qc mc ms free) := va_backW (hh := hh) (bytes := bytes) (maxL := maxL) (ret := ret) hM hp.1 hrc hrs hfr hlo hws hcw (fun a' U hW => word_at hW (Or.inl (by first | rfl | simp [Cond.onTables, Cond.keeps, Cond.steady])) hini)
  obtain ⟨hx, hb, hml, ho, -⟩ := S
  obtain ⟨-, ⟨cellB, hcB, hoB, hclB⟩, hPc⟩ := hp
  intro T hT X
  obtain ⟨v, vm₁, ⟨U', l2, c2, s2⟩, hW₁, X', ⟨g', mk, t, L, e1, e2, hq, h1, hL, h2, h3⟩, st⟩ := vx_callVW X hx (C := C) (hh := hh) (bytes := bytes) (maxL := maxL) (ret := ret) ho hl hin hse hcode hy hK (by rw [hT]; exact hcB) hoB hclB hg (hsize.trans hml.symm) (argsL := As) (rest := rest) (fun sig h => hn.trans (hlen sig h)) hstack hW (by rw [hb]; exact hdg)
    (fun vm₁ hW₁ => ⟨hf.1, hf.2, hPc (T.setVm vm₁) hT hW₁⟩)
  dsimp only [Pt.U, Pt.locs, Pt.cells, Pt.slots] at X' e1 e2 h1 h2 h3 st
  subst h1; subst h2; subst h3
  exact ⟨v, (T.setVm vm₁).calling g' mk (Value.ref b :: As).toArray, t, U', L, hT, X', hL, e1, e2, hq, st⟩
section
variable {y : MethodName} {bytes cc : ByteArray} {maxL nL mc ms n index : Nat} {ret : Option FieldType} {ws : List Cond} {rm : Room} {Pc : Array Value → State → Prop} {Qc : Array Value → State → Outcome → State → Prop} {XC : String → State → State → Prop} {free : Addr → Prop} {Ts : List Cond} {own C : String} {b : Addr} {As rest : List Value} {g : JFrame}
theorem vx_runVX {hh : List (Nat × Nat × Nat × Nat)} (S : CallFix p m c cc nL s args Ts own) (hM : vx_Met l y ws rm Pc Qc XC mc ms free) (cw : vx_CVW R s args own C index y bytes maxL ret hh ws rm mc ms n) (hp : PreV s H C b Pc As)
    (hg : g.method = m) (hn : As.length = n) (hsize : g.locals.size = nL) (hstack : g.stack = As.reverse ++ .ref b :: rest) (hW : 2 * g.monitorRoom + (rest.map fun v => v.category).sum ≤ 8) (hdg : decode cc g.pc = .ok (.invokevirtual index, 3)) (hf : cells + mc ≤ R.cells ∧ slots + ms ≤ R.slots) :
    vx_Run p l e R s m args below meth c H locs cells slots mc ms g rest (Qc (Value.ref b :: As).toArray) XC free := by
  obtain ⟨⟨hrc, hrs, hfr, hlo, hws, hcw⟩, hcode, hini, hy, hlen, hl, hin, hse⟩ := cw
  have hK : vx_Back l R p e below s args y 3 8 (PreOf R mc ms Pc) (PostOf Qc mc ms free) (vx_Post XC mc ms free) := vx_backW (hh := hh) (bytes := bytes) (maxL := maxL) (ret := ret) hM hp.1 hrc hrs hfr hlo hws hcw (fun a' U hW => word_at hW (Or.inl (by first | rfl | simp [Cond.onTables, Cond.keeps, Cond.steady])) hini)
  obtain ⟨hx, hb, hml, ho, -⟩ := S
  obtain ⟨-, ⟨cellB, hcB, hoB, hclB⟩, hPc⟩ := hp
  intro T hT X
  rcases vx_callVX X hx (C := C) (hh := hh) (bytes := bytes) (maxL := maxL) (ret := ret) ho hl hin hse hcode hy hK (by rw [hT]; exact hcB) hoB hclB hg (hsize.trans hml.symm) (argsL := As) (rest := rest) (fun sig h => hn.trans (hlen sig h)) hstack hW (by rw [hb]; exact hdg)
    (fun vm₁ hW₁ => ⟨hf.1, hf.2, hPc (T.setVm vm₁) hT hW₁⟩) with ⟨v, vm₁, ⟨U', l2, c2, s2⟩, hW₁, X', ⟨g', mk, t, L, e1, e2, hq, h1, hL, h2, h3⟩, st⟩ | ⟨q, vm₁, ⟨U', l2, c2, s2⟩, hW₁, X', ⟨g', mk, t, L, E, ce, e1, e2, hq, hce, hcv, hcl, h1, hL, h2, h3⟩, st⟩
  · dsimp only [Pt.U, Pt.locs, Pt.cells, Pt.slots] at X' e1 e2 h1 h2 h3 st
    subst h1; subst h2; subst h3
    exact Or.inl ⟨v, (T.setVm vm₁).calling g' mk (Value.ref b :: As).toArray, t, U', L, hT, X', hL, e1, e2, hq, st⟩
  · dsimp only [Pt.U, Pt.locs, Pt.cells, Pt.slots] at X' e1 e2 h1 h2 h3 st hcl
    subst h1; subst h2; subst h3
    exact Or.inr ⟨q, (T.setVm vm₁).calling g' mk (Value.ref b :: As).toArray, t, U', L, E, ce, hT, X', hL, e1, e2, hq, hce, hcv, vx_cls hW₁ hcl, st⟩
theorem vx_runSX {hh : List (Nat × Nat × Nat × Nat)} (S : CallFix p m c cc nL s args Ts own) (hM : vx_Met l y ws rm Pc Qc XC mc ms free) (cw : vx_CSW R s args own index y bytes maxL ret hh ws rm mc ms n) (hp : PreS s H Pc As)
    (hg : g.method = m) (hn : As.length = n) (hsize : g.locals.size = nL) (hstack : g.stack = As.reverse ++ rest) (hW : 2 * g.monitorRoom + (rest.map fun v => v.category).sum ≤ 8) (hdg : decode cc g.pc = .ok (.invokestatic index, 3)) (hf : cells + mc ≤ R.cells ∧ slots + ms ≤ R.slots) :
    vx_Run p l e R s m args below meth c H locs cells slots mc ms g rest (Qc As.toArray) XC free := by
  obtain ⟨⟨hrc, hrs, hfr, hlo, hws, hcw⟩, hcode, hini, hy, hlen, hl, hstt⟩ := cw
  have hK : vx_Back l R p e below s args y 3 8 (PreOf R mc ms Pc) (PostOf Qc mc ms free) (vx_Post XC mc ms free) := vx_backW (hh := hh) (bytes := bytes) (maxL := maxL) (ret := ret) hM hp.1 hrc hrs hfr hlo hws hcw (fun a' U hW => word_at hW (Or.inl (by first | rfl | simp [Cond.onTables, Cond.keeps, Cond.steady])) hini)
  obtain ⟨hx, hb, hml, ho, -⟩ := S
  intro T hT X
  rcases vx_callSX X hx (hh := hh) (bytes := bytes) (maxL := maxL) (ret := ret) ho hl hstt hini hcode hy hK hg (hsize.trans hml.symm) (argsL := As) (rest := rest) (fun sig h => hn.trans (hlen sig h)) hstack hW (by rw [hb]; exact hdg)
    (fun vm₁ hW₁ => ⟨hf.1, hf.2, hp.2 (T.setVm vm₁) hT hW₁⟩) with ⟨v, vm₁, ⟨U', l2, c2, s2⟩, hW₁, X', ⟨g', mk, t, L, e1, e2, hq, h1, hL, h2, h3⟩, st⟩ | ⟨q, vm₁, ⟨U', l2, c2, s2⟩, hW₁, X', ⟨g', mk, t, L, E, ce, e1, e2, hq, hce, hcv, hcl, h1, hL, h2, h3⟩, st⟩
  · dsimp only [Pt.U, Pt.locs, Pt.cells, Pt.slots] at X' e1 e2 h1 h2 h3 st
    subst h1; subst h2; subst h3
    exact Or.inl ⟨v, (T.setVm vm₁).calling g' mk As.toArray, t, U', L, hT, X', hL, e1, e2, hq, st⟩
  · dsimp only [Pt.U, Pt.locs, Pt.cells, Pt.slots] at X' e1 e2 h1 h2 h3 st hcl
    subst h1; subst h2; subst h3
    exact Or.inr ⟨q, (T.setVm vm₁).calling g' mk As.toArray, t, U', L, E, ce, hT, X', hL, e1, e2, hq, hce, hcv, vx_cls hW₁ hcl, st⟩
end
end VXH
theorem vx_ofWH {l : Launch} {y : MethodName} {ws ws' : List Cond} {rm : Room} {Pc : Array Value → State → Prop} {Qc : Array Value → State → Outcome → State → Prop} {XC : String → State → State → Prop} {mc ms : Nat} {free : Addr → Prop} {cc : ByteArray} {maxL : Nat} {ret : Option FieldType} {hh : List (Nat × Nat × Nat × Nat)}
    (hy : plainName y.cls = true) (hw : ws = Cond.codeWith y cc maxL ret hh :: ws')
    (body : ∀ p e s m args below meth c s₁, BodyLoose p l y (headSpec ws rm) cc maxL ret e s m args below meth c s₁ → c.maxLocals = maxL → Pc args s →
      W p l e (headSpec ws rm).room s m args below meth c s.heap [] 0 0 (vx_MQ below Qc XC args s mc ms free) (entryFrame m args maxL)) : vx_Met l y ws rm Pc Qc XC mc ms free := by
  refine MetFree.of_bodyS (code := cc) (maxLocals := maxL) (ret := ret) hy ?_ ?_
  · intro args s m h hn
    obtain ⟨m9, meth, c, hn9, h1, h2, h3, h4, -, h5, h6, -⟩ := Cond.codeWith_spec (atoms_spec (ws := ws) h _ (by rw [hw]; exact List.mem_cons_self))
    cases hn.symm.trans hn9
    exact ⟨meth, c, h1, h2, h3, h4, h5, h6⟩
  · intro p e s m args below meth c s₁ B hml hP _
    have hh0 : s₁.heap = s.heap := by rw [B.state]; rfl
    obtain ⟨t, a1, o, b1, b2, b3⟩ := body p e s m args below meth c s₁ B hml hP s₁ hh0 (Stand.of_body B)
    exact ⟨t, o, a1, b1, b2, b3⟩
/-! ===== END ===== -/
end
section
-- ===== PART A: goes FIRST, ahead of the names: the tables' words, and 'selects' of the private methods out of them =====
/-- a private method of a class that the tables say can be made, by its rows of tables_1 -/
def lw_okq (q : MethodName × Nat) : Prop := (q.1.cls ≠ "java/lang/invoke/MethodHandle" ∧ q.1.cls ≠ "java/lang/invoke/VarHandle") ∧ Cond.instantiable q.1.cls q.2 ∈ tables_1 ∧ Cond.privateMethod q.1 ∈ tables_1 ∧ Cond.instanceMethod q.1 ∈ tables_1
theorem lw_p0 : lw_okq (⟨"java/lang/Throwable", "fillInStackTrace", "(I)Ljava/lang/Throwable;"⟩, 6) := ⟨⟨by decide +kernel, by decide +kernel⟩, List.mem_of_getElem? (i := 129) (by decide +kernel), List.mem_of_getElem? (i := 127) (by decide +kernel), List.mem_of_getElem? (i := 128) (by decide +kernel)⟩
theorem lw_p1 : lw_okq (⟨"FundMoves", "priceRowOf", "(I)LFundMoves$PriceRow;"⟩, 9) := ⟨⟨by decide +kernel, by decide +kernel⟩, List.mem_of_getElem? (i := 14) (by decide +kernel), List.mem_of_getElem? (i := 182) (by decide +kernel), List.mem_of_getElem? (i := 183) (by decide +kernel)⟩
theorem lw_p2 : lw_okq (⟨"FundMoves", "saverAt", "(I)LFundMoves$Saver;"⟩, 9) := ⟨⟨by decide +kernel, by decide +kernel⟩, List.mem_of_getElem? (i := 14) (by decide +kernel), List.mem_of_getElem? (i := 259) (by decide +kernel), List.mem_of_getElem? (i := 260) (by decide +kernel)⟩
theorem lw_p3 : lw_okq (⟨"FundMoves", "priceNow", "(I)I"⟩, 9) := ⟨⟨by decide +kernel, by decide +kernel⟩, List.mem_of_getElem? (i := 14) (by decide +kernel), List.mem_of_getElem? (i := 280) (by decide +kernel), List.mem_of_getElem? (i := 281) (by decide +kernel)⟩
theorem lw_p4 : lw_okq (⟨"FundMoves", "openOrderAt", "(I)LFundMoves$Order;"⟩, 9) := ⟨⟨by decide +kernel, by decide +kernel⟩, List.mem_of_getElem? (i := 14) (by decide +kernel), List.mem_of_getElem? (i := 368) (by decide +kernel), List.mem_of_getElem? (i := 369) (by decide +kernel)⟩
theorem lw_p5 : lw_okq (⟨"FundMoves", "orderAt", "(I)LFundMoves$Order;"⟩, 9) := ⟨⟨by decide +kernel, by decide +kernel⟩, List.mem_of_getElem? (i := 14) (by decide +kernel), List.mem_of_getElem? (i := 372) (by decide +kernel), List.mem_of_getElem? (i := 373) (by decide +kernel)⟩
theorem lw_p6 : lw_okq (⟨"FundMoves", "doNextStep", "(LFundMoves$Order;Z)I"⟩, 9) := ⟨⟨by decide +kernel, by decide +kernel⟩, List.mem_of_getElem? (i := 14) (by decide +kernel), List.mem_of_getElem? (i := 378) (by decide +kernel), List.mem_of_getElem? (i := 379) (by decide +kernel)⟩
theorem lw_p7 : lw_okq (⟨"FundMoves", "sell", "(LFundMoves$Order;Z)V"⟩, 9) := ⟨⟨by decide +kernel, by decide +kernel⟩, List.mem_of_getElem? (i := 14) (by decide +kernel), List.mem_of_getElem? (i := 393) (by decide +kernel), List.mem_of_getElem? (i := 394) (by decide +kernel)⟩
theorem lw_p8 : lw_okq (⟨"FundMoves", "buy", "(LFundMoves$Order;IZ)V"⟩, 9) := ⟨⟨by decide +kernel, by decide +kernel⟩, List.mem_of_getElem? (i := 14) (by decide +kernel), List.mem_of_getElem? (i := 400) (by decide +kernel), List.mem_of_getElem? (i := 401) (by decide +kernel)⟩
theorem lw_p9 : lw_okq (⟨"FundMoves", "timelyThousandths", "(LFundMoves$Order;I)J"⟩, 9) := ⟨⟨by decide +kernel, by decide +kernel⟩, List.mem_of_getElem? (i := 14) (by decide +kernel), List.mem_of_getElem? (i := 404) (by decide +kernel), List.mem_of_getElem? (i := 405) (by decide +kernel)⟩
theorem lw_p10 : lw_okq (⟨"FundMoves", "shareCost", "(LFundMoves$Order;JI)V"⟩, 9) := ⟨⟨by decide +kernel, by decide +kernel⟩, List.mem_of_getElem? (i := 14) (by decide +kernel), List.mem_of_getElem? (i := 414) (by decide +kernel), List.mem_of_getElem? (i := 415) (by decide +kernel)⟩
theorem lw_p11 : lw_okq (⟨"FundMovesModel", "priceOf", "(II)I"⟩, 23) := ⟨⟨by decide +kernel, by decide +kernel⟩, List.mem_of_getElem? (i := 484) (by decide +kernel), List.mem_of_getElem? (i := 583) (by decide +kernel), List.mem_of_getElem? (i := 584) (by decide +kernel)⟩
theorem lw_p12 : lw_okq (⟨"FundMovesModel", "isSaver", "(I)Z"⟩, 23) := ⟨⟨by decide +kernel, by decide +kernel⟩, List.mem_of_getElem? (i := 484) (by decide +kernel), List.mem_of_getElem? (i := 608) (by decide +kernel), List.mem_of_getElem? (i := 609) (by decide +kernel)⟩
theorem lw_p13 : lw_okq (⟨"FundMovesModel", "isOrder", "(I)Z"⟩, 23) := ⟨⟨by decide +kernel, by decide +kernel⟩, List.mem_of_getElem? (i := 484) (by decide +kernel), List.mem_of_getElem? (i := 629) (by decide +kernel), List.mem_of_getElem? (i := 630) (by decide +kernel)⟩
theorem lw_p14 : lw_okq (⟨"FundMovesModel", "lateBy", "(I)I"⟩, 23) := ⟨⟨by decide +kernel, by decide +kernel⟩, List.mem_of_getElem? (i := 484) (by decide +kernel), List.mem_of_getElem? (i := 633) (by decide +kernel), List.mem_of_getElem? (i := 634) (by decide +kernel)⟩
theorem lw_p15 : lw_okq (⟨"FundMovesModel", "dueOf", "(I)I"⟩, 23) := ⟨⟨by decide +kernel, by decide +kernel⟩, List.mem_of_getElem? (i := 484) (by decide +kernel), List.mem_of_getElem? (i := 637) (by decide +kernel), List.mem_of_getElem? (i := 638) (by decide +kernel)⟩
def lw_privs_1 : List (MethodName × Nat) := [(⟨"java/lang/Throwable", "fillInStackTrace", "(I)Ljava/lang/Throwable;"⟩, 6), (⟨"FundMoves", "priceRowOf", "(I)LFundMoves$PriceRow;"⟩, 9), (⟨"FundMoves", "saverAt", "(I)LFundMoves$Saver;"⟩, 9), (⟨"FundMoves", "priceNow", "(I)I"⟩, 9), (⟨"FundMoves", "openOrderAt", "(I)LFundMoves$Order;"⟩, 9), (⟨"FundMoves", "orderAt", "(I)LFundMoves$Order;"⟩, 9), (⟨"FundMoves", "doNextStep", "(LFundMoves$Order;Z)I"⟩, 9), (⟨"FundMoves", "sell", "(LFundMoves$Order;Z)V"⟩, 9), (⟨"FundMoves", "buy", "(LFundMoves$Order;IZ)V"⟩, 9), (⟨"FundMoves", "timelyThousandths", "(LFundMoves$Order;I)J"⟩, 9), (⟨"FundMoves", "shareCost", "(LFundMoves$Order;JI)V"⟩, 9), (⟨"FundMovesModel", "priceOf", "(II)I"⟩, 23), (⟨"FundMovesModel", "isSaver", "(I)Z"⟩, 23), (⟨"FundMovesModel", "isOrder", "(I)Z"⟩, 23), (⟨"FundMovesModel", "lateBy", "(I)I"⟩, 23), (⟨"FundMovesModel", "dueOf", "(I)I"⟩, 23)]
theorem lw_r1 : ∀ q ∈ lw_privs_1, lw_okq q := List.forall_mem_cons.mpr ⟨lw_p0, List.forall_mem_cons.mpr ⟨lw_p1, List.forall_mem_cons.mpr ⟨lw_p2, List.forall_mem_cons.mpr ⟨lw_p3, List.forall_mem_cons.mpr ⟨lw_p4, List.forall_mem_cons.mpr ⟨lw_p5, List.forall_mem_cons.mpr ⟨lw_p6, List.forall_mem_cons.mpr ⟨lw_p7, List.forall_mem_cons.mpr ⟨lw_p8, List.forall_mem_cons.mpr ⟨lw_p9, List.forall_mem_cons.mpr ⟨lw_p10, List.forall_mem_cons.mpr ⟨lw_p11, List.forall_mem_cons.mpr ⟨lw_p12, List.forall_mem_cons.mpr ⟨lw_p13, List.forall_mem_cons.mpr ⟨lw_p14, List.forall_mem_cons.mpr ⟨lw_p15, fun _ h => absurd h List.not_mem_nil⟩⟩⟩⟩⟩⟩⟩⟩⟩⟩⟩⟩⟩⟩⟩⟩
theorem lw_p16 : lw_okq (⟨"FundMovesModel", "isTooMuch", "(III)Z"⟩, 23) := ⟨⟨by decide +kernel, by decide +kernel⟩, List.mem_of_getElem? (i := 484) (by decide +kernel), List.mem_of_getElem? (i := 641) (by decide +kernel), List.mem_of_getElem? (i := 642) (by decide +kernel)⟩
theorem lw_p17 : lw_okq (⟨"FundMovesModel", "timely", "(II)J"⟩, 23) := ⟨⟨by decide +kernel, by decide +kernel⟩, List.mem_of_getElem? (i := 484) (by decide +kernel), List.mem_of_getElem? (i := 645) (by decide +kernel), List.mem_of_getElem? (i := 646) (by decide +kernel)⟩
theorem lw_p18 : lw_okq (⟨"FundMovesModel", "does", "(IZ)I"⟩, 23) := ⟨⟨by decide +kernel, by decide +kernel⟩, List.mem_of_getElem? (i := 484) (by decide +kernel), List.mem_of_getElem? (i := 649) (by decide +kernel), List.mem_of_getElem? (i := 650) (by decide +kernel)⟩
theorem lw_p19 : lw_okq (⟨"FundMovesModel", "buys", "(III)V"⟩, 23) := ⟨⟨by decide +kernel, by decide +kernel⟩, List.mem_of_getElem? (i := 484) (by decide +kernel), List.mem_of_getElem? (i := 653) (by decide +kernel), List.mem_of_getElem? (i := 654) (by decide +kernel)⟩
theorem lw_p20 : lw_okq (⟨"FundMovesModel", "asks", "(I)Z"⟩, 23) := ⟨⟨by decide +kernel, by decide +kernel⟩, List.mem_of_getElem? (i := 484) (by decide +kernel), List.mem_of_getElem? (i := 665) (by decide +kernel), List.mem_of_getElem? (i := 666) (by decide +kernel)⟩
def lw_privs_2 : List (MethodName × Nat) := [(⟨"FundMovesModel", "isTooMuch", "(III)Z"⟩, 23), (⟨"FundMovesModel", "timely", "(II)J"⟩, 23), (⟨"FundMovesModel", "does", "(IZ)I"⟩, 23), (⟨"FundMovesModel", "buys", "(III)V"⟩, 23), (⟨"FundMovesModel", "asks", "(I)Z"⟩, 23)]
theorem lw_r2 : ∀ q ∈ lw_privs_2, lw_okq q := List.forall_mem_cons.mpr ⟨lw_p16, List.forall_mem_cons.mpr ⟨lw_p17, List.forall_mem_cons.mpr ⟨lw_p18, List.forall_mem_cons.mpr ⟨lw_p19, List.forall_mem_cons.mpr ⟨lw_p20, fun _ h => absurd h List.not_mem_nil⟩⟩⟩⟩⟩
def lw_privs : List (MethodName × Nat) := lw_privs_1 ++ (lw_privs_2)
def lw_tbl : List Cond := k2_sels lw_privs ++ tables_1
theorem lw_privs_ok : ∀ q ∈ lw_privs, lw_okq q := by
  show ∀ q ∈ lw_privs_1 ++ (lw_privs_2), lw_okq q
  exact List.forall_mem_append.mpr ⟨lw_r1, lw_r2⟩
/-! ===== BEGIN printed: names, fields, word lists, decode rows ===== -/
def RX0 : String := "FundMoves$Order"
def TX0 : u_T := fun k => match k with
  | 0 => ("FundMoves$Order", "mover", "LFundMoves$Saver;", true)
  | 1 => ("FundMoves$Order", "from", "I", true)
  | 2 => ("FundMoves$Order", "to", "I", true)
  | 3 => ("FundMoves$Order", "nextStep", "I", false)
  | 4 => ("FundMoves$Order", "lastStepDay", "I", false)
  | 5 => ("FundMoves$Order", "lateOfOld", "I", false)
  | 6 => ("FundMoves$Order", "lateOfNew", "I", false)
  | 7 => ("FundMoves$Order", "sold", "J", false)
  | 8 => ("FundMoves$Order", "proceeds", "J", false)
  | _ => ("FundMoves$Order", "replaced", "J", false)
def tyX0 : Nat → FieldType := fun k => match k with
  | 0 => .object "FundMoves$Saver"
  | 1 => .int
  | 2 => .int
  | 3 => .int
  | 4 => .int
  | 5 => .int
  | 6 => .int
  | 7 => .long
  | 8 => .long
  | _ => .long
abbrev wsX00 : List Cond := u_ws RX0 TX0 10
theorem nmX0 : ∀ a, a < 10 → ∀ b, b < 10 → a ≠ b → (TX0 a).2.1 ≠ (TX0 b).2.1 := by decide +kernel
theorem tyX0_ok : ∀ k, k < 10 → parseFieldDescriptor (TX0 k).2.2.1 = some (tyX0 k) := by decide +kernel
abbrev cX0_init : ByteArray := prog_2_method_1_code
def yX0_init : MethodName := ⟨RX0, "<init>", "(LFundMoves$Saver;II)V"⟩
abbrev cX0_dueDay : ByteArray := prog_2_method_2_code
def yX0_dueDay : MethodName := ⟨RX0, "dueDay", "()I"⟩
abbrev cX0_latenessOn : ByteArray := prog_2_method_3_code
def yX0_latenessOn : MethodName := ⟨RX0, "latenessOn", "(I)I"⟩
abbrev cX0_goOn : ByteArray := prog_2_method_4_code
def yX0_goOn : MethodName := ⟨RX0, "goOn", "(II)V"⟩
def RX1 : String := "FundMoves$PriceRow"
def TX1 : u_T := fun k => match k with
  | 0 => ("FundMoves$PriceRow", "firstDays", "[I", true)
  | 1 => ("FundMoves$PriceRow", "values", "[I", true)
  | _ => ("FundMoves$PriceRow", "latest", "I", false)
def tyX1 : Nat → FieldType := fun k => match k with
  | 0 => .array .int
  | 1 => .array .int
  | _ => .int
abbrev wsX10 : List Cond := u_ws RX1 TX1 3
theorem nmX1 : ∀ a, a < 3 → ∀ b, b < 3 → a ≠ b → (TX1 a).2.1 ≠ (TX1 b).2.1 := by decide +kernel
theorem tyX1_ok : ∀ k, k < 3 → parseFieldDescriptor (TX1 k).2.2.1 = some (tyX1 k) := by decide +kernel
abbrev cX1_init : ByteArray := prog_3_method_1_code
def yX1_init : MethodName := ⟨RX1, "<init>", "()V"⟩
abbrev cX1_put : ByteArray := prog_3_method_2_code
def yX1_put : MethodName := ⟨RX1, "put", "(II)Z"⟩
abbrev cX1_valueOn : ByteArray := prog_3_method_3_code
def yX1_valueOn : MethodName := ⟨RX1, "valueOn", "(I)I"⟩
def RX2 : String := "FundMoves$Saver"
def TX2 : u_T := fun k => match k with
  | 0 => ("FundMoves$Saver", "holder", "I", false)
  | 1 => ("FundMoves$Saver", "thousandths", "J", false)
  | _ => ("FundMoves$Saver", "isMoving", "Z", false)
def tyX2 : Nat → FieldType := fun k => match k with
  | 0 => .int
  | 1 => .long
  | _ => .boolean
abbrev wsX20 : List Cond := u_ws RX2 TX2 3
theorem nmX2 : ∀ a, a < 3 → ∀ b, b < 3 → a ≠ b → (TX2 a).2.1 ≠ (TX2 b).2.1 := by decide +kernel
theorem tyX2_ok : ∀ k, k < 3 → parseFieldDescriptor (TX2 k).2.2.1 = some (tyX2 k) := by decide +kernel
abbrev cX2_init : ByteArray := prog_4_method_1_code
def yX2_init : MethodName := ⟨RX2, "<init>", "(IJ)V"⟩
abbrev cX2_arrive : ByteArray := prog_4_method_2_code
def yX2_arrive : MethodName := ⟨RX2, "arrive", "(IJ)V"⟩
def RX3 : String := "FundMoves"
def TX3 : u_T := fun k => match k with
  | 0 => ("FundMoves", "priceRows", "[LFundMoves$PriceRow;", true)
  | 1 => ("FundMoves", "debts", "[[J", true)
  | 2 => ("FundMoves", "ownLosses", "[J", true)
  | 3 => ("FundMoves", "savers", "[LFundMoves$Saver;", true)
  | 4 => ("FundMoves", "orders", "[LFundMoves$Order;", true)
  | 5 => ("FundMoves", "presentDay", "I", false)
  | 6 => ("FundMoves", "defaultPrice", "I", false)
  | 7 => ("FundMoves", "saverCount", "I", false)
  | _ => ("FundMoves", "orderCount", "I", false)
def tyX3 : Nat → FieldType := fun k => match k with
  | 0 => .array (.object "FundMoves$PriceRow")
  | 1 => .array (.array .long)
  | 2 => .array .long
  | 3 => .array (.object "FundMoves$Saver")
  | 4 => .array (.object "FundMoves$Order")
  | 5 => .int
  | 6 => .int
  | 7 => .int
  | _ => .int
abbrev wsX30 : List Cond := u_ws RX3 TX3 9
theorem nmX3 : ∀ a, a < 9 → ∀ b, b < 9 → a ≠ b → (TX3 a).2.1 ≠ (TX3 b).2.1 := by decide +kernel
theorem tyX3_ok : ∀ k, k < 9 → parseFieldDescriptor (TX3 k).2.2.1 = some (tyX3 k) := by decide +kernel
abbrev cX3_init : ByteArray := prog_1_method_1_code
def yX3_init : MethodName := ⟨RX3, "<init>", "()V"⟩
abbrev cX3_pass : ByteArray := prog_1_method_2_code
def yX3_pass : MethodName := ⟨RX3, "pass", "(I)I"⟩
abbrev cX3_today : ByteArray := prog_1_method_3_code
def yX3_today : MethodName := ⟨RX3, "today", "()I"⟩
abbrev cX3_setPrice : ByteArray := prog_1_method_4_code
def yX3_setPrice : MethodName := ⟨RX3, "setPrice", "(II)I"⟩
abbrev cX3_price : ByteArray := prog_1_method_5_code
def yX3_price : MethodName := ⟨RX3, "price", "(II)I"⟩
abbrev cX3_setDefault : ByteArray := prog_1_method_6_code
def yX3_setDefault : MethodName := ⟨RX3, "setDefault", "(I)I"⟩
abbrev cX3_begin : ByteArray := prog_1_method_7_code
def yX3_begin : MethodName := ⟨RX3, "begin", "(II)I"⟩
abbrev cX3_pay : ByteArray := prog_1_method_8_code
def yX3_pay : MethodName := ⟨RX3, "pay", "(II)I"⟩
abbrev cX3_units : ByteArray := prog_1_method_9_code
def yX3_units : MethodName := ⟨RX3, "units", "(I)J"⟩
abbrev cX3_provider : ByteArray := prog_1_method_10_code
def yX3_provider : MethodName := ⟨RX3, "provider", "(I)I"⟩
abbrev cX3_order : ByteArray := prog_1_method_11_code
def yX3_order : MethodName := ⟨RX3, "order", "(II)I"⟩
abbrev cX3_step : ByteArray := prog_1_method_12_code
def yX3_step : MethodName := ⟨RX3, "step", "(I)I"⟩
abbrev cX3_force : ByteArray := prog_1_method_13_code
def yX3_force : MethodName := ⟨RX3, "force", "(I)I"⟩
abbrev cX3_stage : ByteArray := prog_1_method_14_code
def yX3_stage : MethodName := ⟨RX3, "stage", "(I)I"⟩
abbrev cX3_due : ByteArray := prog_1_method_15_code
def yX3_due : MethodName := ⟨RX3, "due", "(I)I"⟩
abbrev cX3_late : ByteArray := prog_1_method_16_code
def yX3_late : MethodName := ⟨RX3, "late", "(I)I"⟩
abbrev cX3_money : ByteArray := prog_1_method_17_code
def yX3_money : MethodName := ⟨RX3, "money", "(I)J"⟩
abbrev cX3_madeGood : ByteArray := prog_1_method_18_code
def yX3_madeGood : MethodName := ⟨RX3, "madeGood", "(I)J"⟩
abbrev cX3_owes : ByteArray := prog_1_method_19_code
def yX3_owes : MethodName := ⟨RX3, "owes", "(II)J"⟩
abbrev cX3_losses : ByteArray := prog_1_method_20_code
def yX3_losses : MethodName := ⟨RX3, "losses", "(I)J"⟩
abbrev cX3_doNextStep : ByteArray := prog_1_method_21_code
def yX3_doNextStep : MethodName := ⟨RX3, "doNextStep", "(LFundMoves$Order;Z)I"⟩
abbrev cX3_sell : ByteArray := prog_1_method_22_code
def yX3_sell : MethodName := ⟨RX3, "sell", "(LFundMoves$Order;Z)V"⟩
abbrev cX3_buy : ByteArray := prog_1_method_23_code
def yX3_buy : MethodName := ⟨RX3, "buy", "(LFundMoves$Order;IZ)V"⟩
abbrev cX3_timelyThousandths : ByteArray := prog_1_method_24_code
def yX3_timelyThousandths : MethodName := ⟨RX3, "timelyThousandths", "(LFundMoves$Order;I)J"⟩
abbrev cX3_shareCost : ByteArray := prog_1_method_25_code
def yX3_shareCost : MethodName := ⟨RX3, "shareCost", "(LFundMoves$Order;JI)V"⟩
abbrev cX3_thousandthsFor : ByteArray := prog_1_method_26_code
def yX3_thousandthsFor : MethodName := ⟨RX3, "thousandthsFor", "(JI)J"⟩
abbrev cX3_moneyFor : ByteArray := prog_1_method_27_code
def yX3_moneyFor : MethodName := ⟨RX3, "moneyFor", "(JI)J"⟩
abbrev cX3_costOf : ByteArray := prog_1_method_28_code
def yX3_costOf : MethodName := ⟨RX3, "costOf", "(JI)J"⟩
abbrev cX3_isOutside : ByteArray := prog_1_method_29_code
def yX3_isOutside : MethodName := ⟨RX3, "isOutside", "(III)Z"⟩
abbrev cX3_priceNow : ByteArray := prog_1_method_30_code
def yX3_priceNow : MethodName := ⟨RX3, "priceNow", "(I)I"⟩
abbrev cX3_priceRowOf : ByteArray := prog_1_method_31_code
def yX3_priceRowOf : MethodName := ⟨RX3, "priceRowOf", "(I)LFundMoves$PriceRow;"⟩
abbrev cX3_isProvider : ByteArray := prog_1_method_32_code
def yX3_isProvider : MethodName := ⟨RX3, "isProvider", "(I)Z"⟩
abbrev cX3_checkProvider : ByteArray := prog_1_method_33_code
def yX3_checkProvider : MethodName := ⟨RX3, "checkProvider", "(I)V"⟩
abbrev cX3_checkPrice : ByteArray := prog_1_method_34_code
def yX3_checkPrice : MethodName := ⟨RX3, "checkPrice", "(I)V"⟩
abbrev cX3_checkHolding : ByteArray := prog_1_method_35_code
def yX3_checkHolding : MethodName := ⟨RX3, "checkHolding", "(J)V"⟩
abbrev cX3_saverAt : ByteArray := prog_1_method_36_code
def yX3_saverAt : MethodName := ⟨RX3, "saverAt", "(I)LFundMoves$Saver;"⟩
abbrev cX3_orderAt : ByteArray := prog_1_method_37_code
def yX3_orderAt : MethodName := ⟨RX3, "orderAt", "(I)LFundMoves$Order;"⟩
abbrev cX3_openOrderAt : ByteArray := prog_1_method_38_code
def yX3_openOrderAt : MethodName := ⟨RX3, "openOrderAt", "(I)LFundMoves$Order;"⟩
def RX4 : String := "FundMovesModel"
def TX4 : u_T := fun k => match k with
  | 0 => ("FundMovesModel", "thrown", "I", false)
  | 1 => ("FundMovesModel", "today", "I", false)
  | 2 => ("FundMovesModel", "prices", "[I", true)
  | 3 => ("FundMovesModel", "many", "[I", true)
  | 4 => ("FundMovesModel", "setOn", "[I", true)
  | 5 => ("FundMovesModel", "standard", "I", false)
  | 6 => ("FundMovesModel", "savers", "I", false)
  | 7 => ("FundMovesModel", "with", "[I", true)
  | 8 => ("FundMovesModel", "units", "[J", true)
  | 9 => ("FundMovesModel", "moves", "[Z", true)
  | 10 => ("FundMovesModel", "orders", "I", false)
  | 11 => ("FundMovesModel", "saver", "[I", true)
  | 12 => ("FundMovesModel", "to", "[I", true)
  | 13 => ("FundMovesModel", "stage", "[I", true)
  | 14 => ("FundMovesModel", "since", "[I", true)
  | 15 => ("FundMovesModel", "saleDay", "[I", true)
  | 16 => ("FundMovesModel", "oldLate", "[I", true)
  | 17 => ("FundMovesModel", "allLate", "[I", true)
  | 18 => ("FundMovesModel", "sold", "[J", true)
  | 19 => ("FundMovesModel", "money", "[J", true)
  | 20 => ("FundMovesModel", "madeGood", "[J", true)
  | 21 => ("FundMovesModel", "debts", "[J", true)
  | _ => ("FundMovesModel", "losses", "[J", true)
def tyX4 : Nat → FieldType := fun k => match k with
  | 0 => .int
  | 1 => .int
  | 2 => .array .int
  | 3 => .array .int
  | 4 => .array .int
  | 5 => .int
  | 6 => .int
  | 7 => .array .int
  | 8 => .array .long
  | 9 => .array .boolean
  | 10 => .int
  | 11 => .array .int
  | 12 => .array .int
  | 13 => .array .int
  | 14 => .array .int
  | 15 => .array .int
  | 16 => .array .int
  | 17 => .array .int
  | 18 => .array .long
  | 19 => .array .long
  | 20 => .array .long
  | 21 => .array .long
  | _ => .array .long
abbrev wsX40 : List Cond := u_ws RX4 TX4 23
theorem nmX4 : ∀ a, a < 23 → ∀ b, b < 23 → a ≠ b → (TX4 a).2.1 ≠ (TX4 b).2.1 := by decide +kernel
theorem tyX4_ok : ∀ k, k < 23 → parseFieldDescriptor (TX4 k).2.2.1 = some (tyX4 k) := by decide +kernel
abbrev cX4_init : ByteArray := prog_6_method_1_code
def yX4_init : MethodName := ⟨RX4, "<init>", "()V"⟩
abbrev cX4_thrown : ByteArray := prog_6_method_2_code
def yX4_thrown : MethodName := ⟨RX4, "thrown", "()I"⟩
abbrev cX4_isIn : ByteArray := prog_6_method_3_code
def yX4_isIn : MethodName := ⟨RX4, "isIn", "(III)Z"⟩
abbrev cX4_isProvider : ByteArray := prog_6_method_4_code
def yX4_isProvider : MethodName := ⟨RX4, "isProvider", "(I)Z"⟩
abbrev cX4_isSaver : ByteArray := prog_6_method_5_code
def yX4_isSaver : MethodName := ⟨RX4, "isSaver", "(I)Z"⟩
abbrev cX4_isOrder : ByteArray := prog_6_method_6_code
def yX4_isOrder : MethodName := ⟨RX4, "isOrder", "(I)Z"⟩
abbrev cX4_priceOf : ByteArray := prog_6_method_7_code
def yX4_priceOf : MethodName := ⟨RX4, "priceOf", "(II)I"⟩
abbrev cX4_pass : ByteArray := prog_6_method_8_code
def yX4_pass : MethodName := ⟨RX4, "pass", "(I)I"⟩
abbrev cX4_today : ByteArray := prog_6_method_9_code
def yX4_today : MethodName := ⟨RX4, "today", "()I"⟩
abbrev cX4_setPrice : ByteArray := prog_6_method_10_code
def yX4_setPrice : MethodName := ⟨RX4, "setPrice", "(II)I"⟩
abbrev cX4_price : ByteArray := prog_6_method_11_code
def yX4_price : MethodName := ⟨RX4, "price", "(II)I"⟩
abbrev cX4_setDefault : ByteArray := prog_6_method_12_code
def yX4_setDefault : MethodName := ⟨RX4, "setDefault", "(I)I"⟩
abbrev cX4_unitsFor : ByteArray := prog_6_method_13_code
def yX4_unitsFor : MethodName := ⟨RX4, "unitsFor", "(JI)J"⟩
abbrev cX4_begin : ByteArray := prog_6_method_14_code
def yX4_begin : MethodName := ⟨RX4, "begin", "(II)I"⟩
abbrev cX4_pay : ByteArray := prog_6_method_15_code
def yX4_pay : MethodName := ⟨RX4, "pay", "(II)I"⟩
abbrev cX4_units : ByteArray := prog_6_method_16_code
def yX4_units : MethodName := ⟨RX4, "units", "(I)J"⟩
abbrev cX4_provider : ByteArray := prog_6_method_17_code
def yX4_provider : MethodName := ⟨RX4, "provider", "(I)I"⟩
abbrev cX4_order : ByteArray := prog_6_method_18_code
def yX4_order : MethodName := ⟨RX4, "order", "(II)I"⟩
abbrev cX4_dueOf : ByteArray := prog_6_method_19_code
def yX4_dueOf : MethodName := ⟨RX4, "dueOf", "(I)I"⟩
abbrev cX4_lateBy : ByteArray := prog_6_method_20_code
def yX4_lateBy : MethodName := ⟨RX4, "lateBy", "(I)I"⟩
abbrev cX4_timely : ByteArray := prog_6_method_21_code
def yX4_timely : MethodName := ⟨RX4, "timely", "(II)J"⟩
abbrev cX4_isTooMuch : ByteArray := prog_6_method_22_code
def yX4_isTooMuch : MethodName := ⟨RX4, "isTooMuch", "(III)Z"⟩
abbrev cX4_buys : ByteArray := prog_6_method_23_code
def yX4_buys : MethodName := ⟨RX4, "buys", "(III)V"⟩
abbrev cX4_does : ByteArray := prog_6_method_24_code
def yX4_does : MethodName := ⟨RX4, "does", "(IZ)I"⟩
abbrev cX4_step : ByteArray := prog_6_method_25_code
def yX4_step : MethodName := ⟨RX4, "step", "(I)I"⟩
abbrev cX4_force : ByteArray := prog_6_method_26_code
def yX4_force : MethodName := ⟨RX4, "force", "(I)I"⟩
abbrev cX4_asks : ByteArray := prog_6_method_27_code
def yX4_asks : MethodName := ⟨RX4, "asks", "(I)Z"⟩
abbrev cX4_stage : ByteArray := prog_6_method_28_code
def yX4_stage : MethodName := ⟨RX4, "stage", "(I)I"⟩
abbrev cX4_due : ByteArray := prog_6_method_29_code
def yX4_due : MethodName := ⟨RX4, "due", "(I)I"⟩
abbrev cX4_late : ByteArray := prog_6_method_30_code
def yX4_late : MethodName := ⟨RX4, "late", "(I)I"⟩
abbrev cX4_money : ByteArray := prog_6_method_31_code
def yX4_money : MethodName := ⟨RX4, "money", "(I)J"⟩
abbrev cX4_madeGood : ByteArray := prog_6_method_32_code
def yX4_madeGood : MethodName := ⟨RX4, "madeGood", "(I)J"⟩
abbrev cX4_owes : ByteArray := prog_6_method_33_code
def yX4_owes : MethodName := ⟨RX4, "owes", "(II)J"⟩
abbrev cX4_losses : ByteArray := prog_6_method_34_code
def yX4_losses : MethodName := ⟨RX4, "losses", "(I)J"⟩
def RJ9 : String := "java/lang/Math"
def TJ9 : u_T := fun k => match k with
  | _ => ("", "", "", false)
def tyJ9 : Nat → FieldType := fun k => match k with
  | _ => .int
abbrev wsJ90 : List Cond := u_ws RJ9 TJ9 0
theorem nmJ9 : ∀ a, a < 0 → ∀ b, b < 0 → a ≠ b → (TJ9 a).2.1 ≠ (TJ9 b).2.1 := by decide +kernel
theorem tyJ9_ok : ∀ k, k < 0 → parseFieldDescriptor (TJ9 k).2.2.1 = some (tyJ9 k) := by decide +kernel
abbrev cJ9_max_7cf53 : ByteArray := prog_11_method_65_code
def yJ9_max_7cf53 : MethodName := ⟨RJ9, "max", "(II)I"⟩
abbrev cJ9_max_f86c9 : ByteArray := prog_11_method_66_code
def yJ9_max_f86c9 : MethodName := ⟨RJ9, "max", "(JJ)J"⟩
def RJ0 : String := "java/lang/String"
def TJ0 : u_T := fun k => match k with
  | _ => ("", "", "", false)
def tyJ0 : Nat → FieldType := fun k => match k with
  | _ => .int
abbrev wsJ00 : List Cond := u_ws RJ0 TJ0 0
theorem nmJ0 : ∀ a, a < 0 → ∀ b, b < 0 → a ≠ b → (TJ0 a).2.1 ≠ (TJ0 b).2.1 := by decide +kernel
theorem tyJ0_ok : ∀ k, k < 0 → parseFieldDescriptor (TJ0 k).2.2.1 = some (tyJ0 k) := by decide +kernel
def RL : String := "FundMovesLaw"
abbrev cL_pass : ByteArray := method_3_code
def yL_pass : MethodName := ⟨RL, "pass", "(LFundMoves;I[J)I"⟩
abbrev cL_setPrice : ByteArray := method_4_code
def yL_setPrice : MethodName := ⟨RL, "setPrice", "(LFundMoves;II[J)I"⟩
abbrev cL_price : ByteArray := method_5_code
def yL_price : MethodName := ⟨RL, "price", "(LFundMoves;II[J)I"⟩
abbrev cL_setDefault : ByteArray := method_6_code
def yL_setDefault : MethodName := ⟨RL, "setDefault", "(LFundMoves;I[J)I"⟩
abbrev cL_begin : ByteArray := method_7_code
def yL_begin : MethodName := ⟨RL, "begin", "(LFundMoves;II[J)I"⟩
abbrev cL_pay : ByteArray := method_8_code
def yL_pay : MethodName := ⟨RL, "pay", "(LFundMoves;II[J)I"⟩
abbrev cL_units : ByteArray := method_9_code
def yL_units : MethodName := ⟨RL, "units", "(LFundMoves;I[J)I"⟩
abbrev cL_provider : ByteArray := method_10_code
def yL_provider : MethodName := ⟨RL, "provider", "(LFundMoves;I[J)I"⟩
abbrev cL_order : ByteArray := method_11_code
def yL_order : MethodName := ⟨RL, "order", "(LFundMoves;II[J)I"⟩
abbrev cL_step : ByteArray := method_12_code
def yL_step : MethodName := ⟨RL, "step", "(LFundMoves;I[J)I"⟩
abbrev cL_force : ByteArray := method_13_code
def yL_force : MethodName := ⟨RL, "force", "(LFundMoves;I[J)I"⟩
abbrev cL_stage : ByteArray := method_14_code
def yL_stage : MethodName := ⟨RL, "stage", "(LFundMoves;I[J)I"⟩
abbrev cL_due : ByteArray := method_15_code
def yL_due : MethodName := ⟨RL, "due", "(LFundMoves;I[J)I"⟩
abbrev cL_late : ByteArray := method_16_code
def yL_late : MethodName := ⟨RL, "late", "(LFundMoves;I[J)I"⟩
abbrev cL_money : ByteArray := method_17_code
def yL_money : MethodName := ⟨RL, "money", "(LFundMoves;I[J)I"⟩
abbrev cL_madeGood : ByteArray := method_18_code
def yL_madeGood : MethodName := ⟨RL, "madeGood", "(LFundMoves;I[J)I"⟩
abbrev cL_owes : ByteArray := method_19_code
def yL_owes : MethodName := ⟨RL, "owes", "(LFundMoves;II[J)I"⟩
abbrev cL_losses : ByteArray := method_20_code
def yL_losses : MethodName := ⟨RL, "losses", "(LFundMoves;I[J)I"⟩
abbrev cL_law : ByteArray := code
def yL_law : MethodName := ⟨RL, "law", "([I)Z"⟩
def wsX0_init : List Cond := .code yX0_init cX0_init 4 none :: ([.methodLink RX0 3 objectInit, .instanceMethod objectInit, .code objectInit ⟨#[0xb1]⟩ 1 none, .fieldLink RX0 9 "FundMoves$Order" "nextStep" "I", .fieldLink RX0 15 "FundMoves$Order" "lateOfOld" "I", .fieldLink RX0 18 "FundMoves$Order" "lateOfNew" "I", .fieldLink RX0 21 "FundMoves$Order" "sold" "J", .fieldLink RX0 25 "FundMoves$Order" "proceeds" "J", .fieldLink RX0 28 "FundMoves$Order" "replaced" "J", .fieldLink RX0 31 "FundMoves$Order" "mover" "LFundMoves$Saver;", .fieldLink RX0 40 "FundMoves$Order" "from" "I", .fieldLink RX0 43 "FundMoves$Order" "to" "I", .fieldLink RX0 46 "FundMoves$Order" "lastStepDay" "I"] ++ wsX00 ++ wsX20)
def wsX0_dueDay : List Cond := .code yX0_dueDay cX0_dueDay 1 (some .int) :: ([.fieldLink RX0 9 "FundMoves$Order" "nextStep" "I", .fieldLink RX0 46 "FundMoves$Order" "lastStepDay" "I"] ++ wsX00)
def wsX0_latenessOn : List Cond := .code yX0_latenessOn cX0_latenessOn 2 (some .int) :: ([.methodLink RX0 53 Lib.Math.max.name, .static Lib.Math.max.name, .initialized "java/lang/Math", .code Lib.Math.max.name Lib.Math.max.code 2 (some .int), .methodLink RX0 49 yX0_dueDay, .instanceMethod yX0_dueDay, .selects RX0 yX0_dueDay yX0_dueDay, .initialized RX0, .code yX0_dueDay cX0_dueDay 1 (some .int), .fieldLink RX0 9 "FundMoves$Order" "nextStep" "I", .fieldLink RX0 46 "FundMoves$Order" "lastStepDay" "I"] ++ wsX00)
def wsX0_goOn : List Cond := .code yX0_goOn cX0_goOn 3 none :: ([.fieldLink RX0 9 "FundMoves$Order" "nextStep" "I", .fieldLink RX0 18 "FundMoves$Order" "lateOfNew" "I", .fieldLink RX0 15 "FundMoves$Order" "lateOfOld" "I", .fieldLink RX0 46 "FundMoves$Order" "lastStepDay" "I"] ++ wsX00)
def wsX1_init : List Cond := .code yX1_init cX1_init 1 none :: ([.methodLink RX1 3 objectInit, .instanceMethod objectInit, .code objectInit ⟨#[0xb1]⟩ 1 none, .arrayClass .int, .fieldLink RX1 9 "FundMoves$PriceRow" "firstDays" "[I", .fieldLink RX1 15 "FundMoves$PriceRow" "values" "[I", .fieldLink RX1 18 "FundMoves$PriceRow" "latest" "I"] ++ wsX10)
def wsX1_put : List Cond := .code yX1_put cX1_put 3 (some .boolean) :: ([.fieldLink RX1 9 "FundMoves$PriceRow" "firstDays" "[I", .fieldLink RX1 18 "FundMoves$PriceRow" "latest" "I", .fieldLink RX1 15 "FundMoves$PriceRow" "values" "[I"] ++ wsX10)
def wsX1_valueOn : List Cond := .code yX1_valueOn cX1_valueOn 3 (some .int) :: ([.fieldLink RX1 18 "FundMoves$PriceRow" "latest" "I", .fieldLink RX1 9 "FundMoves$PriceRow" "firstDays" "[I", .fieldLink RX1 15 "FundMoves$PriceRow" "values" "[I"] ++ wsX10)
def wsX2_init : List Cond := .code yX2_init cX2_init 4 none :: ([.methodLink RX2 1 objectInit, .instanceMethod objectInit, .code objectInit ⟨#[0xb1]⟩ 1 none, .fieldLink RX2 7 "FundMoves$Saver" "isMoving" "Z", .fieldLink RX2 13 "FundMoves$Saver" "holder" "I", .fieldLink RX2 17 "FundMoves$Saver" "thousandths" "J"] ++ wsX20)
def wsX2_arrive : List Cond := .code yX2_arrive cX2_arrive 4 none :: ([.fieldLink RX2 13 "FundMoves$Saver" "holder" "I", .fieldLink RX2 17 "FundMoves$Saver" "thousandths" "J", .fieldLink RX2 7 "FundMoves$Saver" "isMoving" "Z"] ++ wsX20)
def wsX3_init_r1 : List Cond := [Cond.methodLink RX3 1 objectInit, Cond.instanceMethod objectInit, Cond.code objectInit ⟨#[0xb1]⟩ 1 none, Cond.classLink RX3 9 RX1, Cond.fieldLink RX3 11 "FundMoves" "priceRows" "[LFundMoves$PriceRow;", Cond.classLink RX3 15 "[[J", Cond.arrayClass .long, Cond.fieldLink RX3 17 "FundMoves" "debts" "[[J", Cond.fieldLink RX3 20 "FundMoves" "ownLosses" "[J", Cond.classLink RX3 24 RX2, Cond.fieldLink RX3 26 "FundMoves" "savers" "[LFundMoves$Saver;", Cond.classLink RX3 30 RX0, Cond.fieldLink RX3 32 "FundMoves" "orders" "[LFundMoves$Order;", Cond.fieldLink RX3 36 "FundMoves" "presentDay" "I", Cond.fieldLink RX3 40 "FundMoves" "defaultPrice" "I", Cond.fieldLink RX3 43 "FundMoves" "saverCount" "I", Cond.fieldLink RX3 46 "FundMoves" "orderCount" "I", Cond.instantiable RX1 3, Cond.initialized RX1, Cond.methodLink RX3 49 yX1_init, Cond.instanceMethod yX1_init, Cond.code yX1_init cX1_init 1 none, Cond.methodLink RX1 3 objectInit, Cond.arrayClass .int]
def wsX3_init_r2 : List Cond := [Cond.fieldLink RX1 9 "FundMoves$PriceRow" "firstDays" "[I", Cond.fieldLink RX1 15 "FundMoves$PriceRow" "values" "[I", Cond.fieldLink RX1 18 "FundMoves$PriceRow" "latest" "I"]
def wsX3_init : List Cond := .code yX3_init cX3_init 2 none :: ((wsX3_init_r1 ++ wsX3_init_r2) ++ wsX30 ++ wsX10)
def wsX3_isOutside : List Cond := .code yX3_isOutside cX3_isOutside 3 (some .boolean) :: ([])
def wsX3_pass : List Cond := .code yX3_pass cX3_pass 2 (some .int) :: ([.classLink RX3 54 "java/lang/IllegalArgumentException", .initialized "java/lang/IllegalArgumentException", .classLink RX3 61 "java/lang/IllegalStateException", .initialized "java/lang/IllegalStateException", .fieldLink RX3 36 "FundMoves" "presentDay" "I", .methodLink RX3 50 yX3_isOutside, .static yX3_isOutside, .initialized RX3, .code yX3_isOutside cX3_isOutside 3 (some .boolean)] ++ wsX30 ++ (vx_atS RX3 58 "java/lang/IllegalArgumentException" ["java/lang/RuntimeException", "java/lang/Exception"]).filter goodWord ++ (vx_atS RX3 65 "java/lang/IllegalStateException" ["java/lang/RuntimeException", "java/lang/Exception"]).filter goodWord)
def wsX3_today : List Cond := .code yX3_today cX3_today 1 (some .int) :: ([.fieldLink RX3 36 "FundMoves" "presentDay" "I"] ++ wsX30)
def wsX3_isProvider : List Cond := .code yX3_isProvider cX3_isProvider 1 (some .boolean) :: ([.methodLink RX3 50 yX3_isOutside, .static yX3_isOutside, .initialized RX3, .code yX3_isOutside cX3_isOutside 3 (some .boolean)])
def wsX3_priceRowOf : List Cond := .code yX3_priceRowOf cX3_priceRowOf 3 (some (.object "FundMoves$PriceRow")) :: ([.classLink RX3 54 "java/lang/IllegalArgumentException", .initialized "java/lang/IllegalArgumentException", .fieldLink RX3 11 "FundMoves" "priceRows" "[LFundMoves$PriceRow;", .methodLink RX3 220 yX3_isProvider, .static yX3_isProvider, .initialized RX3, .code yX3_isProvider cX3_isProvider 1 (some .boolean), .methodLink RX3 50 yX3_isOutside, .static yX3_isOutside, .code yX3_isOutside cX3_isOutside 3 (some .boolean)] ++ wsX30 ++ (vx_atS RX3 58 "java/lang/IllegalArgumentException" ["java/lang/RuntimeException", "java/lang/Exception"]).filter goodWord)
def wsX3_checkPrice : List Cond := .code yX3_checkPrice cX3_checkPrice 1 none :: ([.classLink RX3 54 "java/lang/IllegalArgumentException", .initialized "java/lang/IllegalArgumentException", .methodLink RX3 50 yX3_isOutside, .static yX3_isOutside, .initialized RX3, .code yX3_isOutside cX3_isOutside 3 (some .boolean)] ++ (vx_atS RX3 58 "java/lang/IllegalArgumentException" ["java/lang/RuntimeException", "java/lang/Exception"]).filter goodWord)
def wsX3_setPrice_r1 : List Cond := [Cond.classLink RX3 61 "java/lang/IllegalStateException", Cond.initialized "java/lang/IllegalStateException", Cond.fieldLink RX3 36 "FundMoves" "presentDay" "I", Cond.methodLink RX3 66 yX3_priceRowOf, Cond.instanceMethod yX3_priceRowOf, Cond.selects RX3 yX3_priceRowOf yX3_priceRowOf, Cond.initialized RX3, Cond.code yX3_priceRowOf cX3_priceRowOf 3 (some (.object "FundMoves$PriceRow")), Cond.classLink RX3 54 "java/lang/IllegalArgumentException", Cond.initialized "java/lang/IllegalArgumentException", Cond.fieldLink RX3 11 "FundMoves" "priceRows" "[LFundMoves$PriceRow;", Cond.methodLink RX3 220 yX3_isProvider, Cond.static yX3_isProvider, Cond.code yX3_isProvider cX3_isProvider 1 (some .boolean), Cond.methodLink RX3 50 yX3_isOutside, Cond.static yX3_isOutside, Cond.code yX3_isOutside cX3_isOutside 3 (some .boolean), Cond.methodLink RX3 70 yX3_checkPrice, Cond.static yX3_checkPrice, Cond.code yX3_checkPrice cX3_checkPrice 1 none, Cond.methodLink RX3 74 yX1_valueOn, Cond.instanceMethod yX1_valueOn, Cond.selects RX1 yX1_valueOn yX1_valueOn, Cond.initialized RX1]
def wsX3_setPrice_r2 : List Cond := [Cond.code yX1_valueOn cX1_valueOn 3 (some .int), Cond.fieldLink RX1 18 "FundMoves$PriceRow" "latest" "I", Cond.fieldLink RX1 9 "FundMoves$PriceRow" "firstDays" "[I", Cond.fieldLink RX1 15 "FundMoves$PriceRow" "values" "[I", Cond.methodLink RX3 78 yX1_put, Cond.instanceMethod yX1_put, Cond.selects RX1 yX1_put yX1_put, Cond.code yX1_put cX1_put 3 (some .boolean)]
def wsX3_setPrice : List Cond := .code yX3_setPrice cX3_setPrice 5 (some .int) :: ((wsX3_setPrice_r1 ++ wsX3_setPrice_r2) ++ wsX30 ++ wsX10 ++ (vx_atS RX3 65 "java/lang/IllegalStateException" ["java/lang/RuntimeException", "java/lang/Exception"]).filter goodWord ++ (vx_atS RX3 58 "java/lang/IllegalArgumentException" ["java/lang/RuntimeException", "java/lang/Exception"]).filter goodWord)
def wsX3_price : List Cond := .code yX3_price cX3_price 4 (some .int) :: ([.classLink RX3 54 "java/lang/IllegalArgumentException", .initialized "java/lang/IllegalArgumentException", .fieldLink RX3 36 "FundMoves" "presentDay" "I", .methodLink RX3 66 yX3_priceRowOf, .instanceMethod yX3_priceRowOf, .selects RX3 yX3_priceRowOf yX3_priceRowOf, .initialized RX3, .code yX3_priceRowOf cX3_priceRowOf 3 (some (.object "FundMoves$PriceRow")), .fieldLink RX3 11 "FundMoves" "priceRows" "[LFundMoves$PriceRow;", .methodLink RX3 220 yX3_isProvider, .static yX3_isProvider, .code yX3_isProvider cX3_isProvider 1 (some .boolean), .methodLink RX3 50 yX3_isOutside, .static yX3_isOutside, .code yX3_isOutside cX3_isOutside 3 (some .boolean), .methodLink RX3 74 yX1_valueOn, .instanceMethod yX1_valueOn, .selects RX1 yX1_valueOn yX1_valueOn, .initialized RX1, .code yX1_valueOn cX1_valueOn 3 (some .int), .fieldLink RX1 18 "FundMoves$PriceRow" "latest" "I", .fieldLink RX1 9 "FundMoves$PriceRow" "firstDays" "[I", .fieldLink RX1 15 "FundMoves$PriceRow" "values" "[I"] ++ wsX30 ++ wsX10 ++ (vx_atS RX3 58 "java/lang/IllegalArgumentException" ["java/lang/RuntimeException", "java/lang/Exception"]).filter goodWord)
def wsX3_setDefault : List Cond := .code yX3_setDefault cX3_setDefault 3 (some .int) :: ([.fieldLink RX3 40 "FundMoves" "defaultPrice" "I", .methodLink RX3 70 yX3_checkPrice, .static yX3_checkPrice, .initialized RX3, .code yX3_checkPrice cX3_checkPrice 1 none, .classLink RX3 54 "java/lang/IllegalArgumentException", .initialized "java/lang/IllegalArgumentException", .methodLink RX3 50 yX3_isOutside, .static yX3_isOutside, .code yX3_isOutside cX3_isOutside 3 (some .boolean)] ++ wsX30 ++ (vx_atS RX3 58 "java/lang/IllegalArgumentException" ["java/lang/RuntimeException", "java/lang/Exception"]).filter goodWord)
def wsX3_thousandthsFor : List Cond := .code yX3_thousandthsFor cX3_thousandthsFor 3 (some .long) :: ([.constantLong RX3 218 (1000)])
def wsX3_begin_r1 : List Cond := [Cond.classLink RX3 54 "java/lang/IllegalArgumentException", Cond.initialized "java/lang/IllegalArgumentException", Cond.classLink RX3 61 "java/lang/IllegalStateException", Cond.initialized "java/lang/IllegalStateException", Cond.constant RX3 86 (1000000), Cond.fieldLink RX3 43 "FundMoves" "saverCount" "I", Cond.fieldLink RX3 26 "FundMoves" "savers" "[LFundMoves$Saver;", Cond.classLink RX3 24 RX2, Cond.instantiable RX2 3, Cond.initialized RX2, Cond.fieldLink RX3 36 "FundMoves" "presentDay" "I", Cond.methodLink RX3 66 yX3_priceRowOf, Cond.instanceMethod yX3_priceRowOf, Cond.selects RX3 yX3_priceRowOf yX3_priceRowOf, Cond.initialized RX3, Cond.code yX3_priceRowOf cX3_priceRowOf 3 (some (.object "FundMoves$PriceRow")), Cond.fieldLink RX3 11 "FundMoves" "priceRows" "[LFundMoves$PriceRow;", Cond.methodLink RX3 220 yX3_isProvider, Cond.static yX3_isProvider, Cond.code yX3_isProvider cX3_isProvider 1 (some .boolean), Cond.methodLink RX3 50 yX3_isOutside, Cond.static yX3_isOutside, Cond.code yX3_isOutside cX3_isOutside 3 (some .boolean), Cond.methodLink RX3 74 yX1_valueOn]
def wsX3_begin_r2 : List Cond := [Cond.instanceMethod yX1_valueOn, Cond.selects RX1 yX1_valueOn yX1_valueOn, Cond.initialized RX1, Cond.code yX1_valueOn cX1_valueOn 3 (some .int), Cond.fieldLink RX1 18 "FundMoves$PriceRow" "latest" "I", Cond.fieldLink RX1 9 "FundMoves$PriceRow" "firstDays" "[I", Cond.fieldLink RX1 15 "FundMoves$PriceRow" "values" "[I", Cond.methodLink RX3 91 yX3_thousandthsFor, Cond.static yX3_thousandthsFor, Cond.code yX3_thousandthsFor cX3_thousandthsFor 3 (some .long), Cond.constantLong RX3 218 (1000), Cond.methodLink RX3 95 yX2_init, Cond.instanceMethod yX2_init, Cond.code yX2_init cX2_init 4 none, Cond.methodLink RX2 1 objectInit, Cond.instanceMethod objectInit, Cond.code objectInit ⟨#[0xb1]⟩ 1 none, Cond.fieldLink RX2 7 "FundMoves$Saver" "isMoving" "Z", Cond.fieldLink RX2 13 "FundMoves$Saver" "holder" "I", Cond.fieldLink RX2 17 "FundMoves$Saver" "thousandths" "J"]
def wsX3_begin : List Cond := .code yX3_begin cX3_begin 5 (some .int) :: ((wsX3_begin_r1 ++ wsX3_begin_r2) ++ wsX30 ++ wsX20 ++ wsX10 ++ (vx_atS RX3 58 "java/lang/IllegalArgumentException" ["java/lang/RuntimeException", "java/lang/Exception"]).filter goodWord ++ (vx_atS RX3 65 "java/lang/IllegalStateException" ["java/lang/RuntimeException", "java/lang/Exception"]).filter goodWord)
def wsX3_saverAt : List Cond := .code yX3_saverAt cX3_saverAt 3 (some (.object "FundMoves$Saver")) :: ([.classLink RX3 232 "java/lang/IndexOutOfBoundsException", .initialized "java/lang/IndexOutOfBoundsException", .fieldLink RX3 26 "FundMoves" "savers" "[LFundMoves$Saver;", .methodLink RX3 50 yX3_isOutside, .static yX3_isOutside, .initialized RX3, .code yX3_isOutside cX3_isOutside 3 (some .boolean)] ++ wsX30 ++ (vx_atS RX3 236 "java/lang/IndexOutOfBoundsException" ["java/lang/RuntimeException", "java/lang/Exception"]).filter goodWord)
def wsX3_priceNow : List Cond := .code yX3_priceNow cX3_priceNow 2 (some .int) :: ([.fieldLink RX3 36 "FundMoves" "presentDay" "I", .methodLink RX3 66 yX3_priceRowOf, .instanceMethod yX3_priceRowOf, .selects RX3 yX3_priceRowOf yX3_priceRowOf, .initialized RX3, .code yX3_priceRowOf cX3_priceRowOf 3 (some (.object "FundMoves$PriceRow")), .classLink RX3 54 "java/lang/IllegalArgumentException", .initialized "java/lang/IllegalArgumentException", .fieldLink RX3 11 "FundMoves" "priceRows" "[LFundMoves$PriceRow;", .methodLink RX3 220 yX3_isProvider, .static yX3_isProvider, .code yX3_isProvider cX3_isProvider 1 (some .boolean), .methodLink RX3 50 yX3_isOutside, .static yX3_isOutside, .code yX3_isOutside cX3_isOutside 3 (some .boolean), .methodLink RX3 74 yX1_valueOn, .instanceMethod yX1_valueOn, .selects RX1 yX1_valueOn yX1_valueOn, .initialized RX1, .code yX1_valueOn cX1_valueOn 3 (some .int), .fieldLink RX1 18 "FundMoves$PriceRow" "latest" "I", .fieldLink RX1 9 "FundMoves$PriceRow" "firstDays" "[I", .fieldLink RX1 15 "FundMoves$PriceRow" "values" "[I"] ++ wsX30 ++ wsX10 ++ (vx_atS RX3 58 "java/lang/IllegalArgumentException" ["java/lang/RuntimeException", "java/lang/Exception"]).filter goodWord)
def wsX3_checkHolding : List Cond := .code yX3_checkHolding cX3_checkHolding 2 none :: ([.classLink RX3 61 "java/lang/IllegalStateException", .initialized "java/lang/IllegalStateException", .constantLong RX3 228 (100000000)] ++ (vx_atS RX3 65 "java/lang/IllegalStateException" ["java/lang/RuntimeException", "java/lang/Exception"]).filter goodWord)
def wsX3_pay_r1 : List Cond := [Cond.classLink RX3 54 "java/lang/IllegalArgumentException", Cond.initialized "java/lang/IllegalArgumentException", Cond.classLink RX3 61 "java/lang/IllegalStateException", Cond.initialized "java/lang/IllegalStateException", Cond.constant RX3 86 (1000000), Cond.methodLink RX3 98 yX3_saverAt, Cond.instanceMethod yX3_saverAt, Cond.selects RX3 yX3_saverAt yX3_saverAt, Cond.initialized RX3, Cond.code yX3_saverAt cX3_saverAt 3 (some (.object "FundMoves$Saver")), Cond.classLink RX3 232 "java/lang/IndexOutOfBoundsException", Cond.initialized "java/lang/IndexOutOfBoundsException", Cond.fieldLink RX3 26 "FundMoves" "savers" "[LFundMoves$Saver;", Cond.methodLink RX3 50 yX3_isOutside, Cond.static yX3_isOutside, Cond.code yX3_isOutside cX3_isOutside 3 (some .boolean), Cond.methodLink RX3 111 yX3_priceNow, Cond.instanceMethod yX3_priceNow, Cond.selects RX3 yX3_priceNow yX3_priceNow, Cond.code yX3_priceNow cX3_priceNow 2 (some .int), Cond.fieldLink RX3 36 "FundMoves" "presentDay" "I", Cond.methodLink RX3 66 yX3_priceRowOf, Cond.instanceMethod yX3_priceRowOf, Cond.selects RX3 yX3_priceRowOf yX3_priceRowOf]
def wsX3_pay_r2 : List Cond := [Cond.code yX3_priceRowOf cX3_priceRowOf 3 (some (.object "FundMoves$PriceRow")), Cond.fieldLink RX3 11 "FundMoves" "priceRows" "[LFundMoves$PriceRow;", Cond.methodLink RX3 220 yX3_isProvider, Cond.static yX3_isProvider, Cond.code yX3_isProvider cX3_isProvider 1 (some .boolean), Cond.methodLink RX3 74 yX1_valueOn, Cond.instanceMethod yX1_valueOn, Cond.selects RX1 yX1_valueOn yX1_valueOn, Cond.initialized RX1, Cond.code yX1_valueOn cX1_valueOn 3 (some .int), Cond.fieldLink RX1 18 "FundMoves$PriceRow" "latest" "I", Cond.fieldLink RX1 9 "FundMoves$PriceRow" "firstDays" "[I", Cond.fieldLink RX1 15 "FundMoves$PriceRow" "values" "[I", Cond.methodLink RX3 91 yX3_thousandthsFor, Cond.static yX3_thousandthsFor, Cond.code yX3_thousandthsFor cX3_thousandthsFor 3 (some .long), Cond.constantLong RX3 218 (1000), Cond.methodLink RX3 118 yX3_checkHolding, Cond.static yX3_checkHolding, Cond.code yX3_checkHolding cX3_checkHolding 2 none, Cond.constantLong RX3 228 (100000000)]
def wsX3_pay : List Cond := .code yX3_pay cX3_pay 6 (some .int) :: ((wsX3_pay_r1 ++ wsX3_pay_r2) ++ wsX20 ++ wsX30 ++ wsX10 ++ (vx_atS RX3 58 "java/lang/IllegalArgumentException" ["java/lang/RuntimeException", "java/lang/Exception"]).filter goodWord ++ (vx_atS RX3 65 "java/lang/IllegalStateException" ["java/lang/RuntimeException", "java/lang/Exception"]).filter goodWord ++ (vx_atS RX3 236 "java/lang/IndexOutOfBoundsException" ["java/lang/RuntimeException", "java/lang/Exception"]).filter goodWord)
def wsX3_units : List Cond := .code yX3_units cX3_units 2 (some .long) :: ([.methodLink RX3 98 yX3_saverAt, .instanceMethod yX3_saverAt, .selects RX3 yX3_saverAt yX3_saverAt, .initialized RX3, .code yX3_saverAt cX3_saverAt 3 (some (.object "FundMoves$Saver")), .classLink RX3 232 "java/lang/IndexOutOfBoundsException", .initialized "java/lang/IndexOutOfBoundsException", .fieldLink RX3 26 "FundMoves" "savers" "[LFundMoves$Saver;", .methodLink RX3 50 yX3_isOutside, .static yX3_isOutside, .code yX3_isOutside cX3_isOutside 3 (some .boolean)] ++ wsX20 ++ wsX30 ++ (vx_atS RX3 236 "java/lang/IndexOutOfBoundsException" ["java/lang/RuntimeException", "java/lang/Exception"]).filter goodWord)
def wsX3_provider : List Cond := .code yX3_provider cX3_provider 2 (some .int) :: ([.methodLink RX3 98 yX3_saverAt, .instanceMethod yX3_saverAt, .selects RX3 yX3_saverAt yX3_saverAt, .initialized RX3, .code yX3_saverAt cX3_saverAt 3 (some (.object "FundMoves$Saver")), .classLink RX3 232 "java/lang/IndexOutOfBoundsException", .initialized "java/lang/IndexOutOfBoundsException", .fieldLink RX3 26 "FundMoves" "savers" "[LFundMoves$Saver;", .methodLink RX3 50 yX3_isOutside, .static yX3_isOutside, .code yX3_isOutside cX3_isOutside 3 (some .boolean)] ++ wsX20 ++ wsX30 ++ (vx_atS RX3 236 "java/lang/IndexOutOfBoundsException" ["java/lang/RuntimeException", "java/lang/Exception"]).filter goodWord)
def wsX3_checkProvider : List Cond := .code yX3_checkProvider cX3_checkProvider 1 none :: ([.classLink RX3 54 "java/lang/IllegalArgumentException", .initialized "java/lang/IllegalArgumentException", .methodLink RX3 220 yX3_isProvider, .static yX3_isProvider, .initialized RX3, .code yX3_isProvider cX3_isProvider 1 (some .boolean), .methodLink RX3 50 yX3_isOutside, .static yX3_isOutside, .code yX3_isOutside cX3_isOutside 3 (some .boolean)] ++ (vx_atS RX3 58 "java/lang/IllegalArgumentException" ["java/lang/RuntimeException", "java/lang/Exception"]).filter goodWord)
def wsX3_order_r1 : List Cond := [Cond.classLink RX3 54 "java/lang/IllegalArgumentException", Cond.initialized "java/lang/IllegalArgumentException", Cond.classLink RX3 61 "java/lang/IllegalStateException", Cond.initialized "java/lang/IllegalStateException", Cond.fieldLink RX3 46 "FundMoves" "orderCount" "I", Cond.fieldLink RX3 32 "FundMoves" "orders" "[LFundMoves$Order;", Cond.classLink RX3 30 RX0, Cond.instantiable RX0 10, Cond.initialized RX0, Cond.fieldLink RX3 36 "FundMoves" "presentDay" "I", Cond.methodLink RX3 98 yX3_saverAt, Cond.instanceMethod yX3_saverAt, Cond.selects RX3 yX3_saverAt yX3_saverAt, Cond.initialized RX3, Cond.code yX3_saverAt cX3_saverAt 3 (some (.object "FundMoves$Saver")), Cond.classLink RX3 232 "java/lang/IndexOutOfBoundsException", Cond.initialized "java/lang/IndexOutOfBoundsException", Cond.fieldLink RX3 26 "FundMoves" "savers" "[LFundMoves$Saver;", Cond.methodLink RX3 50 yX3_isOutside, Cond.static yX3_isOutside, Cond.code yX3_isOutside cX3_isOutside 3 (some .boolean), Cond.methodLink RX3 122 yX3_checkProvider, Cond.static yX3_checkProvider, Cond.code yX3_checkProvider cX3_checkProvider 1 none]
def wsX3_order_r2 : List Cond := [Cond.methodLink RX3 220 yX3_isProvider, Cond.static yX3_isProvider, Cond.code yX3_isProvider cX3_isProvider 1 (some .boolean), Cond.methodLink RX3 129 yX0_init, Cond.instanceMethod yX0_init, Cond.code yX0_init cX0_init 4 none, Cond.methodLink RX0 3 objectInit, Cond.instanceMethod objectInit, Cond.code objectInit ⟨#[0xb1]⟩ 1 none, Cond.fieldLink RX0 9 "FundMoves$Order" "nextStep" "I", Cond.fieldLink RX0 15 "FundMoves$Order" "lateOfOld" "I", Cond.fieldLink RX0 18 "FundMoves$Order" "lateOfNew" "I", Cond.fieldLink RX0 21 "FundMoves$Order" "sold" "J", Cond.fieldLink RX0 25 "FundMoves$Order" "proceeds" "J", Cond.fieldLink RX0 28 "FundMoves$Order" "replaced" "J", Cond.fieldLink RX0 31 "FundMoves$Order" "mover" "LFundMoves$Saver;", Cond.fieldLink RX0 40 "FundMoves$Order" "from" "I", Cond.fieldLink RX0 43 "FundMoves$Order" "to" "I", Cond.fieldLink RX0 46 "FundMoves$Order" "lastStepDay" "I"]
def wsX3_order : List Cond := .code yX3_order cX3_order 5 (some .int) :: ((wsX3_order_r1 ++ wsX3_order_r2) ++ wsX20 ++ wsX30 ++ wsX00 ++ (vx_atS RX3 58 "java/lang/IllegalArgumentException" ["java/lang/RuntimeException", "java/lang/Exception"]).filter goodWord ++ (vx_atS RX3 65 "java/lang/IllegalStateException" ["java/lang/RuntimeException", "java/lang/Exception"]).filter goodWord ++ (vx_atS RX3 236 "java/lang/IndexOutOfBoundsException" ["java/lang/RuntimeException", "java/lang/Exception"]).filter goodWord)
def wsX3_orderAt : List Cond := .code yX3_orderAt cX3_orderAt 3 (some (.object "FundMoves$Order")) :: ([.classLink RX3 232 "java/lang/IndexOutOfBoundsException", .initialized "java/lang/IndexOutOfBoundsException", .fieldLink RX3 32 "FundMoves" "orders" "[LFundMoves$Order;", .methodLink RX3 50 yX3_isOutside, .static yX3_isOutside, .initialized RX3, .code yX3_isOutside cX3_isOutside 3 (some .boolean)] ++ wsX30 ++ (vx_atS RX3 236 "java/lang/IndexOutOfBoundsException" ["java/lang/RuntimeException", "java/lang/Exception"]).filter goodWord)
def wsX3_openOrderAt : List Cond := .code yX3_openOrderAt cX3_openOrderAt 3 (some (.object "FundMoves$Order")) :: ([.classLink RX3 61 "java/lang/IllegalStateException", .initialized "java/lang/IllegalStateException", .methodLink RX3 145 yX3_orderAt, .instanceMethod yX3_orderAt, .selects RX3 yX3_orderAt yX3_orderAt, .initialized RX3, .code yX3_orderAt cX3_orderAt 3 (some (.object "FundMoves$Order")), .classLink RX3 232 "java/lang/IndexOutOfBoundsException", .initialized "java/lang/IndexOutOfBoundsException", .fieldLink RX3 32 "FundMoves" "orders" "[LFundMoves$Order;", .methodLink RX3 50 yX3_isOutside, .static yX3_isOutside, .code yX3_isOutside cX3_isOutside 3 (some .boolean)] ++ wsX00 ++ wsX30 ++ (vx_atS RX3 65 "java/lang/IllegalStateException" ["java/lang/RuntimeException", "java/lang/Exception"]).filter goodWord ++ (vx_atS RX3 236 "java/lang/IndexOutOfBoundsException" ["java/lang/RuntimeException", "java/lang/Exception"]).filter goodWord)
def wsX3_moneyFor : List Cond := .code yX3_moneyFor cX3_moneyFor 3 (some .long) :: ([.constantLong RX3 218 (1000)])
def wsX3_sell_r1 : List Cond := [Cond.fieldLink RX3 40 "FundMoves" "defaultPrice" "I", Cond.methodLink RX3 111 yX3_priceNow, Cond.instanceMethod yX3_priceNow, Cond.selects RX3 yX3_priceNow yX3_priceNow, Cond.initialized RX3, Cond.code yX3_priceNow cX3_priceNow 2 (some .int), Cond.fieldLink RX3 36 "FundMoves" "presentDay" "I", Cond.methodLink RX3 66 yX3_priceRowOf, Cond.instanceMethod yX3_priceRowOf, Cond.selects RX3 yX3_priceRowOf yX3_priceRowOf, Cond.code yX3_priceRowOf cX3_priceRowOf 3 (some (.object "FundMoves$PriceRow")), Cond.classLink RX3 54 "java/lang/IllegalArgumentException", Cond.initialized "java/lang/IllegalArgumentException", Cond.fieldLink RX3 11 "FundMoves" "priceRows" "[LFundMoves$PriceRow;", Cond.methodLink RX3 220 yX3_isProvider, Cond.static yX3_isProvider, Cond.code yX3_isProvider cX3_isProvider 1 (some .boolean), Cond.methodLink RX3 50 yX3_isOutside, Cond.static yX3_isOutside, Cond.code yX3_isOutside cX3_isOutside 3 (some .boolean), Cond.methodLink RX3 74 yX1_valueOn, Cond.instanceMethod yX1_valueOn, Cond.selects RX1 yX1_valueOn yX1_valueOn, Cond.initialized RX1]
def wsX3_sell_r2 : List Cond := [Cond.code yX1_valueOn cX1_valueOn 3 (some .int), Cond.fieldLink RX1 18 "FundMoves$PriceRow" "latest" "I", Cond.fieldLink RX1 9 "FundMoves$PriceRow" "firstDays" "[I", Cond.fieldLink RX1 15 "FundMoves$PriceRow" "values" "[I", Cond.methodLink RX3 189 yX3_moneyFor, Cond.static yX3_moneyFor, Cond.code yX3_moneyFor cX3_moneyFor 3 (some .long), Cond.constantLong RX3 218 (1000)]
def wsX3_sell : List Cond := .code yX3_sell cX3_sell 3 none :: ((wsX3_sell_r1 ++ wsX3_sell_r2) ++ wsX00 ++ wsX20 ++ wsX30 ++ wsX10 ++ (vx_atS RX3 58 "java/lang/IllegalArgumentException" ["java/lang/RuntimeException", "java/lang/Exception"]).filter goodWord)
def wsX3_timelyThousandths_r1 : List Cond := [Cond.fieldLink RX3 36 "FundMoves" "presentDay" "I", Cond.methodLink RX3 66 yX3_priceRowOf, Cond.instanceMethod yX3_priceRowOf, Cond.selects RX3 yX3_priceRowOf yX3_priceRowOf, Cond.initialized RX3, Cond.code yX3_priceRowOf cX3_priceRowOf 3 (some (.object "FundMoves$PriceRow")), Cond.classLink RX3 54 "java/lang/IllegalArgumentException", Cond.initialized "java/lang/IllegalArgumentException", Cond.fieldLink RX3 11 "FundMoves" "priceRows" "[LFundMoves$PriceRow;", Cond.methodLink RX3 220 yX3_isProvider, Cond.static yX3_isProvider, Cond.code yX3_isProvider cX3_isProvider 1 (some .boolean), Cond.methodLink RX3 50 yX3_isOutside, Cond.static yX3_isOutside, Cond.code yX3_isOutside cX3_isOutside 3 (some .boolean), Cond.methodLink RX3 74 yX1_valueOn, Cond.instanceMethod yX1_valueOn, Cond.selects RX1 yX1_valueOn yX1_valueOn, Cond.initialized RX1, Cond.code yX1_valueOn cX1_valueOn 3 (some .int), Cond.fieldLink RX1 18 "FundMoves$PriceRow" "latest" "I", Cond.fieldLink RX1 9 "FundMoves$PriceRow" "firstDays" "[I", Cond.fieldLink RX1 15 "FundMoves$PriceRow" "values" "[I", Cond.methodLink RX3 189 yX3_moneyFor]
def wsX3_timelyThousandths_r2 : List Cond := [Cond.static yX3_moneyFor, Cond.code yX3_moneyFor cX3_moneyFor 3 (some .long), Cond.constantLong RX3 218 (1000), Cond.methodLink RX3 91 yX3_thousandthsFor, Cond.static yX3_thousandthsFor, Cond.code yX3_thousandthsFor cX3_thousandthsFor 3 (some .long)]
def wsX3_timelyThousandths : List Cond := .code yX3_timelyThousandths cX3_timelyThousandths 7 (some .long) :: ((wsX3_timelyThousandths_r1 ++ wsX3_timelyThousandths_r2) ++ wsX00 ++ wsX30 ++ wsX10 ++ (vx_atS RX3 58 "java/lang/IllegalArgumentException" ["java/lang/RuntimeException", "java/lang/Exception"]).filter goodWord)
def wsX3_costOf : List Cond := .code yX3_costOf cX3_costOf 3 (some .long) :: ([.constantLong RX3 218 (1000)])
def wsX3_shareCost : List Cond := .code yX3_shareCost cX3_shareCost 7 none :: ([.fieldLink RX3 17 "FundMoves" "debts" "[[J", .fieldLink RX3 20 "FundMoves" "ownLosses" "[J"] ++ wsX00 ++ wsX30)
def wsX3_buy_r1 : List Cond := [Cond.fieldLink RX3 40 "FundMoves" "defaultPrice" "I", Cond.methodLink RX3 199 Lib.MathLoose.max_long.x, Cond.static Lib.MathLoose.max_long.x, Cond.initialized "java/lang/Math", Cond.code Lib.MathLoose.max_long.x Lib.MathLoose.max_long.code 4 (some .long), Cond.methodLink RX3 111 yX3_priceNow, Cond.instanceMethod yX3_priceNow, Cond.selects RX3 yX3_priceNow yX3_priceNow, Cond.initialized RX3, Cond.code yX3_priceNow cX3_priceNow 2 (some .int), Cond.fieldLink RX3 36 "FundMoves" "presentDay" "I", Cond.methodLink RX3 66 yX3_priceRowOf, Cond.instanceMethod yX3_priceRowOf, Cond.selects RX3 yX3_priceRowOf yX3_priceRowOf, Cond.code yX3_priceRowOf cX3_priceRowOf 3 (some (.object "FundMoves$PriceRow")), Cond.classLink RX3 54 "java/lang/IllegalArgumentException", Cond.initialized "java/lang/IllegalArgumentException", Cond.fieldLink RX3 11 "FundMoves" "priceRows" "[LFundMoves$PriceRow;", Cond.methodLink RX3 220 yX3_isProvider, Cond.static yX3_isProvider, Cond.code yX3_isProvider cX3_isProvider 1 (some .boolean), Cond.methodLink RX3 50 yX3_isOutside, Cond.static yX3_isOutside, Cond.code yX3_isOutside cX3_isOutside 3 (some .boolean)]
def wsX3_buy_r2 : List Cond := [Cond.methodLink RX3 74 yX1_valueOn, Cond.instanceMethod yX1_valueOn, Cond.selects RX1 yX1_valueOn yX1_valueOn, Cond.initialized RX1, Cond.code yX1_valueOn cX1_valueOn 3 (some .int), Cond.fieldLink RX1 18 "FundMoves$PriceRow" "latest" "I", Cond.fieldLink RX1 9 "FundMoves$PriceRow" "firstDays" "[I", Cond.fieldLink RX1 15 "FundMoves$PriceRow" "values" "[I", Cond.methodLink RX3 91 yX3_thousandthsFor, Cond.static yX3_thousandthsFor, Cond.code yX3_thousandthsFor cX3_thousandthsFor 3 (some .long), Cond.constantLong RX3 218 (1000), Cond.methodLink RX3 195 yX3_timelyThousandths, Cond.instanceMethod yX3_timelyThousandths, Cond.selects RX3 yX3_timelyThousandths yX3_timelyThousandths, Cond.code yX3_timelyThousandths cX3_timelyThousandths 7 (some .long), Cond.methodLink RX3 189 yX3_moneyFor, Cond.static yX3_moneyFor, Cond.code yX3_moneyFor cX3_moneyFor 3 (some .long), Cond.methodLink RX3 118 yX3_checkHolding, Cond.static yX3_checkHolding, Cond.code yX3_checkHolding cX3_checkHolding 2 none, Cond.classLink RX3 61 "java/lang/IllegalStateException", Cond.initialized "java/lang/IllegalStateException"]
def wsX3_buy_r3 : List Cond := [Cond.constantLong RX3 228 (100000000), Cond.methodLink RX3 205 yX3_costOf, Cond.static yX3_costOf, Cond.code yX3_costOf cX3_costOf 3 (some .long), Cond.methodLink RX3 208 yX3_shareCost, Cond.instanceMethod yX3_shareCost, Cond.selects RX3 yX3_shareCost yX3_shareCost, Cond.code yX3_shareCost cX3_shareCost 7 none, Cond.fieldLink RX3 17 "FundMoves" "debts" "[[J", Cond.fieldLink RX3 20 "FundMoves" "ownLosses" "[J", Cond.methodLink RX3 212 yX2_arrive, Cond.instanceMethod yX2_arrive, Cond.selects RX2 yX2_arrive yX2_arrive, Cond.initialized RX2, Cond.code yX2_arrive cX2_arrive 4 none, Cond.fieldLink RX2 13 "FundMoves$Saver" "holder" "I", Cond.fieldLink RX2 17 "FundMoves$Saver" "thousandths" "J", Cond.fieldLink RX2 7 "FundMoves$Saver" "isMoving" "Z"]
def wsX3_buy : List Cond := .code yX3_buy cX3_buy 10 none :: ((wsX3_buy_r1 ++ (wsX3_buy_r2 ++ wsX3_buy_r3)) ++ wsX00 ++ wsX30 ++ wsX10 ++ wsX20 ++ (vx_atS RX3 58 "java/lang/IllegalArgumentException" ["java/lang/RuntimeException", "java/lang/Exception"]).filter goodWord ++ (vx_atS RX3 65 "java/lang/IllegalStateException" ["java/lang/RuntimeException", "java/lang/Exception"]).filter goodWord)
def wsX3_doNextStep_r1 : List Cond := [Cond.fieldLink RX3 36 "FundMoves" "presentDay" "I", Cond.methodLink RX3 140 yX0_latenessOn, Cond.instanceMethod yX0_latenessOn, Cond.selects RX0 yX0_latenessOn yX0_latenessOn, Cond.initialized RX0, Cond.code yX0_latenessOn cX0_latenessOn 2 (some .int), Cond.methodLink RX0 53 Lib.Math.max.name, Cond.static Lib.Math.max.name, Cond.initialized "java/lang/Math", Cond.code Lib.Math.max.name Lib.Math.max.code 2 (some .int), Cond.methodLink RX0 49 yX0_dueDay, Cond.instanceMethod yX0_dueDay, Cond.selects RX0 yX0_dueDay yX0_dueDay, Cond.code yX0_dueDay cX0_dueDay 1 (some .int), Cond.fieldLink RX0 9 "FundMoves$Order" "nextStep" "I", Cond.fieldLink RX0 46 "FundMoves$Order" "lastStepDay" "I", Cond.methodLink RX3 167 yX3_sell, Cond.instanceMethod yX3_sell, Cond.selects RX3 yX3_sell yX3_sell, Cond.initialized RX3, Cond.code yX3_sell cX3_sell 3 none, Cond.fieldLink RX3 40 "FundMoves" "defaultPrice" "I", Cond.methodLink RX3 111 yX3_priceNow, Cond.instanceMethod yX3_priceNow]
def wsX3_doNextStep_r2 : List Cond := [Cond.selects RX3 yX3_priceNow yX3_priceNow, Cond.code yX3_priceNow cX3_priceNow 2 (some .int), Cond.methodLink RX3 66 yX3_priceRowOf, Cond.instanceMethod yX3_priceRowOf, Cond.selects RX3 yX3_priceRowOf yX3_priceRowOf, Cond.code yX3_priceRowOf cX3_priceRowOf 3 (some (.object "FundMoves$PriceRow")), Cond.classLink RX3 54 "java/lang/IllegalArgumentException", Cond.initialized "java/lang/IllegalArgumentException", Cond.fieldLink RX3 11 "FundMoves" "priceRows" "[LFundMoves$PriceRow;", Cond.methodLink RX3 220 yX3_isProvider, Cond.static yX3_isProvider, Cond.code yX3_isProvider cX3_isProvider 1 (some .boolean), Cond.methodLink RX3 50 yX3_isOutside, Cond.static yX3_isOutside, Cond.code yX3_isOutside cX3_isOutside 3 (some .boolean), Cond.methodLink RX3 74 yX1_valueOn, Cond.instanceMethod yX1_valueOn, Cond.selects RX1 yX1_valueOn yX1_valueOn, Cond.initialized RX1, Cond.code yX1_valueOn cX1_valueOn 3 (some .int), Cond.fieldLink RX1 18 "FundMoves$PriceRow" "latest" "I", Cond.fieldLink RX1 9 "FundMoves$PriceRow" "firstDays" "[I", Cond.fieldLink RX1 15 "FundMoves$PriceRow" "values" "[I", Cond.methodLink RX3 189 yX3_moneyFor]
def wsX3_doNextStep_r3 : List Cond := [Cond.static yX3_moneyFor, Cond.code yX3_moneyFor cX3_moneyFor 3 (some .long), Cond.constantLong RX3 218 (1000), Cond.methodLink RX3 171 yX3_buy, Cond.instanceMethod yX3_buy, Cond.selects RX3 yX3_buy yX3_buy, Cond.code yX3_buy cX3_buy 10 none, Cond.methodLink RX3 199 Lib.MathLoose.max_long.x, Cond.static Lib.MathLoose.max_long.x, Cond.code Lib.MathLoose.max_long.x Lib.MathLoose.max_long.code 4 (some .long), Cond.methodLink RX3 91 yX3_thousandthsFor, Cond.static yX3_thousandthsFor, Cond.code yX3_thousandthsFor cX3_thousandthsFor 3 (some .long), Cond.methodLink RX3 195 yX3_timelyThousandths, Cond.instanceMethod yX3_timelyThousandths, Cond.selects RX3 yX3_timelyThousandths yX3_timelyThousandths, Cond.code yX3_timelyThousandths cX3_timelyThousandths 7 (some .long), Cond.methodLink RX3 118 yX3_checkHolding, Cond.static yX3_checkHolding, Cond.code yX3_checkHolding cX3_checkHolding 2 none, Cond.classLink RX3 61 "java/lang/IllegalStateException", Cond.initialized "java/lang/IllegalStateException", Cond.constantLong RX3 228 (100000000), Cond.methodLink RX3 205 yX3_costOf]
def wsX3_doNextStep_r4 : List Cond := [Cond.static yX3_costOf, Cond.code yX3_costOf cX3_costOf 3 (some .long), Cond.methodLink RX3 208 yX3_shareCost, Cond.instanceMethod yX3_shareCost, Cond.selects RX3 yX3_shareCost yX3_shareCost, Cond.code yX3_shareCost cX3_shareCost 7 none, Cond.fieldLink RX3 17 "FundMoves" "debts" "[[J", Cond.fieldLink RX3 20 "FundMoves" "ownLosses" "[J", Cond.methodLink RX3 212 yX2_arrive, Cond.instanceMethod yX2_arrive, Cond.selects RX2 yX2_arrive yX2_arrive, Cond.initialized RX2, Cond.code yX2_arrive cX2_arrive 4 none, Cond.fieldLink RX2 13 "FundMoves$Saver" "holder" "I", Cond.fieldLink RX2 17 "FundMoves$Saver" "thousandths" "J", Cond.fieldLink RX2 7 "FundMoves$Saver" "isMoving" "Z", Cond.methodLink RX3 175 yX0_goOn, Cond.instanceMethod yX0_goOn, Cond.selects RX0 yX0_goOn yX0_goOn, Cond.code yX0_goOn cX0_goOn 3 none, Cond.fieldLink RX0 18 "FundMoves$Order" "lateOfNew" "I", Cond.fieldLink RX0 15 "FundMoves$Order" "lateOfOld" "I"]
def wsX3_doNextStep : List Cond := .code yX3_doNextStep cX3_doNextStep 4 (some .int) :: ((wsX3_doNextStep_r1 ++ (wsX3_doNextStep_r2 ++ (wsX3_doNextStep_r3 ++ wsX3_doNextStep_r4))) ++ wsX30 ++ wsX00 ++ wsX20 ++ wsX10 ++ (vx_atS RX3 58 "java/lang/IllegalArgumentException" ["java/lang/RuntimeException", "java/lang/Exception"]).filter goodWord ++ (vx_atS RX3 65 "java/lang/IllegalStateException" ["java/lang/RuntimeException", "java/lang/Exception"]).filter goodWord)
def wsX3_step_r1 : List Cond := [Cond.methodLink RX3 132 yX3_openOrderAt, Cond.instanceMethod yX3_openOrderAt, Cond.selects RX3 yX3_openOrderAt yX3_openOrderAt, Cond.initialized RX3, Cond.code yX3_openOrderAt cX3_openOrderAt 3 (some (.object "FundMoves$Order")), Cond.classLink RX3 61 "java/lang/IllegalStateException", Cond.initialized "java/lang/IllegalStateException", Cond.methodLink RX3 145 yX3_orderAt, Cond.instanceMethod yX3_orderAt, Cond.selects RX3 yX3_orderAt yX3_orderAt, Cond.code yX3_orderAt cX3_orderAt 3 (some (.object "FundMoves$Order")), Cond.classLink RX3 232 "java/lang/IndexOutOfBoundsException", Cond.initialized "java/lang/IndexOutOfBoundsException", Cond.fieldLink RX3 32 "FundMoves" "orders" "[LFundMoves$Order;", Cond.methodLink RX3 50 yX3_isOutside, Cond.static yX3_isOutside, Cond.code yX3_isOutside cX3_isOutside 3 (some .boolean), Cond.methodLink RX3 136 yX3_doNextStep, Cond.instanceMethod yX3_doNextStep, Cond.selects RX3 yX3_doNextStep yX3_doNextStep, Cond.code yX3_doNextStep cX3_doNextStep 4 (some .int), Cond.fieldLink RX3 36 "FundMoves" "presentDay" "I", Cond.methodLink RX3 140 yX0_latenessOn, Cond.instanceMethod yX0_latenessOn]
def wsX3_step_r2 : List Cond := [Cond.selects RX0 yX0_latenessOn yX0_latenessOn, Cond.initialized RX0, Cond.code yX0_latenessOn cX0_latenessOn 2 (some .int), Cond.methodLink RX0 53 Lib.Math.max.name, Cond.static Lib.Math.max.name, Cond.initialized "java/lang/Math", Cond.code Lib.Math.max.name Lib.Math.max.code 2 (some .int), Cond.methodLink RX0 49 yX0_dueDay, Cond.instanceMethod yX0_dueDay, Cond.selects RX0 yX0_dueDay yX0_dueDay, Cond.code yX0_dueDay cX0_dueDay 1 (some .int), Cond.fieldLink RX0 9 "FundMoves$Order" "nextStep" "I", Cond.fieldLink RX0 46 "FundMoves$Order" "lastStepDay" "I", Cond.methodLink RX3 167 yX3_sell, Cond.instanceMethod yX3_sell, Cond.selects RX3 yX3_sell yX3_sell, Cond.code yX3_sell cX3_sell 3 none, Cond.fieldLink RX3 40 "FundMoves" "defaultPrice" "I", Cond.methodLink RX3 111 yX3_priceNow, Cond.instanceMethod yX3_priceNow, Cond.selects RX3 yX3_priceNow yX3_priceNow, Cond.code yX3_priceNow cX3_priceNow 2 (some .int), Cond.methodLink RX3 66 yX3_priceRowOf, Cond.instanceMethod yX3_priceRowOf]
def wsX3_step_r3 : List Cond := [Cond.selects RX3 yX3_priceRowOf yX3_priceRowOf, Cond.code yX3_priceRowOf cX3_priceRowOf 3 (some (.object "FundMoves$PriceRow")), Cond.classLink RX3 54 "java/lang/IllegalArgumentException", Cond.initialized "java/lang/IllegalArgumentException", Cond.fieldLink RX3 11 "FundMoves" "priceRows" "[LFundMoves$PriceRow;", Cond.methodLink RX3 220 yX3_isProvider, Cond.static yX3_isProvider, Cond.code yX3_isProvider cX3_isProvider 1 (some .boolean), Cond.methodLink RX3 74 yX1_valueOn, Cond.instanceMethod yX1_valueOn, Cond.selects RX1 yX1_valueOn yX1_valueOn, Cond.initialized RX1, Cond.code yX1_valueOn cX1_valueOn 3 (some .int), Cond.fieldLink RX1 18 "FundMoves$PriceRow" "latest" "I", Cond.fieldLink RX1 9 "FundMoves$PriceRow" "firstDays" "[I", Cond.fieldLink RX1 15 "FundMoves$PriceRow" "values" "[I", Cond.methodLink RX3 189 yX3_moneyFor, Cond.static yX3_moneyFor, Cond.code yX3_moneyFor cX3_moneyFor 3 (some .long), Cond.constantLong RX3 218 (1000), Cond.methodLink RX3 171 yX3_buy, Cond.instanceMethod yX3_buy, Cond.selects RX3 yX3_buy yX3_buy, Cond.code yX3_buy cX3_buy 10 none]
def wsX3_step_r4 : List Cond := [Cond.methodLink RX3 199 Lib.MathLoose.max_long.x, Cond.static Lib.MathLoose.max_long.x, Cond.code Lib.MathLoose.max_long.x Lib.MathLoose.max_long.code 4 (some .long), Cond.methodLink RX3 91 yX3_thousandthsFor, Cond.static yX3_thousandthsFor, Cond.code yX3_thousandthsFor cX3_thousandthsFor 3 (some .long), Cond.methodLink RX3 195 yX3_timelyThousandths, Cond.instanceMethod yX3_timelyThousandths, Cond.selects RX3 yX3_timelyThousandths yX3_timelyThousandths, Cond.code yX3_timelyThousandths cX3_timelyThousandths 7 (some .long), Cond.methodLink RX3 118 yX3_checkHolding, Cond.static yX3_checkHolding, Cond.code yX3_checkHolding cX3_checkHolding 2 none, Cond.constantLong RX3 228 (100000000), Cond.methodLink RX3 205 yX3_costOf, Cond.static yX3_costOf, Cond.code yX3_costOf cX3_costOf 3 (some .long), Cond.methodLink RX3 208 yX3_shareCost, Cond.instanceMethod yX3_shareCost, Cond.selects RX3 yX3_shareCost yX3_shareCost, Cond.code yX3_shareCost cX3_shareCost 7 none, Cond.fieldLink RX3 17 "FundMoves" "debts" "[[J", Cond.fieldLink RX3 20 "FundMoves" "ownLosses" "[J", Cond.methodLink RX3 212 yX2_arrive]
def wsX3_step_r5 : List Cond := [Cond.instanceMethod yX2_arrive, Cond.selects RX2 yX2_arrive yX2_arrive, Cond.initialized RX2, Cond.code yX2_arrive cX2_arrive 4 none, Cond.fieldLink RX2 13 "FundMoves$Saver" "holder" "I", Cond.fieldLink RX2 17 "FundMoves$Saver" "thousandths" "J", Cond.fieldLink RX2 7 "FundMoves$Saver" "isMoving" "Z", Cond.methodLink RX3 175 yX0_goOn, Cond.instanceMethod yX0_goOn, Cond.selects RX0 yX0_goOn yX0_goOn, Cond.code yX0_goOn cX0_goOn 3 none, Cond.fieldLink RX0 18 "FundMoves$Order" "lateOfNew" "I", Cond.fieldLink RX0 15 "FundMoves$Order" "lateOfOld" "I"]
def wsX3_step : List Cond := .code yX3_step cX3_step 2 (some .int) :: ((wsX3_step_r1 ++ (wsX3_step_r2 ++ (wsX3_step_r3 ++ (wsX3_step_r4 ++ wsX3_step_r5)))) ++ wsX00 ++ wsX30 ++ wsX20 ++ wsX10 ++ (vx_atS RX3 65 "java/lang/IllegalStateException" ["java/lang/RuntimeException", "java/lang/Exception"]).filter goodWord ++ (vx_atS RX3 236 "java/lang/IndexOutOfBoundsException" ["java/lang/RuntimeException", "java/lang/Exception"]).filter goodWord ++ (vx_atS RX3 58 "java/lang/IllegalArgumentException" ["java/lang/RuntimeException", "java/lang/Exception"]).filter goodWord)
def wsX3_force_r1 : List Cond := [Cond.classLink RX3 61 "java/lang/IllegalStateException", Cond.initialized "java/lang/IllegalStateException", Cond.fieldLink RX3 36 "FundMoves" "presentDay" "I", Cond.methodLink RX3 132 yX3_openOrderAt, Cond.instanceMethod yX3_openOrderAt, Cond.selects RX3 yX3_openOrderAt yX3_openOrderAt, Cond.initialized RX3, Cond.code yX3_openOrderAt cX3_openOrderAt 3 (some (.object "FundMoves$Order")), Cond.methodLink RX3 145 yX3_orderAt, Cond.instanceMethod yX3_orderAt, Cond.selects RX3 yX3_orderAt yX3_orderAt, Cond.code yX3_orderAt cX3_orderAt 3 (some (.object "FundMoves$Order")), Cond.classLink RX3 232 "java/lang/IndexOutOfBoundsException", Cond.initialized "java/lang/IndexOutOfBoundsException", Cond.fieldLink RX3 32 "FundMoves" "orders" "[LFundMoves$Order;", Cond.methodLink RX3 50 yX3_isOutside, Cond.static yX3_isOutside, Cond.code yX3_isOutside cX3_isOutside 3 (some .boolean), Cond.methodLink RX3 140 yX0_latenessOn, Cond.instanceMethod yX0_latenessOn, Cond.selects RX0 yX0_latenessOn yX0_latenessOn, Cond.initialized RX0, Cond.code yX0_latenessOn cX0_latenessOn 2 (some .int), Cond.methodLink RX0 53 Lib.Math.max.name]
def wsX3_force_r2 : List Cond := [Cond.static Lib.Math.max.name, Cond.initialized "java/lang/Math", Cond.code Lib.Math.max.name Lib.Math.max.code 2 (some .int), Cond.methodLink RX0 49 yX0_dueDay, Cond.instanceMethod yX0_dueDay, Cond.selects RX0 yX0_dueDay yX0_dueDay, Cond.code yX0_dueDay cX0_dueDay 1 (some .int), Cond.fieldLink RX0 9 "FundMoves$Order" "nextStep" "I", Cond.fieldLink RX0 46 "FundMoves$Order" "lastStepDay" "I", Cond.methodLink RX3 136 yX3_doNextStep, Cond.instanceMethod yX3_doNextStep, Cond.selects RX3 yX3_doNextStep yX3_doNextStep, Cond.code yX3_doNextStep cX3_doNextStep 4 (some .int), Cond.methodLink RX3 167 yX3_sell, Cond.instanceMethod yX3_sell, Cond.selects RX3 yX3_sell yX3_sell, Cond.code yX3_sell cX3_sell 3 none, Cond.fieldLink RX3 40 "FundMoves" "defaultPrice" "I", Cond.methodLink RX3 111 yX3_priceNow, Cond.instanceMethod yX3_priceNow, Cond.selects RX3 yX3_priceNow yX3_priceNow, Cond.code yX3_priceNow cX3_priceNow 2 (some .int), Cond.methodLink RX3 66 yX3_priceRowOf, Cond.instanceMethod yX3_priceRowOf]
def wsX3_force_r3 : List Cond := [Cond.selects RX3 yX3_priceRowOf yX3_priceRowOf, Cond.code yX3_priceRowOf cX3_priceRowOf 3 (some (.object "FundMoves$PriceRow")), Cond.classLink RX3 54 "java/lang/IllegalArgumentException", Cond.initialized "java/lang/IllegalArgumentException", Cond.fieldLink RX3 11 "FundMoves" "priceRows" "[LFundMoves$PriceRow;", Cond.methodLink RX3 220 yX3_isProvider, Cond.static yX3_isProvider, Cond.code yX3_isProvider cX3_isProvider 1 (some .boolean), Cond.methodLink RX3 74 yX1_valueOn, Cond.instanceMethod yX1_valueOn, Cond.selects RX1 yX1_valueOn yX1_valueOn, Cond.initialized RX1, Cond.code yX1_valueOn cX1_valueOn 3 (some .int), Cond.fieldLink RX1 18 "FundMoves$PriceRow" "latest" "I", Cond.fieldLink RX1 9 "FundMoves$PriceRow" "firstDays" "[I", Cond.fieldLink RX1 15 "FundMoves$PriceRow" "values" "[I", Cond.methodLink RX3 189 yX3_moneyFor, Cond.static yX3_moneyFor, Cond.code yX3_moneyFor cX3_moneyFor 3 (some .long), Cond.constantLong RX3 218 (1000), Cond.methodLink RX3 171 yX3_buy, Cond.instanceMethod yX3_buy, Cond.selects RX3 yX3_buy yX3_buy, Cond.code yX3_buy cX3_buy 10 none]
def wsX3_force_r4 : List Cond := [Cond.methodLink RX3 199 Lib.MathLoose.max_long.x, Cond.static Lib.MathLoose.max_long.x, Cond.code Lib.MathLoose.max_long.x Lib.MathLoose.max_long.code 4 (some .long), Cond.methodLink RX3 91 yX3_thousandthsFor, Cond.static yX3_thousandthsFor, Cond.code yX3_thousandthsFor cX3_thousandthsFor 3 (some .long), Cond.methodLink RX3 195 yX3_timelyThousandths, Cond.instanceMethod yX3_timelyThousandths, Cond.selects RX3 yX3_timelyThousandths yX3_timelyThousandths, Cond.code yX3_timelyThousandths cX3_timelyThousandths 7 (some .long), Cond.methodLink RX3 118 yX3_checkHolding, Cond.static yX3_checkHolding, Cond.code yX3_checkHolding cX3_checkHolding 2 none, Cond.constantLong RX3 228 (100000000), Cond.methodLink RX3 205 yX3_costOf, Cond.static yX3_costOf, Cond.code yX3_costOf cX3_costOf 3 (some .long), Cond.methodLink RX3 208 yX3_shareCost, Cond.instanceMethod yX3_shareCost, Cond.selects RX3 yX3_shareCost yX3_shareCost, Cond.code yX3_shareCost cX3_shareCost 7 none, Cond.fieldLink RX3 17 "FundMoves" "debts" "[[J", Cond.fieldLink RX3 20 "FundMoves" "ownLosses" "[J", Cond.methodLink RX3 212 yX2_arrive]
def wsX3_force_r5 : List Cond := [Cond.instanceMethod yX2_arrive, Cond.selects RX2 yX2_arrive yX2_arrive, Cond.initialized RX2, Cond.code yX2_arrive cX2_arrive 4 none, Cond.fieldLink RX2 13 "FundMoves$Saver" "holder" "I", Cond.fieldLink RX2 17 "FundMoves$Saver" "thousandths" "J", Cond.fieldLink RX2 7 "FundMoves$Saver" "isMoving" "Z", Cond.methodLink RX3 175 yX0_goOn, Cond.instanceMethod yX0_goOn, Cond.selects RX0 yX0_goOn yX0_goOn, Cond.code yX0_goOn cX0_goOn 3 none, Cond.fieldLink RX0 18 "FundMoves$Order" "lateOfNew" "I", Cond.fieldLink RX0 15 "FundMoves$Order" "lateOfOld" "I"]
def wsX3_force : List Cond := .code yX3_force cX3_force 3 (some .int) :: ((wsX3_force_r1 ++ (wsX3_force_r2 ++ (wsX3_force_r3 ++ (wsX3_force_r4 ++ wsX3_force_r5)))) ++ wsX30 ++ wsX00 ++ wsX20 ++ wsX10 ++ (vx_atS RX3 65 "java/lang/IllegalStateException" ["java/lang/RuntimeException", "java/lang/Exception"]).filter goodWord ++ (vx_atS RX3 236 "java/lang/IndexOutOfBoundsException" ["java/lang/RuntimeException", "java/lang/Exception"]).filter goodWord ++ (vx_atS RX3 58 "java/lang/IllegalArgumentException" ["java/lang/RuntimeException", "java/lang/Exception"]).filter goodWord)
def wsX3_stage : List Cond := .code yX3_stage cX3_stage 2 (some .int) :: ([.methodLink RX3 145 yX3_orderAt, .instanceMethod yX3_orderAt, .selects RX3 yX3_orderAt yX3_orderAt, .initialized RX3, .code yX3_orderAt cX3_orderAt 3 (some (.object "FundMoves$Order")), .classLink RX3 232 "java/lang/IndexOutOfBoundsException", .initialized "java/lang/IndexOutOfBoundsException", .fieldLink RX3 32 "FundMoves" "orders" "[LFundMoves$Order;", .methodLink RX3 50 yX3_isOutside, .static yX3_isOutside, .code yX3_isOutside cX3_isOutside 3 (some .boolean)] ++ wsX00 ++ wsX30 ++ (vx_atS RX3 236 "java/lang/IndexOutOfBoundsException" ["java/lang/RuntimeException", "java/lang/Exception"]).filter goodWord)
def wsX3_due : List Cond := .code yX3_due cX3_due 2 (some .int) :: ([.methodLink RX3 132 yX3_openOrderAt, .instanceMethod yX3_openOrderAt, .selects RX3 yX3_openOrderAt yX3_openOrderAt, .initialized RX3, .code yX3_openOrderAt cX3_openOrderAt 3 (some (.object "FundMoves$Order")), .classLink RX3 61 "java/lang/IllegalStateException", .initialized "java/lang/IllegalStateException", .methodLink RX3 145 yX3_orderAt, .instanceMethod yX3_orderAt, .selects RX3 yX3_orderAt yX3_orderAt, .code yX3_orderAt cX3_orderAt 3 (some (.object "FundMoves$Order")), .classLink RX3 232 "java/lang/IndexOutOfBoundsException", .initialized "java/lang/IndexOutOfBoundsException", .fieldLink RX3 32 "FundMoves" "orders" "[LFundMoves$Order;", .methodLink RX3 50 yX3_isOutside, .static yX3_isOutside, .code yX3_isOutside cX3_isOutside 3 (some .boolean), .methodLink RX3 151 yX0_dueDay, .instanceMethod yX0_dueDay, .selects RX0 yX0_dueDay yX0_dueDay, .initialized RX0, .code yX0_dueDay cX0_dueDay 1 (some .int), .fieldLink RX0 9 "FundMoves$Order" "nextStep" "I", .fieldLink RX0 46 "FundMoves$Order" "lastStepDay" "I"] ++ wsX00 ++ wsX30 ++ (vx_atS RX3 65 "java/lang/IllegalStateException" ["java/lang/RuntimeException", "java/lang/Exception"]).filter goodWord ++ (vx_atS RX3 236 "java/lang/IndexOutOfBoundsException" ["java/lang/RuntimeException", "java/lang/Exception"]).filter goodWord)
def wsX3_late : List Cond := .code yX3_late cX3_late 3 (some .int) :: ([.methodLink RX3 145 yX3_orderAt, .instanceMethod yX3_orderAt, .selects RX3 yX3_orderAt yX3_orderAt, .initialized RX3, .code yX3_orderAt cX3_orderAt 3 (some (.object "FundMoves$Order")), .classLink RX3 232 "java/lang/IndexOutOfBoundsException", .initialized "java/lang/IndexOutOfBoundsException", .fieldLink RX3 32 "FundMoves" "orders" "[LFundMoves$Order;", .methodLink RX3 50 yX3_isOutside, .static yX3_isOutside, .code yX3_isOutside cX3_isOutside 3 (some .boolean)] ++ wsX00 ++ wsX30 ++ (vx_atS RX3 236 "java/lang/IndexOutOfBoundsException" ["java/lang/RuntimeException", "java/lang/Exception"]).filter goodWord)
def wsX3_money : List Cond := .code yX3_money cX3_money 2 (some .long) :: ([.methodLink RX3 145 yX3_orderAt, .instanceMethod yX3_orderAt, .selects RX3 yX3_orderAt yX3_orderAt, .initialized RX3, .code yX3_orderAt cX3_orderAt 3 (some (.object "FundMoves$Order")), .classLink RX3 232 "java/lang/IndexOutOfBoundsException", .initialized "java/lang/IndexOutOfBoundsException", .fieldLink RX3 32 "FundMoves" "orders" "[LFundMoves$Order;", .methodLink RX3 50 yX3_isOutside, .static yX3_isOutside, .code yX3_isOutside cX3_isOutside 3 (some .boolean)] ++ wsX00 ++ wsX30 ++ (vx_atS RX3 236 "java/lang/IndexOutOfBoundsException" ["java/lang/RuntimeException", "java/lang/Exception"]).filter goodWord)
def wsX3_madeGood : List Cond := .code yX3_madeGood cX3_madeGood 2 (some .long) :: ([.methodLink RX3 145 yX3_orderAt, .instanceMethod yX3_orderAt, .selects RX3 yX3_orderAt yX3_orderAt, .initialized RX3, .code yX3_orderAt cX3_orderAt 3 (some (.object "FundMoves$Order")), .classLink RX3 232 "java/lang/IndexOutOfBoundsException", .initialized "java/lang/IndexOutOfBoundsException", .fieldLink RX3 32 "FundMoves" "orders" "[LFundMoves$Order;", .methodLink RX3 50 yX3_isOutside, .static yX3_isOutside, .code yX3_isOutside cX3_isOutside 3 (some .boolean)] ++ wsX00 ++ wsX30 ++ (vx_atS RX3 236 "java/lang/IndexOutOfBoundsException" ["java/lang/RuntimeException", "java/lang/Exception"]).filter goodWord)
def wsX3_owes : List Cond := .code yX3_owes cX3_owes 3 (some .long) :: ([.fieldLink RX3 17 "FundMoves" "debts" "[[J", .methodLink RX3 122 yX3_checkProvider, .static yX3_checkProvider, .initialized RX3, .code yX3_checkProvider cX3_checkProvider 1 none, .classLink RX3 54 "java/lang/IllegalArgumentException", .initialized "java/lang/IllegalArgumentException", .methodLink RX3 220 yX3_isProvider, .static yX3_isProvider, .code yX3_isProvider cX3_isProvider 1 (some .boolean), .methodLink RX3 50 yX3_isOutside, .static yX3_isOutside, .code yX3_isOutside cX3_isOutside 3 (some .boolean)] ++ wsX30 ++ (vx_atS RX3 58 "java/lang/IllegalArgumentException" ["java/lang/RuntimeException", "java/lang/Exception"]).filter goodWord)
def wsX3_losses : List Cond := .code yX3_losses cX3_losses 2 (some .long) :: ([.fieldLink RX3 20 "FundMoves" "ownLosses" "[J", .methodLink RX3 122 yX3_checkProvider, .static yX3_checkProvider, .initialized RX3, .code yX3_checkProvider cX3_checkProvider 1 none, .classLink RX3 54 "java/lang/IllegalArgumentException", .initialized "java/lang/IllegalArgumentException", .methodLink RX3 220 yX3_isProvider, .static yX3_isProvider, .code yX3_isProvider cX3_isProvider 1 (some .boolean), .methodLink RX3 50 yX3_isOutside, .static yX3_isOutside, .code yX3_isOutside cX3_isOutside 3 (some .boolean)] ++ wsX30 ++ (vx_atS RX3 58 "java/lang/IllegalArgumentException" ["java/lang/RuntimeException", "java/lang/Exception"]).filter goodWord)
def wsX4_init_r1 : List Cond := [Cond.methodLink RX4 1 objectInit, Cond.instanceMethod objectInit, Cond.code objectInit ⟨#[0xb1]⟩ 1 none, Cond.arrayClass .int, Cond.fieldLink RX4 7 "FundMovesModel" "prices" "[I", Cond.fieldLink RX4 13 "FundMovesModel" "many" "[I", Cond.fieldLink RX4 16 "FundMovesModel" "setOn" "[I", Cond.fieldLink RX4 19 "FundMovesModel" "standard" "I", Cond.fieldLink RX4 23 "FundMovesModel" "with" "[I", Cond.arrayClass .long, Cond.fieldLink RX4 26 "FundMovesModel" "units" "[J", Cond.arrayClass .boolean, Cond.fieldLink RX4 30 "FundMovesModel" "moves" "[Z", Cond.fieldLink RX4 34 "FundMovesModel" "saver" "[I", Cond.fieldLink RX4 37 "FundMovesModel" "to" "[I", Cond.fieldLink RX4 40 "FundMovesModel" "stage" "[I", Cond.fieldLink RX4 43 "FundMovesModel" "since" "[I", Cond.fieldLink RX4 46 "FundMovesModel" "saleDay" "[I", Cond.fieldLink RX4 49 "FundMovesModel" "oldLate" "[I", Cond.fieldLink RX4 52 "FundMovesModel" "allLate" "[I", Cond.fieldLink RX4 55 "FundMovesModel" "sold" "[J", Cond.fieldLink RX4 58 "FundMovesModel" "money" "[J", Cond.fieldLink RX4 61 "FundMovesModel" "madeGood" "[J", Cond.fieldLink RX4 64 "FundMovesModel" "debts" "[J"]
def wsX4_init_r2 : List Cond := [Cond.fieldLink RX4 67 "FundMovesModel" "losses" "[J"]
def wsX4_init : List Cond := .code yX4_init cX4_init 2 none :: ((wsX4_init_r1 ++ wsX4_init_r2) ++ wsX40)
def wsX4_thrown : List Cond := .code yX4_thrown cX4_thrown 1 (some .int) :: ([.fieldLink RX4 70 "FundMovesModel" "thrown" "I"] ++ wsX40)
def wsX4_isIn : List Cond := .code yX4_isIn cX4_isIn 3 (some .boolean) :: ([])
def wsX4_isProvider : List Cond := .code yX4_isProvider cX4_isProvider 1 (some .boolean) :: ([.methodLink RX4 73 yX4_isIn, .static yX4_isIn, .initialized RX4, .code yX4_isIn cX4_isIn 3 (some .boolean)])
def wsX4_isSaver : List Cond := .code yX4_isSaver cX4_isSaver 2 (some .boolean) :: ([.fieldLink RX4 77 "FundMovesModel" "savers" "I", .methodLink RX4 73 yX4_isIn, .static yX4_isIn, .initialized RX4, .code yX4_isIn cX4_isIn 3 (some .boolean)] ++ wsX40)
def wsX4_isOrder : List Cond := .code yX4_isOrder cX4_isOrder 2 (some .boolean) :: ([.fieldLink RX4 80 "FundMovesModel" "orders" "I", .methodLink RX4 73 yX4_isIn, .static yX4_isIn, .initialized RX4, .code yX4_isIn cX4_isIn 3 (some .boolean)] ++ wsX40)
def wsX4_priceOf : List Cond := .code yX4_priceOf cX4_priceOf 3 (some .int) :: ([.fieldLink RX4 7 "FundMovesModel" "prices" "[I"] ++ wsX40)
def wsX4_pass : List Cond := .code yX4_pass cX4_pass 4 (some .int) :: ([.fieldLink RX4 83 "FundMovesModel" "today" "I", .fieldLink RX4 70 "FundMovesModel" "thrown" "I", .fieldLink RX4 7 "FundMovesModel" "prices" "[I", .methodLink RX4 73 yX4_isIn, .static yX4_isIn, .initialized RX4, .code yX4_isIn cX4_isIn 3 (some .boolean)] ++ wsX40)
def wsX4_today : List Cond := .code yX4_today cX4_today 1 (some .int) :: ([.fieldLink RX4 70 "FundMovesModel" "thrown" "I", .fieldLink RX4 83 "FundMovesModel" "today" "I"] ++ wsX40)
def wsX4_setPrice : List Cond := .code yX4_setPrice cX4_setPrice 4 (some .int) :: ([.fieldLink RX4 70 "FundMovesModel" "thrown" "I", .fieldLink RX4 13 "FundMovesModel" "many" "[I", .fieldLink RX4 16 "FundMovesModel" "setOn" "[I", .fieldLink RX4 83 "FundMovesModel" "today" "I", .fieldLink RX4 7 "FundMovesModel" "prices" "[I", .methodLink RX4 86 yX4_isProvider, .static yX4_isProvider, .initialized RX4, .code yX4_isProvider cX4_isProvider 1 (some .boolean), .methodLink RX4 73 yX4_isIn, .static yX4_isIn, .code yX4_isIn cX4_isIn 3 (some .boolean), .methodLink RX4 90 yX4_priceOf, .instanceMethod yX4_priceOf, .selects RX4 yX4_priceOf yX4_priceOf, .code yX4_priceOf cX4_priceOf 3 (some .int)] ++ wsX40)
def wsX4_price : List Cond := .code yX4_price cX4_price 3 (some .int) :: ([.fieldLink RX4 83 "FundMovesModel" "today" "I", .fieldLink RX4 70 "FundMovesModel" "thrown" "I", .methodLink RX4 86 yX4_isProvider, .static yX4_isProvider, .initialized RX4, .code yX4_isProvider cX4_isProvider 1 (some .boolean), .methodLink RX4 73 yX4_isIn, .static yX4_isIn, .code yX4_isIn cX4_isIn 3 (some .boolean), .methodLink RX4 90 yX4_priceOf, .instanceMethod yX4_priceOf, .selects RX4 yX4_priceOf yX4_priceOf, .code yX4_priceOf cX4_priceOf 3 (some .int), .fieldLink RX4 7 "FundMovesModel" "prices" "[I"] ++ wsX40)
def wsX4_setDefault : List Cond := .code yX4_setDefault cX4_setDefault 3 (some .int) :: ([.fieldLink RX4 70 "FundMovesModel" "thrown" "I", .fieldLink RX4 19 "FundMovesModel" "standard" "I", .methodLink RX4 73 yX4_isIn, .static yX4_isIn, .initialized RX4, .code yX4_isIn cX4_isIn 3 (some .boolean)] ++ wsX40)
def wsX4_unitsFor : List Cond := .code yX4_unitsFor cX4_unitsFor 3 (some .long) :: ([.constantLong RX4 94 (1000)])
def wsX4_begin : List Cond := .code yX4_begin cX4_begin 3 (some .int) :: ([.constant RX4 96 (1000000), .fieldLink RX4 77 "FundMovesModel" "savers" "I", .fieldLink RX4 70 "FundMovesModel" "thrown" "I", .fieldLink RX4 23 "FundMovesModel" "with" "[I", .fieldLink RX4 26 "FundMovesModel" "units" "[J", .fieldLink RX4 83 "FundMovesModel" "today" "I", .methodLink RX4 86 yX4_isProvider, .static yX4_isProvider, .initialized RX4, .code yX4_isProvider cX4_isProvider 1 (some .boolean), .methodLink RX4 73 yX4_isIn, .static yX4_isIn, .code yX4_isIn cX4_isIn 3 (some .boolean), .methodLink RX4 90 yX4_priceOf, .instanceMethod yX4_priceOf, .selects RX4 yX4_priceOf yX4_priceOf, .code yX4_priceOf cX4_priceOf 3 (some .int), .fieldLink RX4 7 "FundMovesModel" "prices" "[I", .methodLink RX4 97 yX4_unitsFor, .static yX4_unitsFor, .code yX4_unitsFor cX4_unitsFor 3 (some .long), .constantLong RX4 94 (1000)] ++ wsX40)
def wsX4_pay_r1 : List Cond := [Cond.constant RX4 96 (1000000), Cond.fieldLink RX4 70 "FundMovesModel" "thrown" "I", Cond.fieldLink RX4 23 "FundMovesModel" "with" "[I", Cond.fieldLink RX4 83 "FundMovesModel" "today" "I", Cond.fieldLink RX4 30 "FundMovesModel" "moves" "[Z", Cond.fieldLink RX4 26 "FundMovesModel" "units" "[J", Cond.constantLong RX4 104 (100000000), Cond.methodLink RX4 101 yX4_isSaver, Cond.instanceMethod yX4_isSaver, Cond.selects RX4 yX4_isSaver yX4_isSaver, Cond.initialized RX4, Cond.code yX4_isSaver cX4_isSaver 2 (some .boolean), Cond.fieldLink RX4 77 "FundMovesModel" "savers" "I", Cond.methodLink RX4 73 yX4_isIn, Cond.static yX4_isIn, Cond.code yX4_isIn cX4_isIn 3 (some .boolean), Cond.methodLink RX4 90 yX4_priceOf, Cond.instanceMethod yX4_priceOf, Cond.selects RX4 yX4_priceOf yX4_priceOf, Cond.code yX4_priceOf cX4_priceOf 3 (some .int), Cond.fieldLink RX4 7 "FundMovesModel" "prices" "[I", Cond.methodLink RX4 97 yX4_unitsFor, Cond.static yX4_unitsFor, Cond.code yX4_unitsFor cX4_unitsFor 3 (some .long)]
def wsX4_pay_r2 : List Cond := [Cond.constantLong RX4 94 (1000)]
def wsX4_pay : List Cond := .code yX4_pay cX4_pay 5 (some .int) :: ((wsX4_pay_r1 ++ wsX4_pay_r2) ++ wsX40)
def wsX4_units : List Cond := .code yX4_units cX4_units 2 (some .long) :: ([.fieldLink RX4 70 "FundMovesModel" "thrown" "I", .fieldLink RX4 26 "FundMovesModel" "units" "[J", .methodLink RX4 101 yX4_isSaver, .instanceMethod yX4_isSaver, .selects RX4 yX4_isSaver yX4_isSaver, .initialized RX4, .code yX4_isSaver cX4_isSaver 2 (some .boolean), .fieldLink RX4 77 "FundMovesModel" "savers" "I", .methodLink RX4 73 yX4_isIn, .static yX4_isIn, .code yX4_isIn cX4_isIn 3 (some .boolean)] ++ wsX40)
def wsX4_provider : List Cond := .code yX4_provider cX4_provider 2 (some .int) :: ([.fieldLink RX4 70 "FundMovesModel" "thrown" "I", .fieldLink RX4 23 "FundMovesModel" "with" "[I", .methodLink RX4 101 yX4_isSaver, .instanceMethod yX4_isSaver, .selects RX4 yX4_isSaver yX4_isSaver, .initialized RX4, .code yX4_isSaver cX4_isSaver 2 (some .boolean), .fieldLink RX4 77 "FundMovesModel" "savers" "I", .methodLink RX4 73 yX4_isIn, .static yX4_isIn, .code yX4_isIn cX4_isIn 3 (some .boolean)] ++ wsX40)
def wsX4_order : List Cond := .code yX4_order cX4_order 3 (some .int) :: ([.fieldLink RX4 70 "FundMovesModel" "thrown" "I", .fieldLink RX4 23 "FundMovesModel" "with" "[I", .fieldLink RX4 30 "FundMovesModel" "moves" "[Z", .fieldLink RX4 80 "FundMovesModel" "orders" "I", .fieldLink RX4 34 "FundMovesModel" "saver" "[I", .fieldLink RX4 37 "FundMovesModel" "to" "[I", .fieldLink RX4 43 "FundMovesModel" "since" "[I", .fieldLink RX4 83 "FundMovesModel" "today" "I", .methodLink RX4 101 yX4_isSaver, .instanceMethod yX4_isSaver, .selects RX4 yX4_isSaver yX4_isSaver, .initialized RX4, .code yX4_isSaver cX4_isSaver 2 (some .boolean), .fieldLink RX4 77 "FundMovesModel" "savers" "I", .methodLink RX4 73 yX4_isIn, .static yX4_isIn, .code yX4_isIn cX4_isIn 3 (some .boolean), .methodLink RX4 86 yX4_isProvider, .static yX4_isProvider, .code yX4_isProvider cX4_isProvider 1 (some .boolean)] ++ wsX40)
def wsX4_dueOf : List Cond := .code yX4_dueOf cX4_dueOf 2 (some .int) :: ([.fieldLink RX4 43 "FundMovesModel" "since" "[I", .fieldLink RX4 40 "FundMovesModel" "stage" "[I"] ++ wsX40)
def wsX4_lateBy : List Cond := .code yX4_lateBy cX4_lateBy 2 (some .int) :: ([.fieldLink RX4 83 "FundMovesModel" "today" "I", .methodLink RX4 106 yX4_dueOf, .instanceMethod yX4_dueOf, .selects RX4 yX4_dueOf yX4_dueOf, .initialized RX4, .code yX4_dueOf cX4_dueOf 2 (some .int), .fieldLink RX4 43 "FundMovesModel" "since" "[I", .fieldLink RX4 40 "FundMovesModel" "stage" "[I"] ++ wsX40)
def wsX4_timely : List Cond := .code yX4_timely cX4_timely 7 (some .long) :: ([.fieldLink RX4 52 "FundMovesModel" "allLate" "[I", .fieldLink RX4 23 "FundMovesModel" "with" "[I", .fieldLink RX4 34 "FundMovesModel" "saver" "[I", .fieldLink RX4 55 "FundMovesModel" "sold" "[J", .fieldLink RX4 46 "FundMovesModel" "saleDay" "[I", .fieldLink RX4 49 "FundMovesModel" "oldLate" "[I", .constantLong RX4 94 (1000), .fieldLink RX4 37 "FundMovesModel" "to" "[I", .fieldLink RX4 83 "FundMovesModel" "today" "I", .methodLink RX4 90 yX4_priceOf, .instanceMethod yX4_priceOf, .selects RX4 yX4_priceOf yX4_priceOf, .initialized RX4, .code yX4_priceOf cX4_priceOf 3 (some .int), .fieldLink RX4 7 "FundMovesModel" "prices" "[I", .methodLink RX4 97 yX4_unitsFor, .static yX4_unitsFor, .code yX4_unitsFor cX4_unitsFor 3 (some .long)] ++ wsX40)
def wsX4_isTooMuch_r1 : List Cond := [Cond.fieldLink RX4 40 "FundMovesModel" "stage" "[I", Cond.fieldLink RX4 58 "FundMovesModel" "money" "[J", Cond.constantLong RX4 104 (100000000), Cond.methodLink RX4 97 yX4_unitsFor, Cond.static yX4_unitsFor, Cond.initialized RX4, Cond.code yX4_unitsFor cX4_unitsFor 3 (some .long), Cond.constantLong RX4 94 (1000), Cond.methodLink RX4 110 yX4_timely, Cond.instanceMethod yX4_timely, Cond.selects RX4 yX4_timely yX4_timely, Cond.code yX4_timely cX4_timely 7 (some .long), Cond.fieldLink RX4 52 "FundMovesModel" "allLate" "[I", Cond.fieldLink RX4 23 "FundMovesModel" "with" "[I", Cond.fieldLink RX4 34 "FundMovesModel" "saver" "[I", Cond.fieldLink RX4 55 "FundMovesModel" "sold" "[J", Cond.fieldLink RX4 46 "FundMovesModel" "saleDay" "[I", Cond.fieldLink RX4 49 "FundMovesModel" "oldLate" "[I", Cond.fieldLink RX4 37 "FundMovesModel" "to" "[I", Cond.fieldLink RX4 83 "FundMovesModel" "today" "I", Cond.methodLink RX4 90 yX4_priceOf, Cond.instanceMethod yX4_priceOf, Cond.selects RX4 yX4_priceOf yX4_priceOf, Cond.code yX4_priceOf cX4_priceOf 3 (some .int)]
def wsX4_isTooMuch_r2 : List Cond := [Cond.fieldLink RX4 7 "FundMovesModel" "prices" "[I"]
def wsX4_isTooMuch : List Cond := .code yX4_isTooMuch cX4_isTooMuch 4 (some .boolean) :: ((wsX4_isTooMuch_r1 ++ wsX4_isTooMuch_r2) ++ wsX40)
def wsX4_buys_r1 : List Cond := [Cond.fieldLink RX4 34 "FundMovesModel" "saver" "[I", Cond.fieldLink RX4 58 "FundMovesModel" "money" "[J", Cond.fieldLink RX4 37 "FundMovesModel" "to" "[I", Cond.fieldLink RX4 83 "FundMovesModel" "today" "I", Cond.constantLong RX4 94 (1000), Cond.fieldLink RX4 52 "FundMovesModel" "allLate" "[I", Cond.fieldLink RX4 49 "FundMovesModel" "oldLate" "[I", Cond.fieldLink RX4 64 "FundMovesModel" "debts" "[J", Cond.fieldLink RX4 23 "FundMovesModel" "with" "[I", Cond.fieldLink RX4 67 "FundMovesModel" "losses" "[J", Cond.fieldLink RX4 61 "FundMovesModel" "madeGood" "[J", Cond.fieldLink RX4 26 "FundMovesModel" "units" "[J", Cond.fieldLink RX4 30 "FundMovesModel" "moves" "[Z", Cond.methodLink RX4 97 yX4_unitsFor, Cond.static yX4_unitsFor, Cond.initialized RX4, Cond.code yX4_unitsFor cX4_unitsFor 3 (some .long), Cond.methodLink RX4 110 yX4_timely, Cond.instanceMethod yX4_timely, Cond.selects RX4 yX4_timely yX4_timely, Cond.code yX4_timely cX4_timely 7 (some .long), Cond.fieldLink RX4 55 "FundMovesModel" "sold" "[J", Cond.fieldLink RX4 46 "FundMovesModel" "saleDay" "[I", Cond.methodLink RX4 90 yX4_priceOf]
def wsX4_buys_r2 : List Cond := [Cond.instanceMethod yX4_priceOf, Cond.selects RX4 yX4_priceOf yX4_priceOf, Cond.code yX4_priceOf cX4_priceOf 3 (some .int), Cond.fieldLink RX4 7 "FundMovesModel" "prices" "[I"]
def wsX4_buys : List Cond := .code yX4_buys cX4_buys 14 none :: ((wsX4_buys_r1 ++ wsX4_buys_r2) ++ wsX40)
def wsX4_does_r1 : List Cond := [Cond.fieldLink RX4 34 "FundMovesModel" "saver" "[I", Cond.fieldLink RX4 40 "FundMovesModel" "stage" "[I", Cond.fieldLink RX4 19 "FundMovesModel" "standard" "I", Cond.fieldLink RX4 23 "FundMovesModel" "with" "[I", Cond.fieldLink RX4 83 "FundMovesModel" "today" "I", Cond.fieldLink RX4 55 "FundMovesModel" "sold" "[J", Cond.fieldLink RX4 26 "FundMovesModel" "units" "[J", Cond.fieldLink RX4 58 "FundMovesModel" "money" "[J", Cond.constantLong RX4 94 (1000), Cond.fieldLink RX4 46 "FundMovesModel" "saleDay" "[I", Cond.fieldLink RX4 37 "FundMovesModel" "to" "[I", Cond.fieldLink RX4 49 "FundMovesModel" "oldLate" "[I", Cond.fieldLink RX4 52 "FundMovesModel" "allLate" "[I", Cond.fieldLink RX4 43 "FundMovesModel" "since" "[I", Cond.methodLink RX4 114 yX4_lateBy, Cond.instanceMethod yX4_lateBy, Cond.selects RX4 yX4_lateBy yX4_lateBy, Cond.initialized RX4, Cond.code yX4_lateBy cX4_lateBy 2 (some .int), Cond.methodLink RX4 106 yX4_dueOf, Cond.instanceMethod yX4_dueOf, Cond.selects RX4 yX4_dueOf yX4_dueOf, Cond.code yX4_dueOf cX4_dueOf 2 (some .int), Cond.methodLink RX4 90 yX4_priceOf]
def wsX4_does_r2 : List Cond := [Cond.instanceMethod yX4_priceOf, Cond.selects RX4 yX4_priceOf yX4_priceOf, Cond.code yX4_priceOf cX4_priceOf 3 (some .int), Cond.fieldLink RX4 7 "FundMovesModel" "prices" "[I", Cond.methodLink RX4 117 yX4_buys, Cond.instanceMethod yX4_buys, Cond.selects RX4 yX4_buys yX4_buys, Cond.code yX4_buys cX4_buys 14 none, Cond.fieldLink RX4 64 "FundMovesModel" "debts" "[J", Cond.fieldLink RX4 67 "FundMovesModel" "losses" "[J", Cond.fieldLink RX4 61 "FundMovesModel" "madeGood" "[J", Cond.fieldLink RX4 30 "FundMovesModel" "moves" "[Z", Cond.methodLink RX4 97 yX4_unitsFor, Cond.static yX4_unitsFor, Cond.code yX4_unitsFor cX4_unitsFor 3 (some .long), Cond.methodLink RX4 110 yX4_timely, Cond.instanceMethod yX4_timely, Cond.selects RX4 yX4_timely yX4_timely, Cond.code yX4_timely cX4_timely 7 (some .long)]
def wsX4_does : List Cond := .code yX4_does cX4_does 6 (some .int) :: ((wsX4_does_r1 ++ wsX4_does_r2) ++ wsX40)
def wsX4_step_r1 : List Cond := [Cond.fieldLink RX4 70 "FundMovesModel" "thrown" "I", Cond.fieldLink RX4 40 "FundMovesModel" "stage" "[I", Cond.fieldLink RX4 37 "FundMovesModel" "to" "[I", Cond.fieldLink RX4 83 "FundMovesModel" "today" "I", Cond.methodLink RX4 121 yX4_isOrder, Cond.instanceMethod yX4_isOrder, Cond.selects RX4 yX4_isOrder yX4_isOrder, Cond.initialized RX4, Cond.code yX4_isOrder cX4_isOrder 2 (some .boolean), Cond.fieldLink RX4 80 "FundMovesModel" "orders" "I", Cond.methodLink RX4 73 yX4_isIn, Cond.static yX4_isIn, Cond.code yX4_isIn cX4_isIn 3 (some .boolean), Cond.methodLink RX4 90 yX4_priceOf, Cond.instanceMethod yX4_priceOf, Cond.selects RX4 yX4_priceOf yX4_priceOf, Cond.code yX4_priceOf cX4_priceOf 3 (some .int), Cond.fieldLink RX4 7 "FundMovesModel" "prices" "[I", Cond.methodLink RX4 114 yX4_lateBy, Cond.instanceMethod yX4_lateBy, Cond.selects RX4 yX4_lateBy yX4_lateBy, Cond.code yX4_lateBy cX4_lateBy 2 (some .int), Cond.methodLink RX4 106 yX4_dueOf, Cond.instanceMethod yX4_dueOf]
def wsX4_step_r2 : List Cond := [Cond.selects RX4 yX4_dueOf yX4_dueOf, Cond.code yX4_dueOf cX4_dueOf 2 (some .int), Cond.fieldLink RX4 43 "FundMovesModel" "since" "[I", Cond.methodLink RX4 124 yX4_isTooMuch, Cond.instanceMethod yX4_isTooMuch, Cond.selects RX4 yX4_isTooMuch yX4_isTooMuch, Cond.code yX4_isTooMuch cX4_isTooMuch 4 (some .boolean), Cond.fieldLink RX4 58 "FundMovesModel" "money" "[J", Cond.constantLong RX4 104 (100000000), Cond.methodLink RX4 97 yX4_unitsFor, Cond.static yX4_unitsFor, Cond.code yX4_unitsFor cX4_unitsFor 3 (some .long), Cond.constantLong RX4 94 (1000), Cond.methodLink RX4 110 yX4_timely, Cond.instanceMethod yX4_timely, Cond.selects RX4 yX4_timely yX4_timely, Cond.code yX4_timely cX4_timely 7 (some .long), Cond.fieldLink RX4 52 "FundMovesModel" "allLate" "[I", Cond.fieldLink RX4 23 "FundMovesModel" "with" "[I", Cond.fieldLink RX4 34 "FundMovesModel" "saver" "[I", Cond.fieldLink RX4 55 "FundMovesModel" "sold" "[J", Cond.fieldLink RX4 46 "FundMovesModel" "saleDay" "[I", Cond.fieldLink RX4 49 "FundMovesModel" "oldLate" "[I", Cond.methodLink RX4 127 yX4_does]
def wsX4_step_r3 : List Cond := [Cond.instanceMethod yX4_does, Cond.selects RX4 yX4_does yX4_does, Cond.code yX4_does cX4_does 6 (some .int), Cond.fieldLink RX4 19 "FundMovesModel" "standard" "I", Cond.fieldLink RX4 26 "FundMovesModel" "units" "[J", Cond.methodLink RX4 117 yX4_buys, Cond.instanceMethod yX4_buys, Cond.selects RX4 yX4_buys yX4_buys, Cond.code yX4_buys cX4_buys 14 none, Cond.fieldLink RX4 64 "FundMovesModel" "debts" "[J", Cond.fieldLink RX4 67 "FundMovesModel" "losses" "[J", Cond.fieldLink RX4 61 "FundMovesModel" "madeGood" "[J", Cond.fieldLink RX4 30 "FundMovesModel" "moves" "[Z"]
def wsX4_step : List Cond := .code yX4_step cX4_step 2 (some .int) :: ((wsX4_step_r1 ++ (wsX4_step_r2 ++ wsX4_step_r3)) ++ wsX40)
def wsX4_force_r1 : List Cond := [Cond.fieldLink RX4 70 "FundMovesModel" "thrown" "I", Cond.fieldLink RX4 40 "FundMovesModel" "stage" "[I", Cond.fieldLink RX4 19 "FundMovesModel" "standard" "I", Cond.methodLink RX4 121 yX4_isOrder, Cond.instanceMethod yX4_isOrder, Cond.selects RX4 yX4_isOrder yX4_isOrder, Cond.initialized RX4, Cond.code yX4_isOrder cX4_isOrder 2 (some .boolean), Cond.fieldLink RX4 80 "FundMovesModel" "orders" "I", Cond.methodLink RX4 73 yX4_isIn, Cond.static yX4_isIn, Cond.code yX4_isIn cX4_isIn 3 (some .boolean), Cond.methodLink RX4 114 yX4_lateBy, Cond.instanceMethod yX4_lateBy, Cond.selects RX4 yX4_lateBy yX4_lateBy, Cond.code yX4_lateBy cX4_lateBy 2 (some .int), Cond.fieldLink RX4 83 "FundMovesModel" "today" "I", Cond.methodLink RX4 106 yX4_dueOf, Cond.instanceMethod yX4_dueOf, Cond.selects RX4 yX4_dueOf yX4_dueOf, Cond.code yX4_dueOf cX4_dueOf 2 (some .int), Cond.fieldLink RX4 43 "FundMovesModel" "since" "[I", Cond.methodLink RX4 124 yX4_isTooMuch, Cond.instanceMethod yX4_isTooMuch]
def wsX4_force_r2 : List Cond := [Cond.selects RX4 yX4_isTooMuch yX4_isTooMuch, Cond.code yX4_isTooMuch cX4_isTooMuch 4 (some .boolean), Cond.fieldLink RX4 58 "FundMovesModel" "money" "[J", Cond.constantLong RX4 104 (100000000), Cond.methodLink RX4 97 yX4_unitsFor, Cond.static yX4_unitsFor, Cond.code yX4_unitsFor cX4_unitsFor 3 (some .long), Cond.constantLong RX4 94 (1000), Cond.methodLink RX4 110 yX4_timely, Cond.instanceMethod yX4_timely, Cond.selects RX4 yX4_timely yX4_timely, Cond.code yX4_timely cX4_timely 7 (some .long), Cond.fieldLink RX4 52 "FundMovesModel" "allLate" "[I", Cond.fieldLink RX4 23 "FundMovesModel" "with" "[I", Cond.fieldLink RX4 34 "FundMovesModel" "saver" "[I", Cond.fieldLink RX4 55 "FundMovesModel" "sold" "[J", Cond.fieldLink RX4 46 "FundMovesModel" "saleDay" "[I", Cond.fieldLink RX4 49 "FundMovesModel" "oldLate" "[I", Cond.fieldLink RX4 37 "FundMovesModel" "to" "[I", Cond.methodLink RX4 90 yX4_priceOf, Cond.instanceMethod yX4_priceOf, Cond.selects RX4 yX4_priceOf yX4_priceOf, Cond.code yX4_priceOf cX4_priceOf 3 (some .int), Cond.fieldLink RX4 7 "FundMovesModel" "prices" "[I"]
def wsX4_force_r3 : List Cond := [Cond.methodLink RX4 127 yX4_does, Cond.instanceMethod yX4_does, Cond.selects RX4 yX4_does yX4_does, Cond.code yX4_does cX4_does 6 (some .int), Cond.fieldLink RX4 26 "FundMovesModel" "units" "[J", Cond.methodLink RX4 117 yX4_buys, Cond.instanceMethod yX4_buys, Cond.selects RX4 yX4_buys yX4_buys, Cond.code yX4_buys cX4_buys 14 none, Cond.fieldLink RX4 64 "FundMovesModel" "debts" "[J", Cond.fieldLink RX4 67 "FundMovesModel" "losses" "[J", Cond.fieldLink RX4 61 "FundMovesModel" "madeGood" "[J", Cond.fieldLink RX4 30 "FundMovesModel" "moves" "[Z"]
def wsX4_force : List Cond := .code yX4_force cX4_force 2 (some .int) :: ((wsX4_force_r1 ++ (wsX4_force_r2 ++ wsX4_force_r3)) ++ wsX40)
def wsX4_asks : List Cond := .code yX4_asks cX4_asks 2 (some .boolean) :: ([.fieldLink RX4 70 "FundMovesModel" "thrown" "I", .methodLink RX4 121 yX4_isOrder, .instanceMethod yX4_isOrder, .selects RX4 yX4_isOrder yX4_isOrder, .initialized RX4, .code yX4_isOrder cX4_isOrder 2 (some .boolean), .fieldLink RX4 80 "FundMovesModel" "orders" "I", .methodLink RX4 73 yX4_isIn, .static yX4_isIn, .code yX4_isIn cX4_isIn 3 (some .boolean)] ++ wsX40)
def wsX4_stage : List Cond := .code yX4_stage cX4_stage 2 (some .int) :: ([.fieldLink RX4 40 "FundMovesModel" "stage" "[I", .methodLink RX4 131 yX4_asks, .instanceMethod yX4_asks, .selects RX4 yX4_asks yX4_asks, .initialized RX4, .code yX4_asks cX4_asks 2 (some .boolean), .fieldLink RX4 70 "FundMovesModel" "thrown" "I", .methodLink RX4 121 yX4_isOrder, .instanceMethod yX4_isOrder, .selects RX4 yX4_isOrder yX4_isOrder, .code yX4_isOrder cX4_isOrder 2 (some .boolean), .fieldLink RX4 80 "FundMovesModel" "orders" "I", .methodLink RX4 73 yX4_isIn, .static yX4_isIn, .code yX4_isIn cX4_isIn 3 (some .boolean)] ++ wsX40)
def wsX4_due : List Cond := .code yX4_due cX4_due 2 (some .int) :: ([.fieldLink RX4 40 "FundMovesModel" "stage" "[I", .fieldLink RX4 70 "FundMovesModel" "thrown" "I", .methodLink RX4 121 yX4_isOrder, .instanceMethod yX4_isOrder, .selects RX4 yX4_isOrder yX4_isOrder, .initialized RX4, .code yX4_isOrder cX4_isOrder 2 (some .boolean), .fieldLink RX4 80 "FundMovesModel" "orders" "I", .methodLink RX4 73 yX4_isIn, .static yX4_isIn, .code yX4_isIn cX4_isIn 3 (some .boolean), .methodLink RX4 106 yX4_dueOf, .instanceMethod yX4_dueOf, .selects RX4 yX4_dueOf yX4_dueOf, .code yX4_dueOf cX4_dueOf 2 (some .int), .fieldLink RX4 43 "FundMovesModel" "since" "[I"] ++ wsX40)
def wsX4_late : List Cond := .code yX4_late cX4_late 2 (some .int) :: ([.fieldLink RX4 52 "FundMovesModel" "allLate" "[I", .methodLink RX4 131 yX4_asks, .instanceMethod yX4_asks, .selects RX4 yX4_asks yX4_asks, .initialized RX4, .code yX4_asks cX4_asks 2 (some .boolean), .fieldLink RX4 70 "FundMovesModel" "thrown" "I", .methodLink RX4 121 yX4_isOrder, .instanceMethod yX4_isOrder, .selects RX4 yX4_isOrder yX4_isOrder, .code yX4_isOrder cX4_isOrder 2 (some .boolean), .fieldLink RX4 80 "FundMovesModel" "orders" "I", .methodLink RX4 73 yX4_isIn, .static yX4_isIn, .code yX4_isIn cX4_isIn 3 (some .boolean)] ++ wsX40)
def wsX4_money : List Cond := .code yX4_money cX4_money 2 (some .long) :: ([.fieldLink RX4 58 "FundMovesModel" "money" "[J", .methodLink RX4 131 yX4_asks, .instanceMethod yX4_asks, .selects RX4 yX4_asks yX4_asks, .initialized RX4, .code yX4_asks cX4_asks 2 (some .boolean), .fieldLink RX4 70 "FundMovesModel" "thrown" "I", .methodLink RX4 121 yX4_isOrder, .instanceMethod yX4_isOrder, .selects RX4 yX4_isOrder yX4_isOrder, .code yX4_isOrder cX4_isOrder 2 (some .boolean), .fieldLink RX4 80 "FundMovesModel" "orders" "I", .methodLink RX4 73 yX4_isIn, .static yX4_isIn, .code yX4_isIn cX4_isIn 3 (some .boolean)] ++ wsX40)
def wsX4_madeGood : List Cond := .code yX4_madeGood cX4_madeGood 2 (some .long) :: ([.fieldLink RX4 61 "FundMovesModel" "madeGood" "[J", .methodLink RX4 131 yX4_asks, .instanceMethod yX4_asks, .selects RX4 yX4_asks yX4_asks, .initialized RX4, .code yX4_asks cX4_asks 2 (some .boolean), .fieldLink RX4 70 "FundMovesModel" "thrown" "I", .methodLink RX4 121 yX4_isOrder, .instanceMethod yX4_isOrder, .selects RX4 yX4_isOrder yX4_isOrder, .code yX4_isOrder cX4_isOrder 2 (some .boolean), .fieldLink RX4 80 "FundMovesModel" "orders" "I", .methodLink RX4 73 yX4_isIn, .static yX4_isIn, .code yX4_isIn cX4_isIn 3 (some .boolean)] ++ wsX40)
def wsX4_owes : List Cond := .code yX4_owes cX4_owes 3 (some .long) :: ([.fieldLink RX4 70 "FundMovesModel" "thrown" "I", .fieldLink RX4 64 "FundMovesModel" "debts" "[J", .methodLink RX4 86 yX4_isProvider, .static yX4_isProvider, .initialized RX4, .code yX4_isProvider cX4_isProvider 1 (some .boolean), .methodLink RX4 73 yX4_isIn, .static yX4_isIn, .code yX4_isIn cX4_isIn 3 (some .boolean)] ++ wsX40)
def wsX4_losses : List Cond := .code yX4_losses cX4_losses 2 (some .long) :: ([.fieldLink RX4 70 "FundMovesModel" "thrown" "I", .fieldLink RX4 67 "FundMovesModel" "losses" "[J", .methodLink RX4 86 yX4_isProvider, .static yX4_isProvider, .initialized RX4, .code yX4_isProvider cX4_isProvider 1 (some .boolean), .methodLink RX4 73 yX4_isIn, .static yX4_isIn, .code yX4_isIn cX4_isIn 3 (some .boolean)] ++ wsX40)
def wsJ9_max_7cf53 : List Cond := .code yJ9_max_7cf53 cJ9_max_7cf53 2 (some .int) :: ([])
def wsJ9_max_f86c9 : List Cond := .code yJ9_max_f86c9 cJ9_max_f86c9 4 (some .long) :: ([])
def wsL_pass : List Cond := .codeWith yL_pass cL_pass 4 (some .int) [(0, 9, 12, 13), (0, 9, 15, 15)] :: ([.classLink RL 13 "java/lang/IllegalArgumentException", .classLink RL 15 "java/lang/IllegalStateException", .methodLink RL 7 yX3_pass, .instanceMethod yX3_pass, .selects RX3 yX3_pass yX3_pass, .initialized RX3, .code yX3_pass cX3_pass 2 (some .int), .classLink RX3 54 "java/lang/IllegalArgumentException", .initialized "java/lang/IllegalArgumentException", .classLink RX3 61 "java/lang/IllegalStateException", .initialized "java/lang/IllegalStateException", .fieldLink RX3 36 "FundMoves" "presentDay" "I", .methodLink RX3 50 yX3_isOutside, .static yX3_isOutside, .code yX3_isOutside cX3_isOutside 3 (some .boolean)] ++ wsX30 ++ (vx_atS RX3 58 "java/lang/IllegalArgumentException" ["java/lang/RuntimeException", "java/lang/Exception"]).filter goodWord ++ (vx_atS RX3 65 "java/lang/IllegalStateException" ["java/lang/RuntimeException", "java/lang/Exception"]).filter goodWord)
def wsL_setPrice_r1 : List Cond := [Cond.classLink RL 13 "java/lang/IllegalArgumentException", Cond.classLink RL 15 "java/lang/IllegalStateException", Cond.methodLink RL 17 yX3_setPrice, Cond.instanceMethod yX3_setPrice, Cond.selects RX3 yX3_setPrice yX3_setPrice, Cond.initialized RX3, Cond.code yX3_setPrice cX3_setPrice 5 (some .int), Cond.classLink RX3 61 "java/lang/IllegalStateException", Cond.initialized "java/lang/IllegalStateException", Cond.fieldLink RX3 36 "FundMoves" "presentDay" "I", Cond.methodLink RX3 66 yX3_priceRowOf, Cond.instanceMethod yX3_priceRowOf, Cond.selects RX3 yX3_priceRowOf yX3_priceRowOf, Cond.code yX3_priceRowOf cX3_priceRowOf 3 (some (.object "FundMoves$PriceRow")), Cond.classLink RX3 54 "java/lang/IllegalArgumentException", Cond.initialized "java/lang/IllegalArgumentException", Cond.fieldLink RX3 11 "FundMoves" "priceRows" "[LFundMoves$PriceRow;", Cond.methodLink RX3 220 yX3_isProvider, Cond.static yX3_isProvider, Cond.code yX3_isProvider cX3_isProvider 1 (some .boolean), Cond.methodLink RX3 50 yX3_isOutside, Cond.static yX3_isOutside, Cond.code yX3_isOutside cX3_isOutside 3 (some .boolean), Cond.methodLink RX3 70 yX3_checkPrice]
def wsL_setPrice_r2 : List Cond := [Cond.static yX3_checkPrice, Cond.code yX3_checkPrice cX3_checkPrice 1 none, Cond.methodLink RX3 74 yX1_valueOn, Cond.instanceMethod yX1_valueOn, Cond.selects RX1 yX1_valueOn yX1_valueOn, Cond.initialized RX1, Cond.code yX1_valueOn cX1_valueOn 3 (some .int), Cond.fieldLink RX1 18 "FundMoves$PriceRow" "latest" "I", Cond.fieldLink RX1 9 "FundMoves$PriceRow" "firstDays" "[I", Cond.fieldLink RX1 15 "FundMoves$PriceRow" "values" "[I", Cond.methodLink RX3 78 yX1_put, Cond.instanceMethod yX1_put, Cond.selects RX1 yX1_put yX1_put, Cond.code yX1_put cX1_put 3 (some .boolean)]
def wsL_setPrice : List Cond := .codeWith yL_setPrice cL_setPrice 5 (some .int) [(0, 10, 13, 13), (0, 10, 17, 15)] :: ((wsL_setPrice_r1 ++ wsL_setPrice_r2) ++ wsX30 ++ wsX10 ++ (vx_atS RX3 65 "java/lang/IllegalStateException" ["java/lang/RuntimeException", "java/lang/Exception"]).filter goodWord ++ (vx_atS RX3 58 "java/lang/IllegalArgumentException" ["java/lang/RuntimeException", "java/lang/Exception"]).filter goodWord)
def wsL_price_r1 : List Cond := [Cond.classLink RL 13 "java/lang/IllegalArgumentException", Cond.methodLink RL 21 yX3_price, Cond.instanceMethod yX3_price, Cond.selects RX3 yX3_price yX3_price, Cond.initialized RX3, Cond.code yX3_price cX3_price 4 (some .int), Cond.classLink RX3 54 "java/lang/IllegalArgumentException", Cond.initialized "java/lang/IllegalArgumentException", Cond.fieldLink RX3 36 "FundMoves" "presentDay" "I", Cond.methodLink RX3 66 yX3_priceRowOf, Cond.instanceMethod yX3_priceRowOf, Cond.selects RX3 yX3_priceRowOf yX3_priceRowOf, Cond.code yX3_priceRowOf cX3_priceRowOf 3 (some (.object "FundMoves$PriceRow")), Cond.fieldLink RX3 11 "FundMoves" "priceRows" "[LFundMoves$PriceRow;", Cond.methodLink RX3 220 yX3_isProvider, Cond.static yX3_isProvider, Cond.code yX3_isProvider cX3_isProvider 1 (some .boolean), Cond.methodLink RX3 50 yX3_isOutside, Cond.static yX3_isOutside, Cond.code yX3_isOutside cX3_isOutside 3 (some .boolean), Cond.methodLink RX3 74 yX1_valueOn, Cond.instanceMethod yX1_valueOn, Cond.selects RX1 yX1_valueOn yX1_valueOn, Cond.initialized RX1]
def wsL_price_r2 : List Cond := [Cond.code yX1_valueOn cX1_valueOn 3 (some .int), Cond.fieldLink RX1 18 "FundMoves$PriceRow" "latest" "I", Cond.fieldLink RX1 9 "FundMoves$PriceRow" "firstDays" "[I", Cond.fieldLink RX1 15 "FundMoves$PriceRow" "values" "[I"]
def wsL_price : List Cond := .codeWith yL_price cL_price 5 (some .int) [(0, 10, 13, 13)] :: ((wsL_price_r1 ++ wsL_price_r2) ++ wsX30 ++ wsX10 ++ (vx_atS RX3 58 "java/lang/IllegalArgumentException" ["java/lang/RuntimeException", "java/lang/Exception"]).filter goodWord)
def wsL_setDefault : List Cond := .codeWith yL_setDefault cL_setDefault 4 (some .int) [(0, 9, 12, 13)] :: ([.classLink RL 13 "java/lang/IllegalArgumentException", .methodLink RL 24 yX3_setDefault, .instanceMethod yX3_setDefault, .selects RX3 yX3_setDefault yX3_setDefault, .initialized RX3, .code yX3_setDefault cX3_setDefault 3 (some .int), .fieldLink RX3 40 "FundMoves" "defaultPrice" "I", .methodLink RX3 70 yX3_checkPrice, .static yX3_checkPrice, .code yX3_checkPrice cX3_checkPrice 1 none, .classLink RX3 54 "java/lang/IllegalArgumentException", .initialized "java/lang/IllegalArgumentException", .methodLink RX3 50 yX3_isOutside, .static yX3_isOutside, .code yX3_isOutside cX3_isOutside 3 (some .boolean)] ++ wsX30 ++ (vx_atS RX3 58 "java/lang/IllegalArgumentException" ["java/lang/RuntimeException", "java/lang/Exception"]).filter goodWord)
def wsL_begin_r1 : List Cond := [Cond.classLink RL 13 "java/lang/IllegalArgumentException", Cond.classLink RL 15 "java/lang/IllegalStateException", Cond.methodLink RL 27 yX3_begin, Cond.instanceMethod yX3_begin, Cond.selects RX3 yX3_begin yX3_begin, Cond.initialized RX3, Cond.code yX3_begin cX3_begin 5 (some .int), Cond.classLink RX3 54 "java/lang/IllegalArgumentException", Cond.initialized "java/lang/IllegalArgumentException", Cond.classLink RX3 61 "java/lang/IllegalStateException", Cond.initialized "java/lang/IllegalStateException", Cond.constant RX3 86 (1000000), Cond.fieldLink RX3 43 "FundMoves" "saverCount" "I", Cond.fieldLink RX3 26 "FundMoves" "savers" "[LFundMoves$Saver;", Cond.classLink RX3 24 RX2, Cond.instantiable RX2 3, Cond.initialized RX2, Cond.fieldLink RX3 36 "FundMoves" "presentDay" "I", Cond.methodLink RX3 66 yX3_priceRowOf, Cond.instanceMethod yX3_priceRowOf, Cond.selects RX3 yX3_priceRowOf yX3_priceRowOf, Cond.code yX3_priceRowOf cX3_priceRowOf 3 (some (.object "FundMoves$PriceRow")), Cond.fieldLink RX3 11 "FundMoves" "priceRows" "[LFundMoves$PriceRow;", Cond.methodLink RX3 220 yX3_isProvider]
def wsL_begin_r2 : List Cond := [Cond.static yX3_isProvider, Cond.code yX3_isProvider cX3_isProvider 1 (some .boolean), Cond.methodLink RX3 50 yX3_isOutside, Cond.static yX3_isOutside, Cond.code yX3_isOutside cX3_isOutside 3 (some .boolean), Cond.methodLink RX3 74 yX1_valueOn, Cond.instanceMethod yX1_valueOn, Cond.selects RX1 yX1_valueOn yX1_valueOn, Cond.initialized RX1, Cond.code yX1_valueOn cX1_valueOn 3 (some .int), Cond.fieldLink RX1 18 "FundMoves$PriceRow" "latest" "I", Cond.fieldLink RX1 9 "FundMoves$PriceRow" "firstDays" "[I", Cond.fieldLink RX1 15 "FundMoves$PriceRow" "values" "[I", Cond.methodLink RX3 91 yX3_thousandthsFor, Cond.static yX3_thousandthsFor, Cond.code yX3_thousandthsFor cX3_thousandthsFor 3 (some .long), Cond.constantLong RX3 218 (1000), Cond.methodLink RX3 95 yX2_init, Cond.instanceMethod yX2_init, Cond.code yX2_init cX2_init 4 none, Cond.methodLink RX2 1 objectInit, Cond.instanceMethod objectInit, Cond.code objectInit ⟨#[0xb1]⟩ 1 none, Cond.fieldLink RX2 7 "FundMoves$Saver" "isMoving" "Z"]
def wsL_begin_r3 : List Cond := [Cond.fieldLink RX2 13 "FundMoves$Saver" "holder" "I", Cond.fieldLink RX2 17 "FundMoves$Saver" "thousandths" "J"]
def wsL_begin : List Cond := .codeWith yL_begin cL_begin 5 (some .int) [(0, 10, 13, 13), (0, 10, 17, 15)] :: ((wsL_begin_r1 ++ (wsL_begin_r2 ++ wsL_begin_r3)) ++ wsX30 ++ wsX20 ++ wsX10 ++ (vx_atS RX3 58 "java/lang/IllegalArgumentException" ["java/lang/RuntimeException", "java/lang/Exception"]).filter goodWord ++ (vx_atS RX3 65 "java/lang/IllegalStateException" ["java/lang/RuntimeException", "java/lang/Exception"]).filter goodWord)
def wsL_pay_r1 : List Cond := [Cond.classLink RL 33 "java/lang/IndexOutOfBoundsException", Cond.classLink RL 13 "java/lang/IllegalArgumentException", Cond.classLink RL 15 "java/lang/IllegalStateException", Cond.methodLink RL 30 yX3_pay, Cond.instanceMethod yX3_pay, Cond.selects RX3 yX3_pay yX3_pay, Cond.initialized RX3, Cond.code yX3_pay cX3_pay 6 (some .int), Cond.classLink RX3 54 "java/lang/IllegalArgumentException", Cond.initialized "java/lang/IllegalArgumentException", Cond.classLink RX3 61 "java/lang/IllegalStateException", Cond.initialized "java/lang/IllegalStateException", Cond.constant RX3 86 (1000000), Cond.methodLink RX3 98 yX3_saverAt, Cond.instanceMethod yX3_saverAt, Cond.selects RX3 yX3_saverAt yX3_saverAt, Cond.code yX3_saverAt cX3_saverAt 3 (some (.object "FundMoves$Saver")), Cond.classLink RX3 232 "java/lang/IndexOutOfBoundsException", Cond.initialized "java/lang/IndexOutOfBoundsException", Cond.fieldLink RX3 26 "FundMoves" "savers" "[LFundMoves$Saver;", Cond.methodLink RX3 50 yX3_isOutside, Cond.static yX3_isOutside, Cond.code yX3_isOutside cX3_isOutside 3 (some .boolean), Cond.methodLink RX3 111 yX3_priceNow]
def wsL_pay_r2 : List Cond := [Cond.instanceMethod yX3_priceNow, Cond.selects RX3 yX3_priceNow yX3_priceNow, Cond.code yX3_priceNow cX3_priceNow 2 (some .int), Cond.fieldLink RX3 36 "FundMoves" "presentDay" "I", Cond.methodLink RX3 66 yX3_priceRowOf, Cond.instanceMethod yX3_priceRowOf, Cond.selects RX3 yX3_priceRowOf yX3_priceRowOf, Cond.code yX3_priceRowOf cX3_priceRowOf 3 (some (.object "FundMoves$PriceRow")), Cond.fieldLink RX3 11 "FundMoves" "priceRows" "[LFundMoves$PriceRow;", Cond.methodLink RX3 220 yX3_isProvider, Cond.static yX3_isProvider, Cond.code yX3_isProvider cX3_isProvider 1 (some .boolean), Cond.methodLink RX3 74 yX1_valueOn, Cond.instanceMethod yX1_valueOn, Cond.selects RX1 yX1_valueOn yX1_valueOn, Cond.initialized RX1, Cond.code yX1_valueOn cX1_valueOn 3 (some .int), Cond.fieldLink RX1 18 "FundMoves$PriceRow" "latest" "I", Cond.fieldLink RX1 9 "FundMoves$PriceRow" "firstDays" "[I", Cond.fieldLink RX1 15 "FundMoves$PriceRow" "values" "[I", Cond.methodLink RX3 91 yX3_thousandthsFor, Cond.static yX3_thousandthsFor, Cond.code yX3_thousandthsFor cX3_thousandthsFor 3 (some .long), Cond.constantLong RX3 218 (1000)]
def wsL_pay_r3 : List Cond := [Cond.methodLink RX3 118 yX3_checkHolding, Cond.static yX3_checkHolding, Cond.code yX3_checkHolding cX3_checkHolding 2 none, Cond.constantLong RX3 228 (100000000)]
def wsL_pay : List Cond := .codeWith yL_pay cL_pay 5 (some .int) [(0, 10, 13, 33), (0, 10, 17, 13), (0, 10, 21, 15)] :: ((wsL_pay_r1 ++ (wsL_pay_r2 ++ wsL_pay_r3)) ++ wsX20 ++ wsX30 ++ wsX10 ++ (vx_atS RX3 58 "java/lang/IllegalArgumentException" ["java/lang/RuntimeException", "java/lang/Exception"]).filter goodWord ++ (vx_atS RX3 65 "java/lang/IllegalStateException" ["java/lang/RuntimeException", "java/lang/Exception"]).filter goodWord ++ (vx_atS RX3 236 "java/lang/IndexOutOfBoundsException" ["java/lang/RuntimeException", "java/lang/Exception"]).filter goodWord)
def wsL_units : List Cond := .codeWith yL_units cL_units 4 (some .int) [(0, 8, 11, 33)] :: ([.classLink RL 33 "java/lang/IndexOutOfBoundsException", .methodLink RL 35 yX3_units, .instanceMethod yX3_units, .selects RX3 yX3_units yX3_units, .initialized RX3, .code yX3_units cX3_units 2 (some .long), .methodLink RX3 98 yX3_saverAt, .instanceMethod yX3_saverAt, .selects RX3 yX3_saverAt yX3_saverAt, .code yX3_saverAt cX3_saverAt 3 (some (.object "FundMoves$Saver")), .classLink RX3 232 "java/lang/IndexOutOfBoundsException", .initialized "java/lang/IndexOutOfBoundsException", .fieldLink RX3 26 "FundMoves" "savers" "[LFundMoves$Saver;", .methodLink RX3 50 yX3_isOutside, .static yX3_isOutside, .code yX3_isOutside cX3_isOutside 3 (some .boolean)] ++ wsX20 ++ wsX30 ++ (vx_atS RX3 236 "java/lang/IndexOutOfBoundsException" ["java/lang/RuntimeException", "java/lang/Exception"]).filter goodWord)
def wsL_provider : List Cond := .codeWith yL_provider cL_provider 4 (some .int) [(0, 9, 12, 33)] :: ([.classLink RL 33 "java/lang/IndexOutOfBoundsException", .methodLink RL 39 yX3_provider, .instanceMethod yX3_provider, .selects RX3 yX3_provider yX3_provider, .initialized RX3, .code yX3_provider cX3_provider 2 (some .int), .methodLink RX3 98 yX3_saverAt, .instanceMethod yX3_saverAt, .selects RX3 yX3_saverAt yX3_saverAt, .code yX3_saverAt cX3_saverAt 3 (some (.object "FundMoves$Saver")), .classLink RX3 232 "java/lang/IndexOutOfBoundsException", .initialized "java/lang/IndexOutOfBoundsException", .fieldLink RX3 26 "FundMoves" "savers" "[LFundMoves$Saver;", .methodLink RX3 50 yX3_isOutside, .static yX3_isOutside, .code yX3_isOutside cX3_isOutside 3 (some .boolean)] ++ wsX20 ++ wsX30 ++ (vx_atS RX3 236 "java/lang/IndexOutOfBoundsException" ["java/lang/RuntimeException", "java/lang/Exception"]).filter goodWord)
def wsL_order_r1 : List Cond := [Cond.classLink RL 33 "java/lang/IndexOutOfBoundsException", Cond.classLink RL 13 "java/lang/IllegalArgumentException", Cond.classLink RL 15 "java/lang/IllegalStateException", Cond.methodLink RL 42 yX3_order, Cond.instanceMethod yX3_order, Cond.selects RX3 yX3_order yX3_order, Cond.initialized RX3, Cond.code yX3_order cX3_order 5 (some .int), Cond.classLink RX3 54 "java/lang/IllegalArgumentException", Cond.initialized "java/lang/IllegalArgumentException", Cond.classLink RX3 61 "java/lang/IllegalStateException", Cond.initialized "java/lang/IllegalStateException", Cond.fieldLink RX3 46 "FundMoves" "orderCount" "I", Cond.fieldLink RX3 32 "FundMoves" "orders" "[LFundMoves$Order;", Cond.classLink RX3 30 RX0, Cond.instantiable RX0 10, Cond.initialized RX0, Cond.fieldLink RX3 36 "FundMoves" "presentDay" "I", Cond.methodLink RX3 98 yX3_saverAt, Cond.instanceMethod yX3_saverAt, Cond.selects RX3 yX3_saverAt yX3_saverAt, Cond.code yX3_saverAt cX3_saverAt 3 (some (.object "FundMoves$Saver")), Cond.classLink RX3 232 "java/lang/IndexOutOfBoundsException", Cond.initialized "java/lang/IndexOutOfBoundsException"]
def wsL_order_r2 : List Cond := [Cond.fieldLink RX3 26 "FundMoves" "savers" "[LFundMoves$Saver;", Cond.methodLink RX3 50 yX3_isOutside, Cond.static yX3_isOutside, Cond.code yX3_isOutside cX3_isOutside 3 (some .boolean), Cond.methodLink RX3 122 yX3_checkProvider, Cond.static yX3_checkProvider, Cond.code yX3_checkProvider cX3_checkProvider 1 none, Cond.methodLink RX3 220 yX3_isProvider, Cond.static yX3_isProvider, Cond.code yX3_isProvider cX3_isProvider 1 (some .boolean), Cond.methodLink RX3 129 yX0_init, Cond.instanceMethod yX0_init, Cond.code yX0_init cX0_init 4 none, Cond.methodLink RX0 3 objectInit, Cond.instanceMethod objectInit, Cond.code objectInit ⟨#[0xb1]⟩ 1 none, Cond.fieldLink RX0 9 "FundMoves$Order" "nextStep" "I", Cond.fieldLink RX0 15 "FundMoves$Order" "lateOfOld" "I", Cond.fieldLink RX0 18 "FundMoves$Order" "lateOfNew" "I", Cond.fieldLink RX0 21 "FundMoves$Order" "sold" "J", Cond.fieldLink RX0 25 "FundMoves$Order" "proceeds" "J", Cond.fieldLink RX0 28 "FundMoves$Order" "replaced" "J", Cond.fieldLink RX0 31 "FundMoves$Order" "mover" "LFundMoves$Saver;", Cond.fieldLink RX0 40 "FundMoves$Order" "from" "I"]
def wsL_order_r3 : List Cond := [Cond.fieldLink RX0 43 "FundMoves$Order" "to" "I", Cond.fieldLink RX0 46 "FundMoves$Order" "lastStepDay" "I"]
def wsL_order : List Cond := .codeWith yL_order cL_order 5 (some .int) [(0, 10, 13, 33), (0, 10, 17, 13), (0, 10, 21, 15)] :: ((wsL_order_r1 ++ (wsL_order_r2 ++ wsL_order_r3)) ++ wsX20 ++ wsX30 ++ wsX00 ++ (vx_atS RX3 58 "java/lang/IllegalArgumentException" ["java/lang/RuntimeException", "java/lang/Exception"]).filter goodWord ++ (vx_atS RX3 65 "java/lang/IllegalStateException" ["java/lang/RuntimeException", "java/lang/Exception"]).filter goodWord ++ (vx_atS RX3 236 "java/lang/IndexOutOfBoundsException" ["java/lang/RuntimeException", "java/lang/Exception"]).filter goodWord)
def wsL_step_r1 : List Cond := [Cond.classLink RL 33 "java/lang/IndexOutOfBoundsException", Cond.classLink RL 15 "java/lang/IllegalStateException", Cond.methodLink RL 45 yX3_step, Cond.instanceMethod yX3_step, Cond.selects RX3 yX3_step yX3_step, Cond.initialized RX3, Cond.code yX3_step cX3_step 2 (some .int), Cond.methodLink RX3 132 yX3_openOrderAt, Cond.instanceMethod yX3_openOrderAt, Cond.selects RX3 yX3_openOrderAt yX3_openOrderAt, Cond.code yX3_openOrderAt cX3_openOrderAt 3 (some (.object "FundMoves$Order")), Cond.classLink RX3 61 "java/lang/IllegalStateException", Cond.initialized "java/lang/IllegalStateException", Cond.methodLink RX3 145 yX3_orderAt, Cond.instanceMethod yX3_orderAt, Cond.selects RX3 yX3_orderAt yX3_orderAt, Cond.code yX3_orderAt cX3_orderAt 3 (some (.object "FundMoves$Order")), Cond.classLink RX3 232 "java/lang/IndexOutOfBoundsException", Cond.initialized "java/lang/IndexOutOfBoundsException", Cond.fieldLink RX3 32 "FundMoves" "orders" "[LFundMoves$Order;", Cond.methodLink RX3 50 yX3_isOutside, Cond.static yX3_isOutside, Cond.code yX3_isOutside cX3_isOutside 3 (some .boolean), Cond.methodLink RX3 136 yX3_doNextStep]
def wsL_step_r2 : List Cond := [Cond.instanceMethod yX3_doNextStep, Cond.selects RX3 yX3_doNextStep yX3_doNextStep, Cond.code yX3_doNextStep cX3_doNextStep 4 (some .int), Cond.fieldLink RX3 36 "FundMoves" "presentDay" "I", Cond.methodLink RX3 140 yX0_latenessOn, Cond.instanceMethod yX0_latenessOn, Cond.selects RX0 yX0_latenessOn yX0_latenessOn, Cond.initialized RX0, Cond.code yX0_latenessOn cX0_latenessOn 2 (some .int), Cond.methodLink RX0 53 Lib.Math.max.name, Cond.static Lib.Math.max.name, Cond.initialized "java/lang/Math", Cond.code Lib.Math.max.name Lib.Math.max.code 2 (some .int), Cond.methodLink RX0 49 yX0_dueDay, Cond.instanceMethod yX0_dueDay, Cond.selects RX0 yX0_dueDay yX0_dueDay, Cond.code yX0_dueDay cX0_dueDay 1 (some .int), Cond.fieldLink RX0 9 "FundMoves$Order" "nextStep" "I", Cond.fieldLink RX0 46 "FundMoves$Order" "lastStepDay" "I", Cond.methodLink RX3 167 yX3_sell, Cond.instanceMethod yX3_sell, Cond.selects RX3 yX3_sell yX3_sell, Cond.code yX3_sell cX3_sell 3 none, Cond.fieldLink RX3 40 "FundMoves" "defaultPrice" "I"]
def wsL_step_r3 : List Cond := [Cond.methodLink RX3 111 yX3_priceNow, Cond.instanceMethod yX3_priceNow, Cond.selects RX3 yX3_priceNow yX3_priceNow, Cond.code yX3_priceNow cX3_priceNow 2 (some .int), Cond.methodLink RX3 66 yX3_priceRowOf, Cond.instanceMethod yX3_priceRowOf, Cond.selects RX3 yX3_priceRowOf yX3_priceRowOf, Cond.code yX3_priceRowOf cX3_priceRowOf 3 (some (.object "FundMoves$PriceRow")), Cond.classLink RX3 54 "java/lang/IllegalArgumentException", Cond.initialized "java/lang/IllegalArgumentException", Cond.fieldLink RX3 11 "FundMoves" "priceRows" "[LFundMoves$PriceRow;", Cond.methodLink RX3 220 yX3_isProvider, Cond.static yX3_isProvider, Cond.code yX3_isProvider cX3_isProvider 1 (some .boolean), Cond.methodLink RX3 74 yX1_valueOn, Cond.instanceMethod yX1_valueOn, Cond.selects RX1 yX1_valueOn yX1_valueOn, Cond.initialized RX1, Cond.code yX1_valueOn cX1_valueOn 3 (some .int), Cond.fieldLink RX1 18 "FundMoves$PriceRow" "latest" "I", Cond.fieldLink RX1 9 "FundMoves$PriceRow" "firstDays" "[I", Cond.fieldLink RX1 15 "FundMoves$PriceRow" "values" "[I", Cond.methodLink RX3 189 yX3_moneyFor, Cond.static yX3_moneyFor]
def wsL_step_r4 : List Cond := [Cond.code yX3_moneyFor cX3_moneyFor 3 (some .long), Cond.constantLong RX3 218 (1000), Cond.methodLink RX3 171 yX3_buy, Cond.instanceMethod yX3_buy, Cond.selects RX3 yX3_buy yX3_buy, Cond.code yX3_buy cX3_buy 10 none, Cond.methodLink RX3 199 Lib.MathLoose.max_long.x, Cond.static Lib.MathLoose.max_long.x, Cond.code Lib.MathLoose.max_long.x Lib.MathLoose.max_long.code 4 (some .long), Cond.methodLink RX3 91 yX3_thousandthsFor, Cond.static yX3_thousandthsFor, Cond.code yX3_thousandthsFor cX3_thousandthsFor 3 (some .long), Cond.methodLink RX3 195 yX3_timelyThousandths, Cond.instanceMethod yX3_timelyThousandths, Cond.selects RX3 yX3_timelyThousandths yX3_timelyThousandths, Cond.code yX3_timelyThousandths cX3_timelyThousandths 7 (some .long), Cond.methodLink RX3 118 yX3_checkHolding, Cond.static yX3_checkHolding, Cond.code yX3_checkHolding cX3_checkHolding 2 none, Cond.constantLong RX3 228 (100000000), Cond.methodLink RX3 205 yX3_costOf, Cond.static yX3_costOf, Cond.code yX3_costOf cX3_costOf 3 (some .long), Cond.methodLink RX3 208 yX3_shareCost]
def wsL_step_r5 : List Cond := [Cond.instanceMethod yX3_shareCost, Cond.selects RX3 yX3_shareCost yX3_shareCost, Cond.code yX3_shareCost cX3_shareCost 7 none, Cond.fieldLink RX3 17 "FundMoves" "debts" "[[J", Cond.fieldLink RX3 20 "FundMoves" "ownLosses" "[J", Cond.methodLink RX3 212 yX2_arrive, Cond.instanceMethod yX2_arrive, Cond.selects RX2 yX2_arrive yX2_arrive, Cond.initialized RX2, Cond.code yX2_arrive cX2_arrive 4 none, Cond.fieldLink RX2 13 "FundMoves$Saver" "holder" "I", Cond.fieldLink RX2 17 "FundMoves$Saver" "thousandths" "J", Cond.fieldLink RX2 7 "FundMoves$Saver" "isMoving" "Z", Cond.methodLink RX3 175 yX0_goOn, Cond.instanceMethod yX0_goOn, Cond.selects RX0 yX0_goOn yX0_goOn, Cond.code yX0_goOn cX0_goOn 3 none, Cond.fieldLink RX0 18 "FundMoves$Order" "lateOfNew" "I", Cond.fieldLink RX0 15 "FundMoves$Order" "lateOfOld" "I"]
def wsL_step : List Cond := .codeWith yL_step cL_step 4 (some .int) [(0, 9, 12, 33), (0, 9, 15, 15)] :: ((wsL_step_r1 ++ (wsL_step_r2 ++ (wsL_step_r3 ++ (wsL_step_r4 ++ wsL_step_r5)))) ++ wsX00 ++ wsX30 ++ wsX20 ++ wsX10 ++ (vx_atS RX3 65 "java/lang/IllegalStateException" ["java/lang/RuntimeException", "java/lang/Exception"]).filter goodWord ++ (vx_atS RX3 236 "java/lang/IndexOutOfBoundsException" ["java/lang/RuntimeException", "java/lang/Exception"]).filter goodWord ++ (vx_atS RX3 58 "java/lang/IllegalArgumentException" ["java/lang/RuntimeException", "java/lang/Exception"]).filter goodWord)
def wsL_force_r1 : List Cond := [Cond.classLink RL 33 "java/lang/IndexOutOfBoundsException", Cond.classLink RL 15 "java/lang/IllegalStateException", Cond.methodLink RL 48 yX3_force, Cond.instanceMethod yX3_force, Cond.selects RX3 yX3_force yX3_force, Cond.initialized RX3, Cond.code yX3_force cX3_force 3 (some .int), Cond.classLink RX3 61 "java/lang/IllegalStateException", Cond.initialized "java/lang/IllegalStateException", Cond.fieldLink RX3 36 "FundMoves" "presentDay" "I", Cond.methodLink RX3 132 yX3_openOrderAt, Cond.instanceMethod yX3_openOrderAt, Cond.selects RX3 yX3_openOrderAt yX3_openOrderAt, Cond.code yX3_openOrderAt cX3_openOrderAt 3 (some (.object "FundMoves$Order")), Cond.methodLink RX3 145 yX3_orderAt, Cond.instanceMethod yX3_orderAt, Cond.selects RX3 yX3_orderAt yX3_orderAt, Cond.code yX3_orderAt cX3_orderAt 3 (some (.object "FundMoves$Order")), Cond.classLink RX3 232 "java/lang/IndexOutOfBoundsException", Cond.initialized "java/lang/IndexOutOfBoundsException", Cond.fieldLink RX3 32 "FundMoves" "orders" "[LFundMoves$Order;", Cond.methodLink RX3 50 yX3_isOutside, Cond.static yX3_isOutside, Cond.code yX3_isOutside cX3_isOutside 3 (some .boolean)]
def wsL_force_r2 : List Cond := [Cond.methodLink RX3 140 yX0_latenessOn, Cond.instanceMethod yX0_latenessOn, Cond.selects RX0 yX0_latenessOn yX0_latenessOn, Cond.initialized RX0, Cond.code yX0_latenessOn cX0_latenessOn 2 (some .int), Cond.methodLink RX0 53 Lib.Math.max.name, Cond.static Lib.Math.max.name, Cond.initialized "java/lang/Math", Cond.code Lib.Math.max.name Lib.Math.max.code 2 (some .int), Cond.methodLink RX0 49 yX0_dueDay, Cond.instanceMethod yX0_dueDay, Cond.selects RX0 yX0_dueDay yX0_dueDay, Cond.code yX0_dueDay cX0_dueDay 1 (some .int), Cond.fieldLink RX0 9 "FundMoves$Order" "nextStep" "I", Cond.fieldLink RX0 46 "FundMoves$Order" "lastStepDay" "I", Cond.methodLink RX3 136 yX3_doNextStep, Cond.instanceMethod yX3_doNextStep, Cond.selects RX3 yX3_doNextStep yX3_doNextStep, Cond.code yX3_doNextStep cX3_doNextStep 4 (some .int), Cond.methodLink RX3 167 yX3_sell, Cond.instanceMethod yX3_sell, Cond.selects RX3 yX3_sell yX3_sell, Cond.code yX3_sell cX3_sell 3 none, Cond.fieldLink RX3 40 "FundMoves" "defaultPrice" "I"]
def wsL_force_r3 : List Cond := [Cond.methodLink RX3 111 yX3_priceNow, Cond.instanceMethod yX3_priceNow, Cond.selects RX3 yX3_priceNow yX3_priceNow, Cond.code yX3_priceNow cX3_priceNow 2 (some .int), Cond.methodLink RX3 66 yX3_priceRowOf, Cond.instanceMethod yX3_priceRowOf, Cond.selects RX3 yX3_priceRowOf yX3_priceRowOf, Cond.code yX3_priceRowOf cX3_priceRowOf 3 (some (.object "FundMoves$PriceRow")), Cond.classLink RX3 54 "java/lang/IllegalArgumentException", Cond.initialized "java/lang/IllegalArgumentException", Cond.fieldLink RX3 11 "FundMoves" "priceRows" "[LFundMoves$PriceRow;", Cond.methodLink RX3 220 yX3_isProvider, Cond.static yX3_isProvider, Cond.code yX3_isProvider cX3_isProvider 1 (some .boolean), Cond.methodLink RX3 74 yX1_valueOn, Cond.instanceMethod yX1_valueOn, Cond.selects RX1 yX1_valueOn yX1_valueOn, Cond.initialized RX1, Cond.code yX1_valueOn cX1_valueOn 3 (some .int), Cond.fieldLink RX1 18 "FundMoves$PriceRow" "latest" "I", Cond.fieldLink RX1 9 "FundMoves$PriceRow" "firstDays" "[I", Cond.fieldLink RX1 15 "FundMoves$PriceRow" "values" "[I", Cond.methodLink RX3 189 yX3_moneyFor, Cond.static yX3_moneyFor]
def wsL_force_r4 : List Cond := [Cond.code yX3_moneyFor cX3_moneyFor 3 (some .long), Cond.constantLong RX3 218 (1000), Cond.methodLink RX3 171 yX3_buy, Cond.instanceMethod yX3_buy, Cond.selects RX3 yX3_buy yX3_buy, Cond.code yX3_buy cX3_buy 10 none, Cond.methodLink RX3 199 Lib.MathLoose.max_long.x, Cond.static Lib.MathLoose.max_long.x, Cond.code Lib.MathLoose.max_long.x Lib.MathLoose.max_long.code 4 (some .long), Cond.methodLink RX3 91 yX3_thousandthsFor, Cond.static yX3_thousandthsFor, Cond.code yX3_thousandthsFor cX3_thousandthsFor 3 (some .long), Cond.methodLink RX3 195 yX3_timelyThousandths, Cond.instanceMethod yX3_timelyThousandths, Cond.selects RX3 yX3_timelyThousandths yX3_timelyThousandths, Cond.code yX3_timelyThousandths cX3_timelyThousandths 7 (some .long), Cond.methodLink RX3 118 yX3_checkHolding, Cond.static yX3_checkHolding, Cond.code yX3_checkHolding cX3_checkHolding 2 none, Cond.constantLong RX3 228 (100000000), Cond.methodLink RX3 205 yX3_costOf, Cond.static yX3_costOf, Cond.code yX3_costOf cX3_costOf 3 (some .long), Cond.methodLink RX3 208 yX3_shareCost]
def wsL_force_r5 : List Cond := [Cond.instanceMethod yX3_shareCost, Cond.selects RX3 yX3_shareCost yX3_shareCost, Cond.code yX3_shareCost cX3_shareCost 7 none, Cond.fieldLink RX3 17 "FundMoves" "debts" "[[J", Cond.fieldLink RX3 20 "FundMoves" "ownLosses" "[J", Cond.methodLink RX3 212 yX2_arrive, Cond.instanceMethod yX2_arrive, Cond.selects RX2 yX2_arrive yX2_arrive, Cond.initialized RX2, Cond.code yX2_arrive cX2_arrive 4 none, Cond.fieldLink RX2 13 "FundMoves$Saver" "holder" "I", Cond.fieldLink RX2 17 "FundMoves$Saver" "thousandths" "J", Cond.fieldLink RX2 7 "FundMoves$Saver" "isMoving" "Z", Cond.methodLink RX3 175 yX0_goOn, Cond.instanceMethod yX0_goOn, Cond.selects RX0 yX0_goOn yX0_goOn, Cond.code yX0_goOn cX0_goOn 3 none, Cond.fieldLink RX0 18 "FundMoves$Order" "lateOfNew" "I", Cond.fieldLink RX0 15 "FundMoves$Order" "lateOfOld" "I"]
def wsL_force : List Cond := .codeWith yL_force cL_force 4 (some .int) [(0, 9, 12, 33), (0, 9, 15, 15)] :: ((wsL_force_r1 ++ (wsL_force_r2 ++ (wsL_force_r3 ++ (wsL_force_r4 ++ wsL_force_r5)))) ++ wsX30 ++ wsX00 ++ wsX20 ++ wsX10 ++ (vx_atS RX3 65 "java/lang/IllegalStateException" ["java/lang/RuntimeException", "java/lang/Exception"]).filter goodWord ++ (vx_atS RX3 236 "java/lang/IndexOutOfBoundsException" ["java/lang/RuntimeException", "java/lang/Exception"]).filter goodWord ++ (vx_atS RX3 58 "java/lang/IllegalArgumentException" ["java/lang/RuntimeException", "java/lang/Exception"]).filter goodWord)
def wsL_stage : List Cond := .codeWith yL_stage cL_stage 4 (some .int) [(0, 9, 12, 33)] :: ([.classLink RL 33 "java/lang/IndexOutOfBoundsException", .methodLink RL 51 yX3_stage, .instanceMethod yX3_stage, .selects RX3 yX3_stage yX3_stage, .initialized RX3, .code yX3_stage cX3_stage 2 (some .int), .methodLink RX3 145 yX3_orderAt, .instanceMethod yX3_orderAt, .selects RX3 yX3_orderAt yX3_orderAt, .code yX3_orderAt cX3_orderAt 3 (some (.object "FundMoves$Order")), .classLink RX3 232 "java/lang/IndexOutOfBoundsException", .initialized "java/lang/IndexOutOfBoundsException", .fieldLink RX3 32 "FundMoves" "orders" "[LFundMoves$Order;", .methodLink RX3 50 yX3_isOutside, .static yX3_isOutside, .code yX3_isOutside cX3_isOutside 3 (some .boolean)] ++ wsX00 ++ wsX30 ++ (vx_atS RX3 236 "java/lang/IndexOutOfBoundsException" ["java/lang/RuntimeException", "java/lang/Exception"]).filter goodWord)
def wsL_due_r1 : List Cond := [Cond.classLink RL 33 "java/lang/IndexOutOfBoundsException", Cond.classLink RL 15 "java/lang/IllegalStateException", Cond.methodLink RL 54 yX3_due, Cond.instanceMethod yX3_due, Cond.selects RX3 yX3_due yX3_due, Cond.initialized RX3, Cond.code yX3_due cX3_due 2 (some .int), Cond.methodLink RX3 132 yX3_openOrderAt, Cond.instanceMethod yX3_openOrderAt, Cond.selects RX3 yX3_openOrderAt yX3_openOrderAt, Cond.code yX3_openOrderAt cX3_openOrderAt 3 (some (.object "FundMoves$Order")), Cond.classLink RX3 61 "java/lang/IllegalStateException", Cond.initialized "java/lang/IllegalStateException", Cond.methodLink RX3 145 yX3_orderAt, Cond.instanceMethod yX3_orderAt, Cond.selects RX3 yX3_orderAt yX3_orderAt, Cond.code yX3_orderAt cX3_orderAt 3 (some (.object "FundMoves$Order")), Cond.classLink RX3 232 "java/lang/IndexOutOfBoundsException", Cond.initialized "java/lang/IndexOutOfBoundsException", Cond.fieldLink RX3 32 "FundMoves" "orders" "[LFundMoves$Order;", Cond.methodLink RX3 50 yX3_isOutside, Cond.static yX3_isOutside, Cond.code yX3_isOutside cX3_isOutside 3 (some .boolean), Cond.methodLink RX3 151 yX0_dueDay]
def wsL_due_r2 : List Cond := [Cond.instanceMethod yX0_dueDay, Cond.selects RX0 yX0_dueDay yX0_dueDay, Cond.initialized RX0, Cond.code yX0_dueDay cX0_dueDay 1 (some .int), Cond.fieldLink RX0 9 "FundMoves$Order" "nextStep" "I", Cond.fieldLink RX0 46 "FundMoves$Order" "lastStepDay" "I"]
def wsL_due : List Cond := .codeWith yL_due cL_due 4 (some .int) [(0, 9, 12, 33), (0, 9, 15, 15)] :: ((wsL_due_r1 ++ wsL_due_r2) ++ wsX00 ++ wsX30 ++ (vx_atS RX3 65 "java/lang/IllegalStateException" ["java/lang/RuntimeException", "java/lang/Exception"]).filter goodWord ++ (vx_atS RX3 236 "java/lang/IndexOutOfBoundsException" ["java/lang/RuntimeException", "java/lang/Exception"]).filter goodWord)
def wsL_late : List Cond := .codeWith yL_late cL_late 4 (some .int) [(0, 9, 12, 33)] :: ([.classLink RL 33 "java/lang/IndexOutOfBoundsException", .methodLink RL 57 yX3_late, .instanceMethod yX3_late, .selects RX3 yX3_late yX3_late, .initialized RX3, .code yX3_late cX3_late 3 (some .int), .methodLink RX3 145 yX3_orderAt, .instanceMethod yX3_orderAt, .selects RX3 yX3_orderAt yX3_orderAt, .code yX3_orderAt cX3_orderAt 3 (some (.object "FundMoves$Order")), .classLink RX3 232 "java/lang/IndexOutOfBoundsException", .initialized "java/lang/IndexOutOfBoundsException", .fieldLink RX3 32 "FundMoves" "orders" "[LFundMoves$Order;", .methodLink RX3 50 yX3_isOutside, .static yX3_isOutside, .code yX3_isOutside cX3_isOutside 3 (some .boolean)] ++ wsX00 ++ wsX30 ++ (vx_atS RX3 236 "java/lang/IndexOutOfBoundsException" ["java/lang/RuntimeException", "java/lang/Exception"]).filter goodWord)
def wsL_money : List Cond := .codeWith yL_money cL_money 4 (some .int) [(0, 8, 11, 33)] :: ([.classLink RL 33 "java/lang/IndexOutOfBoundsException", .methodLink RL 60 yX3_money, .instanceMethod yX3_money, .selects RX3 yX3_money yX3_money, .initialized RX3, .code yX3_money cX3_money 2 (some .long), .methodLink RX3 145 yX3_orderAt, .instanceMethod yX3_orderAt, .selects RX3 yX3_orderAt yX3_orderAt, .code yX3_orderAt cX3_orderAt 3 (some (.object "FundMoves$Order")), .classLink RX3 232 "java/lang/IndexOutOfBoundsException", .initialized "java/lang/IndexOutOfBoundsException", .fieldLink RX3 32 "FundMoves" "orders" "[LFundMoves$Order;", .methodLink RX3 50 yX3_isOutside, .static yX3_isOutside, .code yX3_isOutside cX3_isOutside 3 (some .boolean)] ++ wsX00 ++ wsX30 ++ (vx_atS RX3 236 "java/lang/IndexOutOfBoundsException" ["java/lang/RuntimeException", "java/lang/Exception"]).filter goodWord)
def wsL_madeGood : List Cond := .codeWith yL_madeGood cL_madeGood 4 (some .int) [(0, 8, 11, 33)] :: ([.classLink RL 33 "java/lang/IndexOutOfBoundsException", .methodLink RL 63 yX3_madeGood, .instanceMethod yX3_madeGood, .selects RX3 yX3_madeGood yX3_madeGood, .initialized RX3, .code yX3_madeGood cX3_madeGood 2 (some .long), .methodLink RX3 145 yX3_orderAt, .instanceMethod yX3_orderAt, .selects RX3 yX3_orderAt yX3_orderAt, .code yX3_orderAt cX3_orderAt 3 (some (.object "FundMoves$Order")), .classLink RX3 232 "java/lang/IndexOutOfBoundsException", .initialized "java/lang/IndexOutOfBoundsException", .fieldLink RX3 32 "FundMoves" "orders" "[LFundMoves$Order;", .methodLink RX3 50 yX3_isOutside, .static yX3_isOutside, .code yX3_isOutside cX3_isOutside 3 (some .boolean)] ++ wsX00 ++ wsX30 ++ (vx_atS RX3 236 "java/lang/IndexOutOfBoundsException" ["java/lang/RuntimeException", "java/lang/Exception"]).filter goodWord)
def wsL_owes : List Cond := .codeWith yL_owes cL_owes 5 (some .int) [(0, 9, 12, 13)] :: ([.classLink RL 13 "java/lang/IllegalArgumentException", .methodLink RL 66 yX3_owes, .instanceMethod yX3_owes, .selects RX3 yX3_owes yX3_owes, .initialized RX3, .code yX3_owes cX3_owes 3 (some .long), .fieldLink RX3 17 "FundMoves" "debts" "[[J", .methodLink RX3 122 yX3_checkProvider, .static yX3_checkProvider, .code yX3_checkProvider cX3_checkProvider 1 none, .classLink RX3 54 "java/lang/IllegalArgumentException", .initialized "java/lang/IllegalArgumentException", .methodLink RX3 220 yX3_isProvider, .static yX3_isProvider, .code yX3_isProvider cX3_isProvider 1 (some .boolean), .methodLink RX3 50 yX3_isOutside, .static yX3_isOutside, .code yX3_isOutside cX3_isOutside 3 (some .boolean)] ++ wsX30 ++ (vx_atS RX3 58 "java/lang/IllegalArgumentException" ["java/lang/RuntimeException", "java/lang/Exception"]).filter goodWord)
def wsL_losses : List Cond := .codeWith yL_losses cL_losses 4 (some .int) [(0, 8, 11, 13)] :: ([.classLink RL 13 "java/lang/IllegalArgumentException", .methodLink RL 70 yX3_losses, .instanceMethod yX3_losses, .selects RX3 yX3_losses yX3_losses, .initialized RX3, .code yX3_losses cX3_losses 2 (some .long), .fieldLink RX3 20 "FundMoves" "ownLosses" "[J", .methodLink RX3 122 yX3_checkProvider, .static yX3_checkProvider, .code yX3_checkProvider cX3_checkProvider 1 none, .classLink RX3 54 "java/lang/IllegalArgumentException", .initialized "java/lang/IllegalArgumentException", .methodLink RX3 220 yX3_isProvider, .static yX3_isProvider, .code yX3_isProvider cX3_isProvider 1 (some .boolean), .methodLink RX3 50 yX3_isOutside, .static yX3_isOutside, .code yX3_isOutside cX3_isOutside 3 (some .boolean)] ++ wsX30 ++ (vx_atS RX3 58 "java/lang/IllegalArgumentException" ["java/lang/RuntimeException", "java/lang/Exception"]).filter goodWord)
def wsL_law0_r1 : List Cond := [Cond.classLink RL 8 RX3, Cond.instantiable RX3 9, Cond.initialized RX3, Cond.classLink RL 74 RX4, Cond.instantiable RX4 23, Cond.initialized RX4, Cond.arrayClass .long, Cond.methodLink RL 73 yX3_init, Cond.instanceMethod yX3_init, Cond.code yX3_init cX3_init 2 none, Cond.methodLink RX3 1 objectInit, Cond.instanceMethod objectInit, Cond.code objectInit ⟨#[0xb1]⟩ 1 none, Cond.classLink RX3 9 RX1, Cond.fieldLink RX3 11 "FundMoves" "priceRows" "[LFundMoves$PriceRow;", Cond.classLink RX3 15 "[[J", Cond.fieldLink RX3 17 "FundMoves" "debts" "[[J", Cond.fieldLink RX3 20 "FundMoves" "ownLosses" "[J", Cond.classLink RX3 24 RX2, Cond.fieldLink RX3 26 "FundMoves" "savers" "[LFundMoves$Saver;", Cond.classLink RX3 30 RX0, Cond.fieldLink RX3 32 "FundMoves" "orders" "[LFundMoves$Order;", Cond.fieldLink RX3 36 "FundMoves" "presentDay" "I", Cond.fieldLink RX3 40 "FundMoves" "defaultPrice" "I"]
def wsL_law0_r2 : List Cond := [Cond.fieldLink RX3 43 "FundMoves" "saverCount" "I", Cond.fieldLink RX3 46 "FundMoves" "orderCount" "I", Cond.instantiable RX1 3, Cond.initialized RX1, Cond.methodLink RX3 49 yX1_init, Cond.instanceMethod yX1_init, Cond.code yX1_init cX1_init 1 none, Cond.methodLink RX1 3 objectInit, Cond.arrayClass .int, Cond.fieldLink RX1 9 "FundMoves$PriceRow" "firstDays" "[I", Cond.fieldLink RX1 15 "FundMoves$PriceRow" "values" "[I", Cond.fieldLink RX1 18 "FundMoves$PriceRow" "latest" "I", Cond.methodLink RL 76 yX4_init, Cond.instanceMethod yX4_init, Cond.code yX4_init cX4_init 2 none, Cond.methodLink RX4 1 objectInit, Cond.fieldLink RX4 7 "FundMovesModel" "prices" "[I", Cond.fieldLink RX4 13 "FundMovesModel" "many" "[I", Cond.fieldLink RX4 16 "FundMovesModel" "setOn" "[I", Cond.fieldLink RX4 19 "FundMovesModel" "standard" "I", Cond.fieldLink RX4 23 "FundMovesModel" "with" "[I", Cond.fieldLink RX4 26 "FundMovesModel" "units" "[J", Cond.arrayClass .boolean, Cond.fieldLink RX4 30 "FundMovesModel" "moves" "[Z"]
def wsL_law0_r3 : List Cond := [Cond.fieldLink RX4 34 "FundMovesModel" "saver" "[I", Cond.fieldLink RX4 37 "FundMovesModel" "to" "[I", Cond.fieldLink RX4 40 "FundMovesModel" "stage" "[I", Cond.fieldLink RX4 43 "FundMovesModel" "since" "[I", Cond.fieldLink RX4 46 "FundMovesModel" "saleDay" "[I", Cond.fieldLink RX4 49 "FundMovesModel" "oldLate" "[I", Cond.fieldLink RX4 52 "FundMovesModel" "allLate" "[I", Cond.fieldLink RX4 55 "FundMovesModel" "sold" "[J", Cond.fieldLink RX4 58 "FundMovesModel" "money" "[J", Cond.fieldLink RX4 61 "FundMovesModel" "madeGood" "[J", Cond.fieldLink RX4 64 "FundMovesModel" "debts" "[J", Cond.fieldLink RX4 67 "FundMovesModel" "losses" "[J", Cond.methodLink RL 77 yL_pass, Cond.static yL_pass, Cond.initialized RL, Cond.codeWith yL_pass cL_pass 4 (some .int) [(0, 9, 12, 13), (0, 9, 15, 15)], Cond.classLink RL 13 "java/lang/IllegalArgumentException", Cond.classLink RL 15 "java/lang/IllegalStateException", Cond.methodLink RL 7 yX3_pass, Cond.instanceMethod yX3_pass, Cond.selects RX3 yX3_pass yX3_pass, Cond.code yX3_pass cX3_pass 2 (some .int), Cond.classLink RX3 54 "java/lang/IllegalArgumentException", Cond.initialized "java/lang/IllegalArgumentException"]
def wsL_law0_r4 : List Cond := [Cond.classLink RX3 61 "java/lang/IllegalStateException", Cond.initialized "java/lang/IllegalStateException", Cond.methodLink RX3 50 yX3_isOutside, Cond.static yX3_isOutside, Cond.code yX3_isOutside cX3_isOutside 3 (some .boolean), Cond.methodLink RL 82 yX4_pass, Cond.instanceMethod yX4_pass, Cond.selects RX4 yX4_pass yX4_pass, Cond.code yX4_pass cX4_pass 4 (some .int), Cond.fieldLink RX4 83 "FundMovesModel" "today" "I", Cond.fieldLink RX4 70 "FundMovesModel" "thrown" "I", Cond.methodLink RX4 73 yX4_isIn, Cond.static yX4_isIn, Cond.code yX4_isIn cX4_isIn 3 (some .boolean), Cond.methodLink RL 83 yX4_thrown, Cond.instanceMethod yX4_thrown, Cond.selects RX4 yX4_thrown yX4_thrown, Cond.code yX4_thrown cX4_thrown 1 (some .int), Cond.methodLink RL 87 yX3_today, Cond.instanceMethod yX3_today, Cond.selects RX3 yX3_today yX3_today, Cond.code yX3_today cX3_today 1 (some .int), Cond.methodLink RL 90 yX4_today, Cond.instanceMethod yX4_today]
def wsL_law0_r5 : List Cond := [Cond.selects RX4 yX4_today yX4_today, Cond.code yX4_today cX4_today 1 (some .int), Cond.methodLink RL 91 yL_setPrice, Cond.static yL_setPrice, Cond.codeWith yL_setPrice cL_setPrice 5 (some .int) [(0, 10, 13, 13), (0, 10, 17, 15)], Cond.methodLink RL 17 yX3_setPrice, Cond.instanceMethod yX3_setPrice, Cond.selects RX3 yX3_setPrice yX3_setPrice, Cond.code yX3_setPrice cX3_setPrice 5 (some .int), Cond.methodLink RX3 66 yX3_priceRowOf, Cond.instanceMethod yX3_priceRowOf, Cond.selects RX3 yX3_priceRowOf yX3_priceRowOf, Cond.code yX3_priceRowOf cX3_priceRowOf 3 (some (.object "FundMoves$PriceRow")), Cond.methodLink RX3 220 yX3_isProvider, Cond.static yX3_isProvider, Cond.code yX3_isProvider cX3_isProvider 1 (some .boolean), Cond.methodLink RX3 70 yX3_checkPrice, Cond.static yX3_checkPrice, Cond.code yX3_checkPrice cX3_checkPrice 1 none, Cond.methodLink RX3 74 yX1_valueOn, Cond.instanceMethod yX1_valueOn, Cond.selects RX1 yX1_valueOn yX1_valueOn, Cond.code yX1_valueOn cX1_valueOn 3 (some .int), Cond.methodLink RX3 78 yX1_put]
def wsL_law0_r6 : List Cond := [Cond.instanceMethod yX1_put, Cond.selects RX1 yX1_put yX1_put, Cond.code yX1_put cX1_put 3 (some .boolean), Cond.methodLink RL 94 yX4_setPrice, Cond.instanceMethod yX4_setPrice, Cond.selects RX4 yX4_setPrice yX4_setPrice, Cond.code yX4_setPrice cX4_setPrice 4 (some .int), Cond.methodLink RX4 86 yX4_isProvider, Cond.static yX4_isProvider, Cond.code yX4_isProvider cX4_isProvider 1 (some .boolean), Cond.methodLink RX4 90 yX4_priceOf, Cond.instanceMethod yX4_priceOf, Cond.selects RX4 yX4_priceOf yX4_priceOf, Cond.code yX4_priceOf cX4_priceOf 3 (some .int), Cond.methodLink RL 95 yL_price, Cond.static yL_price, Cond.codeWith yL_price cL_price 5 (some .int) [(0, 10, 13, 13)], Cond.methodLink RL 21 yX3_price, Cond.instanceMethod yX3_price, Cond.selects RX3 yX3_price yX3_price, Cond.code yX3_price cX3_price 4 (some .int), Cond.methodLink RL 97 yX4_price, Cond.instanceMethod yX4_price, Cond.selects RX4 yX4_price yX4_price]
def wsL_law0_r7 : List Cond := [Cond.code yX4_price cX4_price 3 (some .int), Cond.methodLink RL 98 yL_setDefault, Cond.static yL_setDefault, Cond.codeWith yL_setDefault cL_setDefault 4 (some .int) [(0, 9, 12, 13)], Cond.methodLink RL 24 yX3_setDefault, Cond.instanceMethod yX3_setDefault, Cond.selects RX3 yX3_setDefault yX3_setDefault, Cond.code yX3_setDefault cX3_setDefault 3 (some .int), Cond.methodLink RL 100 yX4_setDefault, Cond.instanceMethod yX4_setDefault, Cond.selects RX4 yX4_setDefault yX4_setDefault, Cond.code yX4_setDefault cX4_setDefault 3 (some .int), Cond.methodLink RL 101 yL_begin, Cond.static yL_begin, Cond.codeWith yL_begin cL_begin 5 (some .int) [(0, 10, 13, 13), (0, 10, 17, 15)], Cond.methodLink RL 27 yX3_begin, Cond.instanceMethod yX3_begin, Cond.selects RX3 yX3_begin yX3_begin, Cond.code yX3_begin cX3_begin 5 (some .int), Cond.constant RX3 86 (1000000), Cond.instantiable RX2 3, Cond.initialized RX2, Cond.methodLink RX3 91 yX3_thousandthsFor, Cond.static yX3_thousandthsFor]
def wsL_law0_r8 : List Cond := [Cond.code yX3_thousandthsFor cX3_thousandthsFor 3 (some .long), Cond.constantLong RX3 218 (1000), Cond.methodLink RX3 95 yX2_init, Cond.instanceMethod yX2_init, Cond.code yX2_init cX2_init 4 none, Cond.methodLink RX2 1 objectInit, Cond.fieldLink RX2 7 "FundMoves$Saver" "isMoving" "Z", Cond.fieldLink RX2 13 "FundMoves$Saver" "holder" "I", Cond.fieldLink RX2 17 "FundMoves$Saver" "thousandths" "J", Cond.methodLink RL 103 yX4_begin, Cond.instanceMethod yX4_begin, Cond.selects RX4 yX4_begin yX4_begin, Cond.code yX4_begin cX4_begin 3 (some .int), Cond.constant RX4 96 (1000000), Cond.fieldLink RX4 77 "FundMovesModel" "savers" "I", Cond.methodLink RX4 97 yX4_unitsFor, Cond.static yX4_unitsFor, Cond.code yX4_unitsFor cX4_unitsFor 3 (some .long), Cond.constantLong RX4 94 (1000), Cond.methodLink RL 104 yL_pay, Cond.static yL_pay, Cond.codeWith yL_pay cL_pay 5 (some .int) [(0, 10, 13, 33), (0, 10, 17, 13), (0, 10, 21, 15)], Cond.classLink RL 33 "java/lang/IndexOutOfBoundsException", Cond.methodLink RL 30 yX3_pay]
def wsL_law0_r9 : List Cond := [Cond.instanceMethod yX3_pay, Cond.selects RX3 yX3_pay yX3_pay, Cond.code yX3_pay cX3_pay 6 (some .int), Cond.methodLink RX3 98 yX3_saverAt, Cond.instanceMethod yX3_saverAt, Cond.selects RX3 yX3_saverAt yX3_saverAt, Cond.code yX3_saverAt cX3_saverAt 3 (some (.object "FundMoves$Saver")), Cond.classLink RX3 232 "java/lang/IndexOutOfBoundsException", Cond.initialized "java/lang/IndexOutOfBoundsException", Cond.methodLink RX3 111 yX3_priceNow, Cond.instanceMethod yX3_priceNow, Cond.selects RX3 yX3_priceNow yX3_priceNow, Cond.code yX3_priceNow cX3_priceNow 2 (some .int), Cond.methodLink RX3 118 yX3_checkHolding, Cond.static yX3_checkHolding, Cond.code yX3_checkHolding cX3_checkHolding 2 none, Cond.constantLong RX3 228 (100000000), Cond.methodLink RL 106 yX4_pay, Cond.instanceMethod yX4_pay, Cond.selects RX4 yX4_pay yX4_pay, Cond.code yX4_pay cX4_pay 5 (some .int), Cond.constantLong RX4 104 (100000000), Cond.methodLink RX4 101 yX4_isSaver, Cond.instanceMethod yX4_isSaver]
def wsL_law0_r10 : List Cond := [Cond.selects RX4 yX4_isSaver yX4_isSaver, Cond.code yX4_isSaver cX4_isSaver 2 (some .boolean), Cond.methodLink RL 107 yL_units, Cond.static yL_units, Cond.codeWith yL_units cL_units 4 (some .int) [(0, 8, 11, 33)], Cond.methodLink RL 35 yX3_units, Cond.instanceMethod yX3_units, Cond.selects RX3 yX3_units yX3_units, Cond.code yX3_units cX3_units 2 (some .long), Cond.methodLink RL 109 yX4_units, Cond.instanceMethod yX4_units, Cond.selects RX4 yX4_units yX4_units, Cond.code yX4_units cX4_units 2 (some .long), Cond.methodLink RL 110 yL_provider, Cond.static yL_provider, Cond.codeWith yL_provider cL_provider 4 (some .int) [(0, 9, 12, 33)], Cond.methodLink RL 39 yX3_provider, Cond.instanceMethod yX3_provider, Cond.selects RX3 yX3_provider yX3_provider, Cond.code yX3_provider cX3_provider 2 (some .int), Cond.methodLink RL 112 yX4_provider, Cond.instanceMethod yX4_provider, Cond.selects RX4 yX4_provider yX4_provider, Cond.code yX4_provider cX4_provider 2 (some .int)]
def wsL_law0_r11 : List Cond := [Cond.methodLink RL 113 yL_order, Cond.static yL_order, Cond.codeWith yL_order cL_order 5 (some .int) [(0, 10, 13, 33), (0, 10, 17, 13), (0, 10, 21, 15)], Cond.methodLink RL 42 yX3_order, Cond.instanceMethod yX3_order, Cond.selects RX3 yX3_order yX3_order, Cond.code yX3_order cX3_order 5 (some .int), Cond.instantiable RX0 10, Cond.initialized RX0, Cond.methodLink RX3 122 yX3_checkProvider, Cond.static yX3_checkProvider, Cond.code yX3_checkProvider cX3_checkProvider 1 none, Cond.methodLink RX3 129 yX0_init, Cond.instanceMethod yX0_init, Cond.code yX0_init cX0_init 4 none, Cond.methodLink RX0 3 objectInit, Cond.fieldLink RX0 9 "FundMoves$Order" "nextStep" "I", Cond.fieldLink RX0 15 "FundMoves$Order" "lateOfOld" "I", Cond.fieldLink RX0 18 "FundMoves$Order" "lateOfNew" "I", Cond.fieldLink RX0 21 "FundMoves$Order" "sold" "J", Cond.fieldLink RX0 25 "FundMoves$Order" "proceeds" "J", Cond.fieldLink RX0 28 "FundMoves$Order" "replaced" "J", Cond.fieldLink RX0 31 "FundMoves$Order" "mover" "LFundMoves$Saver;", Cond.fieldLink RX0 40 "FundMoves$Order" "from" "I"]
def wsL_law0_r12 : List Cond := [Cond.fieldLink RX0 43 "FundMoves$Order" "to" "I", Cond.fieldLink RX0 46 "FundMoves$Order" "lastStepDay" "I", Cond.methodLink RL 115 yX4_order, Cond.instanceMethod yX4_order, Cond.selects RX4 yX4_order yX4_order, Cond.code yX4_order cX4_order 3 (some .int), Cond.fieldLink RX4 80 "FundMovesModel" "orders" "I", Cond.methodLink RL 116 yL_step, Cond.static yL_step, Cond.codeWith yL_step cL_step 4 (some .int) [(0, 9, 12, 33), (0, 9, 15, 15)], Cond.methodLink RL 45 yX3_step, Cond.instanceMethod yX3_step, Cond.selects RX3 yX3_step yX3_step, Cond.code yX3_step cX3_step 2 (some .int), Cond.methodLink RX3 132 yX3_openOrderAt, Cond.instanceMethod yX3_openOrderAt, Cond.selects RX3 yX3_openOrderAt yX3_openOrderAt, Cond.code yX3_openOrderAt cX3_openOrderAt 3 (some (.object "FundMoves$Order")), Cond.methodLink RX3 145 yX3_orderAt, Cond.instanceMethod yX3_orderAt, Cond.selects RX3 yX3_orderAt yX3_orderAt, Cond.code yX3_orderAt cX3_orderAt 3 (some (.object "FundMoves$Order")), Cond.methodLink RX3 136 yX3_doNextStep, Cond.instanceMethod yX3_doNextStep]
def wsL_law0_r13 : List Cond := [Cond.selects RX3 yX3_doNextStep yX3_doNextStep, Cond.code yX3_doNextStep cX3_doNextStep 4 (some .int), Cond.methodLink RX3 140 yX0_latenessOn, Cond.instanceMethod yX0_latenessOn, Cond.selects RX0 yX0_latenessOn yX0_latenessOn, Cond.code yX0_latenessOn cX0_latenessOn 2 (some .int), Cond.methodLink RX0 53 Lib.Math.max.name, Cond.static Lib.Math.max.name, Cond.initialized "java/lang/Math", Cond.code Lib.Math.max.name Lib.Math.max.code 2 (some .int), Cond.methodLink RX0 49 yX0_dueDay, Cond.instanceMethod yX0_dueDay, Cond.selects RX0 yX0_dueDay yX0_dueDay, Cond.code yX0_dueDay cX0_dueDay 1 (some .int), Cond.methodLink RX3 167 yX3_sell, Cond.instanceMethod yX3_sell, Cond.selects RX3 yX3_sell yX3_sell, Cond.code yX3_sell cX3_sell 3 none, Cond.methodLink RX3 189 yX3_moneyFor, Cond.static yX3_moneyFor, Cond.code yX3_moneyFor cX3_moneyFor 3 (some .long), Cond.methodLink RX3 171 yX3_buy, Cond.instanceMethod yX3_buy, Cond.selects RX3 yX3_buy yX3_buy]
def wsL_law0_r14 : List Cond := [Cond.code yX3_buy cX3_buy 10 none, Cond.methodLink RX3 199 Lib.MathLoose.max_long.x, Cond.static Lib.MathLoose.max_long.x, Cond.code Lib.MathLoose.max_long.x Lib.MathLoose.max_long.code 4 (some .long), Cond.methodLink RX3 195 yX3_timelyThousandths, Cond.instanceMethod yX3_timelyThousandths, Cond.selects RX3 yX3_timelyThousandths yX3_timelyThousandths, Cond.code yX3_timelyThousandths cX3_timelyThousandths 7 (some .long), Cond.methodLink RX3 205 yX3_costOf, Cond.static yX3_costOf, Cond.code yX3_costOf cX3_costOf 3 (some .long), Cond.methodLink RX3 208 yX3_shareCost, Cond.instanceMethod yX3_shareCost, Cond.selects RX3 yX3_shareCost yX3_shareCost, Cond.code yX3_shareCost cX3_shareCost 7 none, Cond.methodLink RX3 212 yX2_arrive, Cond.instanceMethod yX2_arrive, Cond.selects RX2 yX2_arrive yX2_arrive, Cond.code yX2_arrive cX2_arrive 4 none, Cond.methodLink RX3 175 yX0_goOn, Cond.instanceMethod yX0_goOn, Cond.selects RX0 yX0_goOn yX0_goOn, Cond.code yX0_goOn cX0_goOn 3 none, Cond.methodLink RL 118 yX4_step]
def wsL_law0_r15 : List Cond := [Cond.instanceMethod yX4_step, Cond.selects RX4 yX4_step yX4_step, Cond.code yX4_step cX4_step 2 (some .int), Cond.methodLink RX4 121 yX4_isOrder, Cond.instanceMethod yX4_isOrder, Cond.selects RX4 yX4_isOrder yX4_isOrder, Cond.code yX4_isOrder cX4_isOrder 2 (some .boolean), Cond.methodLink RX4 114 yX4_lateBy, Cond.instanceMethod yX4_lateBy, Cond.selects RX4 yX4_lateBy yX4_lateBy, Cond.code yX4_lateBy cX4_lateBy 2 (some .int), Cond.methodLink RX4 106 yX4_dueOf, Cond.instanceMethod yX4_dueOf, Cond.selects RX4 yX4_dueOf yX4_dueOf, Cond.code yX4_dueOf cX4_dueOf 2 (some .int), Cond.methodLink RX4 124 yX4_isTooMuch, Cond.instanceMethod yX4_isTooMuch, Cond.selects RX4 yX4_isTooMuch yX4_isTooMuch, Cond.code yX4_isTooMuch cX4_isTooMuch 4 (some .boolean), Cond.methodLink RX4 110 yX4_timely, Cond.instanceMethod yX4_timely, Cond.selects RX4 yX4_timely yX4_timely, Cond.code yX4_timely cX4_timely 7 (some .long), Cond.methodLink RX4 127 yX4_does]
def wsL_law0_r16 : List Cond := [Cond.instanceMethod yX4_does, Cond.selects RX4 yX4_does yX4_does, Cond.code yX4_does cX4_does 6 (some .int), Cond.methodLink RX4 117 yX4_buys, Cond.instanceMethod yX4_buys, Cond.selects RX4 yX4_buys yX4_buys, Cond.code yX4_buys cX4_buys 14 none, Cond.methodLink RL 119 yL_force, Cond.static yL_force, Cond.codeWith yL_force cL_force 4 (some .int) [(0, 9, 12, 33), (0, 9, 15, 15)], Cond.methodLink RL 48 yX3_force, Cond.instanceMethod yX3_force, Cond.selects RX3 yX3_force yX3_force, Cond.code yX3_force cX3_force 3 (some .int), Cond.methodLink RL 121 yX4_force, Cond.instanceMethod yX4_force, Cond.selects RX4 yX4_force yX4_force, Cond.code yX4_force cX4_force 2 (some .int), Cond.methodLink RL 122 yL_stage, Cond.static yL_stage, Cond.codeWith yL_stage cL_stage 4 (some .int) [(0, 9, 12, 33)], Cond.methodLink RL 51 yX3_stage, Cond.instanceMethod yX3_stage, Cond.selects RX3 yX3_stage yX3_stage]
def wsL_law0_r17 : List Cond := [Cond.code yX3_stage cX3_stage 2 (some .int), Cond.methodLink RL 124 yX4_stage, Cond.instanceMethod yX4_stage, Cond.selects RX4 yX4_stage yX4_stage, Cond.code yX4_stage cX4_stage 2 (some .int), Cond.methodLink RX4 131 yX4_asks, Cond.instanceMethod yX4_asks, Cond.selects RX4 yX4_asks yX4_asks, Cond.code yX4_asks cX4_asks 2 (some .boolean), Cond.methodLink RL 125 yL_due, Cond.static yL_due, Cond.codeWith yL_due cL_due 4 (some .int) [(0, 9, 12, 33), (0, 9, 15, 15)], Cond.methodLink RL 54 yX3_due, Cond.instanceMethod yX3_due, Cond.selects RX3 yX3_due yX3_due, Cond.code yX3_due cX3_due 2 (some .int), Cond.methodLink RX3 151 yX0_dueDay, Cond.methodLink RL 127 yX4_due, Cond.instanceMethod yX4_due, Cond.selects RX4 yX4_due yX4_due, Cond.code yX4_due cX4_due 2 (some .int), Cond.methodLink RL 128 yL_late, Cond.static yL_late, Cond.codeWith yL_late cL_late 4 (some .int) [(0, 9, 12, 33)]]
def wsL_law0_r18 : List Cond := [Cond.methodLink RL 57 yX3_late, Cond.instanceMethod yX3_late, Cond.selects RX3 yX3_late yX3_late, Cond.code yX3_late cX3_late 3 (some .int), Cond.methodLink RL 130 yX4_late, Cond.instanceMethod yX4_late, Cond.selects RX4 yX4_late yX4_late, Cond.code yX4_late cX4_late 2 (some .int), Cond.methodLink RL 131 yL_money, Cond.static yL_money, Cond.codeWith yL_money cL_money 4 (some .int) [(0, 8, 11, 33)], Cond.methodLink RL 60 yX3_money, Cond.instanceMethod yX3_money, Cond.selects RX3 yX3_money yX3_money, Cond.code yX3_money cX3_money 2 (some .long), Cond.methodLink RL 133 yX4_money, Cond.instanceMethod yX4_money, Cond.selects RX4 yX4_money yX4_money, Cond.code yX4_money cX4_money 2 (some .long), Cond.methodLink RL 134 yL_madeGood, Cond.static yL_madeGood, Cond.codeWith yL_madeGood cL_madeGood 4 (some .int) [(0, 8, 11, 33)], Cond.methodLink RL 63 yX3_madeGood, Cond.instanceMethod yX3_madeGood]
def wsL_law0_r19 : List Cond := [Cond.selects RX3 yX3_madeGood yX3_madeGood, Cond.code yX3_madeGood cX3_madeGood 2 (some .long), Cond.methodLink RL 136 yX4_madeGood, Cond.instanceMethod yX4_madeGood, Cond.selects RX4 yX4_madeGood yX4_madeGood, Cond.code yX4_madeGood cX4_madeGood 2 (some .long), Cond.methodLink RL 137 yL_owes, Cond.static yL_owes, Cond.codeWith yL_owes cL_owes 5 (some .int) [(0, 9, 12, 13)], Cond.methodLink RL 66 yX3_owes, Cond.instanceMethod yX3_owes, Cond.selects RX3 yX3_owes yX3_owes, Cond.code yX3_owes cX3_owes 3 (some .long), Cond.methodLink RL 139 yX4_owes, Cond.instanceMethod yX4_owes, Cond.selects RX4 yX4_owes yX4_owes, Cond.code yX4_owes cX4_owes 3 (some .long), Cond.methodLink RL 140 yL_losses, Cond.static yL_losses, Cond.codeWith yL_losses cL_losses 4 (some .int) [(0, 8, 11, 13)], Cond.methodLink RL 70 yX3_losses, Cond.instanceMethod yX3_losses, Cond.selects RX3 yX3_losses yX3_losses, Cond.code yX3_losses cX3_losses 2 (some .long)]
def wsL_law0_r20 : List Cond := [Cond.methodLink RL 142 yX4_losses, Cond.instanceMethod yX4_losses, Cond.selects RX4 yX4_losses yX4_losses, Cond.code yX4_losses cX4_losses 2 (some .long)]
def wsL_law0 : List Cond := (wsL_law0_r1 ++ (wsL_law0_r2 ++ (wsL_law0_r3 ++ (wsL_law0_r4 ++ (wsL_law0_r5 ++ (wsL_law0_r6 ++ (wsL_law0_r7 ++ (wsL_law0_r8 ++ (wsL_law0_r9 ++ (wsL_law0_r10 ++ (wsL_law0_r11 ++ (wsL_law0_r12 ++ (wsL_law0_r13 ++ (wsL_law0_r14 ++ (wsL_law0_r15 ++ (wsL_law0_r16 ++ (wsL_law0_r17 ++ (wsL_law0_r18 ++ (wsL_law0_r19 ++ wsL_law0_r20))))))))))))))))))) ++ wsX30 ++ wsX40 ++ wsX10 ++ wsX20 ++ wsX00 ++ ([] : List Cond)
def wsL_law : List Cond := wsL_law0 ++ (vx_atS RX3 58 "java/lang/IllegalArgumentException" ["java/lang/RuntimeException", "java/lang/Exception"]).filter goodWord ++ (vx_atS RX3 65 "java/lang/IllegalStateException" ["java/lang/RuntimeException", "java/lang/Exception"]).filter goodWord ++ (vx_atS RX3 236 "java/lang/IndexOutOfBoundsException" ["java/lang/RuntimeException", "java/lang/Exception"]).filter goodWord
abbrev vwCl : List vw_C := [(RX0, TX0, 10), (RX1, TX1, 3), (RX2, TX2, 3), (RX3, TX3, 9), (RX4, TX4, 23)]
end
section
theorem dX0_init_0 : decode cX0_init 0 = .ok (.aload_n 0, 1) := by decide +kernel
theorem dX0_init_1 : decode cX0_init 1 = .ok (.invokespecial 3, 3) := by decide +kernel
theorem dX0_init_4 : decode cX0_init 4 = .ok (.aload_n 0, 1) := by decide +kernel
theorem dX0_init_5 : decode cX0_init 5 = .ok (.iconst 0, 1) := by decide +kernel
theorem dX0_init_6 : decode cX0_init 6 = .ok (.putfield 9, 3) := by decide +kernel
theorem dX0_init_9 : decode cX0_init 9 = .ok (.aload_n 0, 1) := by decide +kernel
theorem dX0_init_10 : decode cX0_init 10 = .ok (.iconst 0, 1) := by decide +kernel
theorem dX0_init_11 : decode cX0_init 11 = .ok (.putfield 15, 3) := by decide +kernel
theorem dX0_init_14 : decode cX0_init 14 = .ok (.aload_n 0, 1) := by decide +kernel
theorem dX0_init_15 : decode cX0_init 15 = .ok (.iconst 0, 1) := by decide +kernel
theorem dX0_init_16 : decode cX0_init 16 = .ok (.putfield 18, 3) := by decide +kernel
theorem dX0_init_19 : decode cX0_init 19 = .ok (.aload_n 0, 1) := by decide +kernel
theorem dX0_init_20 : decode cX0_init 20 = .ok (.lconst 0, 1) := by decide +kernel
theorem dX0_init_21 : decode cX0_init 21 = .ok (.putfield 21, 3) := by decide +kernel
theorem dX0_init_24 : decode cX0_init 24 = .ok (.aload_n 0, 1) := by decide +kernel
theorem dX0_init_25 : decode cX0_init 25 = .ok (.lconst 0, 1) := by decide +kernel
theorem dX0_init_26 : decode cX0_init 26 = .ok (.putfield 25, 3) := by decide +kernel
theorem dX0_init_29 : decode cX0_init 29 = .ok (.aload_n 0, 1) := by decide +kernel
theorem dX0_init_30 : decode cX0_init 30 = .ok (.lconst 0, 1) := by decide +kernel
theorem dX0_init_31 : decode cX0_init 31 = .ok (.putfield 28, 3) := by decide +kernel
theorem dX0_init_34 : decode cX0_init 34 = .ok (.aload_n 0, 1) := by decide +kernel
theorem dX0_init_35 : decode cX0_init 35 = .ok (.aload_n 1, 1) := by decide +kernel
theorem dX0_init_36 : decode cX0_init 36 = .ok (.putfield 31, 3) := by decide +kernel
theorem dX0_init_39 : decode cX0_init 39 = .ok (.aload_n 0, 1) := by decide +kernel
theorem dX0_init_40 : decode cX0_init 40 = .ok (.aload_n 1, 1) := by decide +kernel
theorem dX0_init_41 : decode cX0_init 41 = .ok (.getfield 35, 3) := by decide +kernel
theorem dX0_init_44 : decode cX0_init 44 = .ok (.putfield 40, 3) := by decide +kernel
theorem dX0_init_47 : decode cX0_init 47 = .ok (.aload_n 0, 1) := by decide +kernel
theorem dX0_init_48 : decode cX0_init 48 = .ok (.iload_n 2, 1) := by decide +kernel
theorem dX0_init_49 : decode cX0_init 49 = .ok (.putfield 43, 3) := by decide +kernel
theorem dX0_init_52 : decode cX0_init 52 = .ok (.aload_n 0, 1) := by decide +kernel
theorem dX0_init_53 : decode cX0_init 53 = .ok (.iload_n 3, 1) := by decide +kernel
theorem dX0_init_54 : decode cX0_init 54 = .ok (.putfield 46, 3) := by decide +kernel
theorem dX0_init_57 : decode cX0_init 57 = .ok (.return_, 1) := by decide +kernel
theorem dX0_dueDay_0 : decode cX0_dueDay 0 = .ok (.aload_n 0, 1) := by decide +kernel
theorem dX0_dueDay_1 : decode cX0_dueDay 1 = .ok (.getfield 9, 3) := by decide +kernel
theorem dX0_dueDay_4 : decode cX0_dueDay 4 = .ok (.ifCond .ne 10, 3) := by decide +kernel
theorem dX0_dueDay_7 : decode cX0_dueDay 7 = .ok (.aload_n 0, 1) := by decide +kernel
theorem dX0_dueDay_8 : decode cX0_dueDay 8 = .ok (.getfield 46, 3) := by decide +kernel
theorem dX0_dueDay_11 : decode cX0_dueDay 11 = .ok (.iconst 3, 1) := by decide +kernel
theorem dX0_dueDay_12 : decode cX0_dueDay 12 = .ok (.iadd, 1) := by decide +kernel
theorem dX0_dueDay_13 : decode cX0_dueDay 13 = .ok (.ireturn, 1) := by decide +kernel
theorem dX0_dueDay_14 : decode cX0_dueDay 14 = .ok (.aload_n 0, 1) := by decide +kernel
theorem dX0_dueDay_15 : decode cX0_dueDay 15 = .ok (.getfield 46, 3) := by decide +kernel
theorem dX0_dueDay_18 : decode cX0_dueDay 18 = .ok (.aload_n 0, 1) := by decide +kernel
theorem dX0_dueDay_19 : decode cX0_dueDay 19 = .ok (.getfield 9, 3) := by decide +kernel
theorem dX0_dueDay_22 : decode cX0_dueDay 22 = .ok (.iconst 1, 1) := by decide +kernel
theorem dX0_dueDay_23 : decode cX0_dueDay 23 = .ok (.if_icmp .ne 7, 3) := by decide +kernel
theorem dX0_dueDay_26 : decode cX0_dueDay 26 = .ok (.iconst 2, 1) := by decide +kernel
theorem dX0_dueDay_27 : decode cX0_dueDay 27 = .ok (.goto 4, 3) := by decide +kernel
theorem dX0_dueDay_30 : decode cX0_dueDay 30 = .ok (.iconst 2, 1) := by decide +kernel
theorem dX0_dueDay_31 : decode cX0_dueDay 31 = .ok (.iadd, 1) := by decide +kernel
theorem dX0_dueDay_32 : decode cX0_dueDay 32 = .ok (.ireturn, 1) := by decide +kernel
set_option maxRecDepth 20000 in
theorem ggX0_latenessOn_X0_dueDay : GoodIn wsX0_latenessOn wsX0_dueDay := goodIn_r _ [9, 10, 11, 12, 13, 14, 15, 16, 17, 18, 19, 20, 21] (by decide +kernel) (by decide +kernel)
set_option maxRecDepth 20000 in
theorem gX0_latenessOn_X0_dueDay : GoodIn wsX0_latenessOn (wsV RX0 49 RX0 yX0_dueDay wsX0_dueDay) := goodIn_app (goodIn_of _ (by decide +kernel)) ggX0_latenessOn_X0_dueDay
theorem dX0_latenessOn_0 : decode cX0_latenessOn 0 = .ok (.iconst 0, 1) := by decide +kernel
theorem dX0_latenessOn_1 : decode cX0_latenessOn 1 = .ok (.iload_n 1, 1) := by decide +kernel
theorem dX0_latenessOn_2 : decode cX0_latenessOn 2 = .ok (.aload_n 0, 1) := by decide +kernel
theorem dX0_latenessOn_3 : decode cX0_latenessOn 3 = .ok (.invokevirtual 49, 3) := by decide +kernel
theorem dX0_latenessOn_6 : decode cX0_latenessOn 6 = .ok (.isub, 1) := by decide +kernel
theorem dX0_latenessOn_7 : decode cX0_latenessOn 7 = .ok (.invokestatic 53, 3) := by decide +kernel
theorem dX0_latenessOn_10 : decode cX0_latenessOn 10 = .ok (.ireturn, 1) := by decide +kernel
theorem dX0_goOn_0 : decode cX0_goOn 0 = .ok (.aload_n 0, 1) := by decide +kernel
theorem dX0_goOn_1 : decode cX0_goOn 1 = .ok (.getfield 9, 3) := by decide +kernel
theorem dX0_goOn_4 : decode cX0_goOn 4 = .ok (.iconst 2, 1) := by decide +kernel
theorem dX0_goOn_5 : decode cX0_goOn 5 = .ok (.if_icmp .ne 16, 3) := by decide +kernel
theorem dX0_goOn_8 : decode cX0_goOn 8 = .ok (.aload_n 0, 1) := by decide +kernel
theorem dX0_goOn_9 : decode cX0_goOn 9 = .ok (.dup, 1) := by decide +kernel
theorem dX0_goOn_10 : decode cX0_goOn 10 = .ok (.getfield 18, 3) := by decide +kernel
theorem dX0_goOn_13 : decode cX0_goOn 13 = .ok (.iload_n 2, 1) := by decide +kernel
theorem dX0_goOn_14 : decode cX0_goOn 14 = .ok (.iadd, 1) := by decide +kernel
theorem dX0_goOn_15 : decode cX0_goOn 15 = .ok (.putfield 18, 3) := by decide +kernel
theorem dX0_goOn_18 : decode cX0_goOn 18 = .ok (.goto 13, 3) := by decide +kernel
theorem dX0_goOn_21 : decode cX0_goOn 21 = .ok (.aload_n 0, 1) := by decide +kernel
theorem dX0_goOn_22 : decode cX0_goOn 22 = .ok (.dup, 1) := by decide +kernel
theorem dX0_goOn_23 : decode cX0_goOn 23 = .ok (.getfield 15, 3) := by decide +kernel
theorem dX0_goOn_26 : decode cX0_goOn 26 = .ok (.iload_n 2, 1) := by decide +kernel
theorem dX0_goOn_27 : decode cX0_goOn 27 = .ok (.iadd, 1) := by decide +kernel
theorem dX0_goOn_28 : decode cX0_goOn 28 = .ok (.putfield 15, 3) := by decide +kernel
theorem dX0_goOn_31 : decode cX0_goOn 31 = .ok (.aload_n 0, 1) := by decide +kernel
theorem dX0_goOn_32 : decode cX0_goOn 32 = .ok (.iload_n 1, 1) := by decide +kernel
theorem dX0_goOn_33 : decode cX0_goOn 33 = .ok (.putfield 46, 3) := by decide +kernel
theorem dX0_goOn_36 : decode cX0_goOn 36 = .ok (.aload_n 0, 1) := by decide +kernel
theorem dX0_goOn_37 : decode cX0_goOn 37 = .ok (.dup, 1) := by decide +kernel
theorem dX0_goOn_38 : decode cX0_goOn 38 = .ok (.getfield 9, 3) := by decide +kernel
theorem dX0_goOn_41 : decode cX0_goOn 41 = .ok (.iconst 1, 1) := by decide +kernel
theorem dX0_goOn_42 : decode cX0_goOn 42 = .ok (.iadd, 1) := by decide +kernel
theorem dX0_goOn_43 : decode cX0_goOn 43 = .ok (.putfield 9, 3) := by decide +kernel
theorem dX0_goOn_46 : decode cX0_goOn 46 = .ok (.return_, 1) := by decide +kernel
theorem dX1_init_0 : decode cX1_init 0 = .ok (.aload_n 0, 1) := by decide +kernel
theorem dX1_init_1 : decode cX1_init 1 = .ok (.invokespecial 3, 3) := by decide +kernel
theorem dX1_init_4 : decode cX1_init 4 = .ok (.aload_n 0, 1) := by decide +kernel
theorem dX1_init_5 : decode cX1_init 5 = .ok (.bipush 61, 2) := by decide +kernel
theorem dX1_init_7 : decode cX1_init 7 = .ok (.newarray .int, 2) := by decide +kernel
theorem dX1_init_9 : decode cX1_init 9 = .ok (.putfield 9, 3) := by decide +kernel
theorem dX1_init_12 : decode cX1_init 12 = .ok (.aload_n 0, 1) := by decide +kernel
theorem dX1_init_13 : decode cX1_init 13 = .ok (.bipush 61, 2) := by decide +kernel
theorem dX1_init_15 : decode cX1_init 15 = .ok (.newarray .int, 2) := by decide +kernel
theorem dX1_init_17 : decode cX1_init 17 = .ok (.putfield 15, 3) := by decide +kernel
theorem dX1_init_20 : decode cX1_init 20 = .ok (.aload_n 0, 1) := by decide +kernel
theorem dX1_init_21 : decode cX1_init 21 = .ok (.iconst 0, 1) := by decide +kernel
theorem dX1_init_22 : decode cX1_init 22 = .ok (.putfield 18, 3) := by decide +kernel
theorem dX1_init_25 : decode cX1_init 25 = .ok (.aload_n 0, 1) := by decide +kernel
theorem dX1_init_26 : decode cX1_init 26 = .ok (.getfield 15, 3) := by decide +kernel
theorem dX1_init_29 : decode cX1_init 29 = .ok (.iconst 0, 1) := by decide +kernel
theorem dX1_init_30 : decode cX1_init 30 = .ok (.sipush 1000, 3) := by decide +kernel
theorem dX1_init_33 : decode cX1_init 33 = .ok (.iastore, 1) := by decide +kernel
theorem dX1_init_34 : decode cX1_init 34 = .ok (.return_, 1) := by decide +kernel
theorem dX1_put_0 : decode cX1_put 0 = .ok (.aload_n 0, 1) := by decide +kernel
theorem dX1_put_1 : decode cX1_put 1 = .ok (.getfield 9, 3) := by decide +kernel
theorem dX1_put_4 : decode cX1_put 4 = .ok (.aload_n 0, 1) := by decide +kernel
theorem dX1_put_5 : decode cX1_put 5 = .ok (.getfield 18, 3) := by decide +kernel
theorem dX1_put_8 : decode cX1_put 8 = .ok (.iaload, 1) := by decide +kernel
theorem dX1_put_9 : decode cX1_put 9 = .ok (.iload_n 1, 1) := by decide +kernel
theorem dX1_put_10 : decode cX1_put 10 = .ok (.if_icmp .eq 36, 3) := by decide +kernel
theorem dX1_put_13 : decode cX1_put 13 = .ok (.aload_n 0, 1) := by decide +kernel
theorem dX1_put_14 : decode cX1_put 14 = .ok (.getfield 18, 3) := by decide +kernel
theorem dX1_put_17 : decode cX1_put 17 = .ok (.iconst 1, 1) := by decide +kernel
theorem dX1_put_18 : decode cX1_put 18 = .ok (.iadd, 1) := by decide +kernel
theorem dX1_put_19 : decode cX1_put 19 = .ok (.bipush 61, 2) := by decide +kernel
theorem dX1_put_21 : decode cX1_put 21 = .ok (.if_icmp .lt 5, 3) := by decide +kernel
theorem dX1_put_24 : decode cX1_put 24 = .ok (.iconst 0, 1) := by decide +kernel
theorem dX1_put_25 : decode cX1_put 25 = .ok (.ireturn, 1) := by decide +kernel
theorem dX1_put_26 : decode cX1_put 26 = .ok (.aload_n 0, 1) := by decide +kernel
theorem dX1_put_27 : decode cX1_put 27 = .ok (.dup, 1) := by decide +kernel
theorem dX1_put_28 : decode cX1_put 28 = .ok (.getfield 18, 3) := by decide +kernel
theorem dX1_put_31 : decode cX1_put 31 = .ok (.iconst 1, 1) := by decide +kernel
theorem dX1_put_32 : decode cX1_put 32 = .ok (.iadd, 1) := by decide +kernel
theorem dX1_put_33 : decode cX1_put 33 = .ok (.putfield 18, 3) := by decide +kernel
theorem dX1_put_36 : decode cX1_put 36 = .ok (.aload_n 0, 1) := by decide +kernel
theorem dX1_put_37 : decode cX1_put 37 = .ok (.getfield 9, 3) := by decide +kernel
theorem dX1_put_40 : decode cX1_put 40 = .ok (.aload_n 0, 1) := by decide +kernel
theorem dX1_put_41 : decode cX1_put 41 = .ok (.getfield 18, 3) := by decide +kernel
theorem dX1_put_44 : decode cX1_put 44 = .ok (.iload_n 1, 1) := by decide +kernel
theorem dX1_put_45 : decode cX1_put 45 = .ok (.iastore, 1) := by decide +kernel
theorem dX1_put_46 : decode cX1_put 46 = .ok (.aload_n 0, 1) := by decide +kernel
theorem dX1_put_47 : decode cX1_put 47 = .ok (.getfield 15, 3) := by decide +kernel
theorem dX1_put_50 : decode cX1_put 50 = .ok (.aload_n 0, 1) := by decide +kernel
theorem dX1_put_51 : decode cX1_put 51 = .ok (.getfield 18, 3) := by decide +kernel
theorem dX1_put_54 : decode cX1_put 54 = .ok (.iload_n 2, 1) := by decide +kernel
theorem dX1_put_55 : decode cX1_put 55 = .ok (.iastore, 1) := by decide +kernel
theorem dX1_put_56 : decode cX1_put 56 = .ok (.iconst 1, 1) := by decide +kernel
theorem dX1_put_57 : decode cX1_put 57 = .ok (.ireturn, 1) := by decide +kernel
theorem dX1_valueOn_0 : decode cX1_valueOn 0 = .ok (.aload_n 0, 1) := by decide +kernel
theorem dX1_valueOn_1 : decode cX1_valueOn 1 = .ok (.getfield 18, 3) := by decide +kernel
theorem dX1_valueOn_4 : decode cX1_valueOn 4 = .ok (.istore_n 2, 1) := by decide +kernel
theorem dX1_valueOn_5 : decode cX1_valueOn 5 = .ok (.iload_n 2, 1) := by decide +kernel
theorem dX1_valueOn_6 : decode cX1_valueOn 6 = .ok (.ifCond .le 19, 3) := by decide +kernel
theorem dX1_valueOn_9 : decode cX1_valueOn 9 = .ok (.aload_n 0, 1) := by decide +kernel
theorem dX1_valueOn_10 : decode cX1_valueOn 10 = .ok (.getfield 9, 3) := by decide +kernel
theorem dX1_valueOn_13 : decode cX1_valueOn 13 = .ok (.iload_n 2, 1) := by decide +kernel
theorem dX1_valueOn_14 : decode cX1_valueOn 14 = .ok (.iaload, 1) := by decide +kernel
theorem dX1_valueOn_15 : decode cX1_valueOn 15 = .ok (.iload_n 1, 1) := by decide +kernel
theorem dX1_valueOn_16 : decode cX1_valueOn 16 = .ok (.if_icmp .le 9, 3) := by decide +kernel
theorem dX1_valueOn_19 : decode cX1_valueOn 19 = .ok (.iinc 2 (-1), 3) := by decide +kernel
theorem dX1_valueOn_22 : decode cX1_valueOn 22 = .ok (.goto (-17), 3) := by decide +kernel
theorem dX1_valueOn_25 : decode cX1_valueOn 25 = .ok (.aload_n 0, 1) := by decide +kernel
theorem dX1_valueOn_26 : decode cX1_valueOn 26 = .ok (.getfield 15, 3) := by decide +kernel
theorem dX1_valueOn_29 : decode cX1_valueOn 29 = .ok (.iload_n 2, 1) := by decide +kernel
theorem dX1_valueOn_30 : decode cX1_valueOn 30 = .ok (.iaload, 1) := by decide +kernel
theorem dX1_valueOn_31 : decode cX1_valueOn 31 = .ok (.ireturn, 1) := by decide +kernel
theorem dX2_init_0 : decode cX2_init 0 = .ok (.aload_n 0, 1) := by decide +kernel
theorem dX2_init_1 : decode cX2_init 1 = .ok (.invokespecial 1, 3) := by decide +kernel
theorem dX2_init_4 : decode cX2_init 4 = .ok (.aload_n 0, 1) := by decide +kernel
theorem dX2_init_5 : decode cX2_init 5 = .ok (.iconst 0, 1) := by decide +kernel
theorem dX2_init_6 : decode cX2_init 6 = .ok (.putfield 7, 3) := by decide +kernel
theorem dX2_init_9 : decode cX2_init 9 = .ok (.aload_n 0, 1) := by decide +kernel
theorem dX2_init_10 : decode cX2_init 10 = .ok (.iload_n 1, 1) := by decide +kernel
theorem dX2_init_11 : decode cX2_init 11 = .ok (.putfield 13, 3) := by decide +kernel
theorem dX2_init_14 : decode cX2_init 14 = .ok (.aload_n 0, 1) := by decide +kernel
theorem dX2_init_15 : decode cX2_init 15 = .ok (.lload_n 2, 1) := by decide +kernel
theorem dX2_init_16 : decode cX2_init 16 = .ok (.putfield 17, 3) := by decide +kernel
theorem dX2_init_19 : decode cX2_init 19 = .ok (.return_, 1) := by decide +kernel
theorem dX2_arrive_0 : decode cX2_arrive 0 = .ok (.aload_n 0, 1) := by decide +kernel
theorem dX2_arrive_1 : decode cX2_arrive 1 = .ok (.iload_n 1, 1) := by decide +kernel
theorem dX2_arrive_2 : decode cX2_arrive 2 = .ok (.putfield 13, 3) := by decide +kernel
theorem dX2_arrive_5 : decode cX2_arrive 5 = .ok (.aload_n 0, 1) := by decide +kernel
theorem dX2_arrive_6 : decode cX2_arrive 6 = .ok (.lload_n 2, 1) := by decide +kernel
theorem dX2_arrive_7 : decode cX2_arrive 7 = .ok (.putfield 17, 3) := by decide +kernel
theorem dX2_arrive_10 : decode cX2_arrive 10 = .ok (.aload_n 0, 1) := by decide +kernel
theorem dX2_arrive_11 : decode cX2_arrive 11 = .ok (.iconst 0, 1) := by decide +kernel
theorem dX2_arrive_12 : decode cX2_arrive 12 = .ok (.putfield 7, 3) := by decide +kernel
theorem dX2_arrive_15 : decode cX2_arrive 15 = .ok (.return_, 1) := by decide +kernel
set_option maxRecDepth 20000 in
theorem ggX3_init_X1_init : GoodIn wsX3_init wsX1_init := goodIn_r _ [22, 23, 2, 3, 24, 25, 26, 27, 37, 38, 39] (by decide +kernel) (by decide +kernel)
set_option maxRecDepth 20000 in
theorem gX3_init_X1_init : GoodIn wsX3_init (wsX1_init) := ggX3_init_X1_init
theorem dX3_init_0 : decode cX3_init 0 = .ok (.aload_n 0, 1) := by decide +kernel
theorem dX3_init_1 : decode cX3_init 1 = .ok (.invokespecial 1, 3) := by decide +kernel
theorem dX3_init_4 : decode cX3_init 4 = .ok (.aload_n 0, 1) := by decide +kernel
theorem dX3_init_5 : decode cX3_init 5 = .ok (.iconst 5, 1) := by decide +kernel
theorem dX3_init_6 : decode cX3_init 6 = .ok (.anewarray 9, 3) := by decide +kernel
theorem dX3_init_9 : decode cX3_init 9 = .ok (.putfield 11, 3) := by decide +kernel
theorem dX3_init_12 : decode cX3_init 12 = .ok (.aload_n 0, 1) := by decide +kernel
theorem dX3_init_13 : decode cX3_init 13 = .ok (.iconst 5, 1) := by decide +kernel
theorem dX3_init_14 : decode cX3_init 14 = .ok (.iconst 5, 1) := by decide +kernel
theorem dX3_init_15 : decode cX3_init 15 = .ok (.multianewarray 15 2, 4) := by decide +kernel
theorem dX3_init_19 : decode cX3_init 19 = .ok (.putfield 17, 3) := by decide +kernel
theorem dX3_init_22 : decode cX3_init 22 = .ok (.aload_n 0, 1) := by decide +kernel
theorem dX3_init_23 : decode cX3_init 23 = .ok (.iconst 5, 1) := by decide +kernel
theorem dX3_init_24 : decode cX3_init 24 = .ok (.newarray .long, 2) := by decide +kernel
theorem dX3_init_26 : decode cX3_init 26 = .ok (.putfield 20, 3) := by decide +kernel
theorem dX3_init_29 : decode cX3_init 29 = .ok (.aload_n 0, 1) := by decide +kernel
theorem dX3_init_30 : decode cX3_init 30 = .ok (.bipush 10, 2) := by decide +kernel
theorem dX3_init_32 : decode cX3_init 32 = .ok (.anewarray 24, 3) := by decide +kernel
theorem dX3_init_35 : decode cX3_init 35 = .ok (.putfield 26, 3) := by decide +kernel
theorem dX3_init_38 : decode cX3_init 38 = .ok (.aload_n 0, 1) := by decide +kernel
theorem dX3_init_39 : decode cX3_init 39 = .ok (.bipush 30, 2) := by decide +kernel
theorem dX3_init_41 : decode cX3_init 41 = .ok (.anewarray 30, 3) := by decide +kernel
theorem dX3_init_44 : decode cX3_init 44 = .ok (.putfield 32, 3) := by decide +kernel
theorem dX3_init_47 : decode cX3_init 47 = .ok (.aload_n 0, 1) := by decide +kernel
theorem dX3_init_48 : decode cX3_init 48 = .ok (.iconst 0, 1) := by decide +kernel
theorem dX3_init_49 : decode cX3_init 49 = .ok (.putfield 36, 3) := by decide +kernel
theorem dX3_init_52 : decode cX3_init 52 = .ok (.aload_n 0, 1) := by decide +kernel
theorem dX3_init_53 : decode cX3_init 53 = .ok (.sipush 1000, 3) := by decide +kernel
theorem dX3_init_56 : decode cX3_init 56 = .ok (.putfield 40, 3) := by decide +kernel
theorem dX3_init_59 : decode cX3_init 59 = .ok (.aload_n 0, 1) := by decide +kernel
theorem dX3_init_60 : decode cX3_init 60 = .ok (.iconst 0, 1) := by decide +kernel
theorem dX3_init_61 : decode cX3_init 61 = .ok (.putfield 43, 3) := by decide +kernel
theorem dX3_init_64 : decode cX3_init 64 = .ok (.aload_n 0, 1) := by decide +kernel
theorem dX3_init_65 : decode cX3_init 65 = .ok (.iconst 0, 1) := by decide +kernel
theorem dX3_init_66 : decode cX3_init 66 = .ok (.putfield 46, 3) := by decide +kernel
theorem dX3_init_69 : decode cX3_init 69 = .ok (.iconst 0, 1) := by decide +kernel
theorem dX3_init_70 : decode cX3_init 70 = .ok (.istore_n 1, 1) := by decide +kernel
theorem dX3_init_71 : decode cX3_init 71 = .ok (.iload_n 1, 1) := by decide +kernel
theorem dX3_init_72 : decode cX3_init 72 = .ok (.iconst 5, 1) := by decide +kernel
theorem dX3_init_73 : decode cX3_init 73 = .ok (.if_icmp .ge 22, 3) := by decide +kernel
theorem dX3_init_76 : decode cX3_init 76 = .ok (.aload_n 0, 1) := by decide +kernel
theorem dX3_init_77 : decode cX3_init 77 = .ok (.getfield 11, 3) := by decide +kernel
theorem dX3_init_80 : decode cX3_init 80 = .ok (.iload_n 1, 1) := by decide +kernel
theorem dX3_init_81 : decode cX3_init 81 = .ok (.new 9, 3) := by decide +kernel
theorem dX3_init_84 : decode cX3_init 84 = .ok (.dup, 1) := by decide +kernel
theorem dX3_init_85 : decode cX3_init 85 = .ok (.invokespecial 49, 3) := by decide +kernel
theorem dX3_init_88 : decode cX3_init 88 = .ok (.aastore, 1) := by decide +kernel
theorem dX3_init_89 : decode cX3_init 89 = .ok (.iinc 1 1, 3) := by decide +kernel
theorem dX3_init_92 : decode cX3_init 92 = .ok (.goto (-21), 3) := by decide +kernel
theorem dX3_init_95 : decode cX3_init 95 = .ok (.return_, 1) := by decide +kernel
set_option maxRecDepth 20000 in
theorem ggX3_pass_X3_isOutside : GoodIn wsX3_pass wsX3_isOutside := goodIn_r _ [9] (by decide +kernel) (by decide +kernel)
set_option maxRecDepth 20000 in
theorem gX3_pass_X3_isOutside : GoodIn wsX3_pass (va_wsS RX3 50 yX3_isOutside wsX3_isOutside) := goodIn_app (goodIn_of _ (by decide +kernel)) ggX3_pass_X3_isOutside
theorem dX3_pass_0 : decode cX3_pass 0 = .ok (.iload_n 1, 1) := by decide +kernel
theorem dX3_pass_1 : decode cX3_pass 1 = .ok (.iconst 1, 1) := by decide +kernel
theorem dX3_pass_2 : decode cX3_pass 2 = .ok (.bipush 100, 2) := by decide +kernel
theorem dX3_pass_4 : decode cX3_pass 4 = .ok (.invokestatic 50, 3) := by decide +kernel
theorem dX3_pass_7 : decode cX3_pass 7 = .ok (.ifCond .eq 13, 3) := by decide +kernel
theorem dX3_pass_10 : decode cX3_pass 10 = .ok (.new 54, 3) := by decide +kernel
theorem dX3_pass_13 : decode cX3_pass 13 = .ok (.dup, 1) := by decide +kernel
theorem dX3_pass_14 : decode cX3_pass 14 = .ok (.ldc 56, 2) := by decide +kernel
theorem dX3_pass_16 : decode cX3_pass 16 = .ok (.invokespecial 58, 3) := by decide +kernel
theorem dX3_pass_19 : decode cX3_pass 19 = .ok (.athrow, 1) := by decide +kernel
theorem dX3_pass_20 : decode cX3_pass 20 = .ok (.aload_n 0, 1) := by decide +kernel
theorem dX3_pass_21 : decode cX3_pass 21 = .ok (.getfield 36, 3) := by decide +kernel
theorem dX3_pass_24 : decode cX3_pass 24 = .ok (.iload_n 1, 1) := by decide +kernel
theorem dX3_pass_25 : decode cX3_pass 25 = .ok (.iadd, 1) := by decide +kernel
theorem dX3_pass_26 : decode cX3_pass 26 = .ok (.sipush 2000, 3) := by decide +kernel
theorem dX3_pass_29 : decode cX3_pass 29 = .ok (.if_icmp .le 13, 3) := by decide +kernel
theorem dX3_pass_32 : decode cX3_pass 32 = .ok (.new 61, 3) := by decide +kernel
theorem dX3_pass_35 : decode cX3_pass 35 = .ok (.dup, 1) := by decide +kernel
theorem dX3_pass_36 : decode cX3_pass 36 = .ok (.ldc 63, 2) := by decide +kernel
theorem dX3_pass_38 : decode cX3_pass 38 = .ok (.invokespecial 65, 3) := by decide +kernel
theorem dX3_pass_41 : decode cX3_pass 41 = .ok (.athrow, 1) := by decide +kernel
theorem dX3_pass_42 : decode cX3_pass 42 = .ok (.aload_n 0, 1) := by decide +kernel
theorem dX3_pass_43 : decode cX3_pass 43 = .ok (.dup, 1) := by decide +kernel
theorem dX3_pass_44 : decode cX3_pass 44 = .ok (.getfield 36, 3) := by decide +kernel
theorem dX3_pass_47 : decode cX3_pass 47 = .ok (.iload_n 1, 1) := by decide +kernel
theorem dX3_pass_48 : decode cX3_pass 48 = .ok (.iadd, 1) := by decide +kernel
theorem dX3_pass_49 : decode cX3_pass 49 = .ok (.putfield 36, 3) := by decide +kernel
theorem dX3_pass_52 : decode cX3_pass 52 = .ok (.aload_n 0, 1) := by decide +kernel
theorem dX3_pass_53 : decode cX3_pass 53 = .ok (.getfield 36, 3) := by decide +kernel
theorem dX3_pass_56 : decode cX3_pass 56 = .ok (.ireturn, 1) := by decide +kernel
theorem dX3_today_0 : decode cX3_today 0 = .ok (.aload_n 0, 1) := by decide +kernel
theorem dX3_today_1 : decode cX3_today 1 = .ok (.getfield 36, 3) := by decide +kernel
theorem dX3_today_4 : decode cX3_today 4 = .ok (.ireturn, 1) := by decide +kernel
set_option maxRecDepth 20000 in
theorem ggX3_setPrice_X3_priceRowOf : GoodIn wsX3_setPrice wsX3_priceRowOf := goodIn_ca (goodIn_r _ [8, 9, 10, 11, 12, 13, 7, 14, 15, 16, 17, 33, 34, 35, 36, 37, 38, 39, 40, 41] (by decide +kernel) (by decide +kernel)) (goodIn_sub (fun _ h => List.mem_cons_of_mem _ (List.mem_append_right _ h)) (by decide +kernel))
set_option maxRecDepth 20000 in
theorem gX3_setPrice_X3_priceRowOf : GoodIn wsX3_setPrice (wsV RX3 66 RX3 yX3_priceRowOf wsX3_priceRowOf) := goodIn_app (goodIn_of _ (by decide +kernel)) ggX3_setPrice_X3_priceRowOf
set_option maxRecDepth 20000 in
theorem ggX3_setPrice_X3_checkPrice : GoodIn wsX3_setPrice wsX3_checkPrice := goodIn_ca (goodIn_r _ [20, 9, 10, 15, 16, 7, 17] (by decide +kernel) (by decide +kernel)) (goodIn_sub (fun _ h => List.mem_cons_of_mem _ (List.mem_append_right _ h)) (by decide +kernel))
set_option maxRecDepth 20000 in
theorem gX3_setPrice_X3_checkPrice : GoodIn wsX3_setPrice (va_wsS RX3 70 yX3_checkPrice wsX3_checkPrice) := goodIn_app (goodIn_of _ (by decide +kernel)) ggX3_setPrice_X3_checkPrice
set_option maxRecDepth 20000 in
theorem ggX3_setPrice_X1_valueOn : GoodIn wsX3_setPrice wsX1_valueOn := goodIn_r _ [25, 26, 27, 28, 42, 43, 44] (by decide +kernel) (by decide +kernel)
set_option maxRecDepth 20000 in
theorem gX3_setPrice_X1_valueOn : GoodIn wsX3_setPrice (wsV RX3 74 RX1 yX1_valueOn wsX1_valueOn) := goodIn_app (goodIn_of _ (by decide +kernel)) ggX3_setPrice_X1_valueOn
set_option maxRecDepth 20000 in
theorem ggX3_setPrice_X1_put : GoodIn wsX3_setPrice wsX1_put := goodIn_r _ [32, 27, 26, 28, 42, 43, 44] (by decide +kernel) (by decide +kernel)
set_option maxRecDepth 20000 in
theorem gX3_setPrice_X1_put : GoodIn wsX3_setPrice (wsV RX3 78 RX1 yX1_put wsX1_put) := goodIn_app (goodIn_of _ (by decide +kernel)) ggX3_setPrice_X1_put
theorem dX3_setPrice_0 : decode cX3_setPrice 0 = .ok (.aload_n 0, 1) := by decide +kernel
theorem dX3_setPrice_1 : decode cX3_setPrice 1 = .ok (.iload_n 1, 1) := by decide +kernel
theorem dX3_setPrice_2 : decode cX3_setPrice 2 = .ok (.invokevirtual 66, 3) := by decide +kernel
theorem dX3_setPrice_5 : decode cX3_setPrice 5 = .ok (.astore_n 3, 1) := by decide +kernel
theorem dX3_setPrice_6 : decode cX3_setPrice 6 = .ok (.iload_n 2, 1) := by decide +kernel
theorem dX3_setPrice_7 : decode cX3_setPrice 7 = .ok (.invokestatic 70, 3) := by decide +kernel
theorem dX3_setPrice_10 : decode cX3_setPrice 10 = .ok (.aload_n 3, 1) := by decide +kernel
theorem dX3_setPrice_11 : decode cX3_setPrice 11 = .ok (.aload_n 0, 1) := by decide +kernel
theorem dX3_setPrice_12 : decode cX3_setPrice 12 = .ok (.getfield 36, 3) := by decide +kernel
theorem dX3_setPrice_15 : decode cX3_setPrice 15 = .ok (.invokevirtual 74, 3) := by decide +kernel
theorem dX3_setPrice_18 : decode cX3_setPrice 18 = .ok (.istore 4, 2) := by decide +kernel
theorem dX3_setPrice_20 : decode cX3_setPrice 20 = .ok (.aload_n 3, 1) := by decide +kernel
theorem dX3_setPrice_21 : decode cX3_setPrice 21 = .ok (.aload_n 0, 1) := by decide +kernel
theorem dX3_setPrice_22 : decode cX3_setPrice 22 = .ok (.getfield 36, 3) := by decide +kernel
theorem dX3_setPrice_25 : decode cX3_setPrice 25 = .ok (.iload_n 2, 1) := by decide +kernel
theorem dX3_setPrice_26 : decode cX3_setPrice 26 = .ok (.invokevirtual 78, 3) := by decide +kernel
theorem dX3_setPrice_29 : decode cX3_setPrice 29 = .ok (.ifCond .ne 13, 3) := by decide +kernel
theorem dX3_setPrice_32 : decode cX3_setPrice 32 = .ok (.new 61, 3) := by decide +kernel
theorem dX3_setPrice_35 : decode cX3_setPrice 35 = .ok (.dup, 1) := by decide +kernel
theorem dX3_setPrice_36 : decode cX3_setPrice 36 = .ok (.ldc 82, 2) := by decide +kernel
theorem dX3_setPrice_38 : decode cX3_setPrice 38 = .ok (.invokespecial 65, 3) := by decide +kernel
theorem dX3_setPrice_41 : decode cX3_setPrice 41 = .ok (.athrow, 1) := by decide +kernel
theorem dX3_setPrice_42 : decode cX3_setPrice 42 = .ok (.iload 4, 2) := by decide +kernel
theorem dX3_setPrice_44 : decode cX3_setPrice 44 = .ok (.ireturn, 1) := by decide +kernel
set_option maxRecDepth 20000 in
theorem ggX3_price_X3_priceRowOf : GoodIn wsX3_price wsX3_priceRowOf := goodIn_ca (goodIn_r _ [8, 1, 2, 9, 10, 11, 7, 12, 13, 14, 15, 24, 25, 26, 27, 28, 29, 30, 31, 32] (by decide +kernel) (by decide +kernel)) (goodIn_sub (fun _ h => List.mem_cons_of_mem _ (List.mem_append_right _ h)) (by decide +kernel))
set_option maxRecDepth 20000 in
theorem gX3_price_X3_priceRowOf : GoodIn wsX3_price (wsV RX3 66 RX3 yX3_priceRowOf wsX3_priceRowOf) := goodIn_app (goodIn_of _ (by decide +kernel)) ggX3_price_X3_priceRowOf
set_option maxRecDepth 20000 in
theorem ggX3_price_X3_isOutside : GoodIn wsX3_price wsX3_isOutside := goodIn_r _ [15] (by decide +kernel) (by decide +kernel)
set_option maxRecDepth 20000 in
theorem gX3_price_X3_isOutside : GoodIn wsX3_price (va_wsS RX3 50 yX3_isOutside wsX3_isOutside) := goodIn_app (goodIn_of _ (by decide +kernel)) ggX3_price_X3_isOutside
set_option maxRecDepth 20000 in
theorem ggX3_price_X1_valueOn : GoodIn wsX3_price wsX1_valueOn := goodIn_r _ [20, 21, 22, 23, 33, 34, 35] (by decide +kernel) (by decide +kernel)
set_option maxRecDepth 20000 in
theorem gX3_price_X1_valueOn : GoodIn wsX3_price (wsV RX3 74 RX1 yX1_valueOn wsX1_valueOn) := goodIn_app (goodIn_of _ (by decide +kernel)) ggX3_price_X1_valueOn
theorem dX3_price_0 : decode cX3_price 0 = .ok (.aload_n 0, 1) := by decide +kernel
theorem dX3_price_1 : decode cX3_price 1 = .ok (.iload_n 1, 1) := by decide +kernel
theorem dX3_price_2 : decode cX3_price 2 = .ok (.invokevirtual 66, 3) := by decide +kernel
theorem dX3_price_5 : decode cX3_price 5 = .ok (.astore_n 3, 1) := by decide +kernel
theorem dX3_price_6 : decode cX3_price 6 = .ok (.iload_n 2, 1) := by decide +kernel
theorem dX3_price_7 : decode cX3_price 7 = .ok (.iconst 0, 1) := by decide +kernel
theorem dX3_price_8 : decode cX3_price 8 = .ok (.aload_n 0, 1) := by decide +kernel
theorem dX3_price_9 : decode cX3_price 9 = .ok (.getfield 36, 3) := by decide +kernel
theorem dX3_price_12 : decode cX3_price 12 = .ok (.invokestatic 50, 3) := by decide +kernel
theorem dX3_price_15 : decode cX3_price 15 = .ok (.ifCond .eq 13, 3) := by decide +kernel
theorem dX3_price_18 : decode cX3_price 18 = .ok (.new 54, 3) := by decide +kernel
theorem dX3_price_21 : decode cX3_price 21 = .ok (.dup, 1) := by decide +kernel
theorem dX3_price_22 : decode cX3_price 22 = .ok (.ldc 84, 2) := by decide +kernel
theorem dX3_price_24 : decode cX3_price 24 = .ok (.invokespecial 58, 3) := by decide +kernel
theorem dX3_price_27 : decode cX3_price 27 = .ok (.athrow, 1) := by decide +kernel
theorem dX3_price_28 : decode cX3_price 28 = .ok (.aload_n 3, 1) := by decide +kernel
theorem dX3_price_29 : decode cX3_price 29 = .ok (.iload_n 2, 1) := by decide +kernel
theorem dX3_price_30 : decode cX3_price 30 = .ok (.invokevirtual 74, 3) := by decide +kernel
theorem dX3_price_33 : decode cX3_price 33 = .ok (.ireturn, 1) := by decide +kernel
set_option maxRecDepth 20000 in
theorem ggX3_setDefault_X3_checkPrice : GoodIn wsX3_setDefault wsX3_checkPrice := goodIn_ca (goodIn_r _ [5, 6, 7, 8, 9, 4, 10] (by decide +kernel) (by decide +kernel)) (goodIn_sub (fun _ h => List.mem_cons_of_mem _ (List.mem_append_right _ h)) (by decide +kernel))
set_option maxRecDepth 20000 in
theorem gX3_setDefault_X3_checkPrice : GoodIn wsX3_setDefault (va_wsS RX3 70 yX3_checkPrice wsX3_checkPrice) := goodIn_app (goodIn_of _ (by decide +kernel)) ggX3_setDefault_X3_checkPrice
theorem dX3_setDefault_0 : decode cX3_setDefault 0 = .ok (.iload_n 1, 1) := by decide +kernel
theorem dX3_setDefault_1 : decode cX3_setDefault 1 = .ok (.invokestatic 70, 3) := by decide +kernel
theorem dX3_setDefault_4 : decode cX3_setDefault 4 = .ok (.aload_n 0, 1) := by decide +kernel
theorem dX3_setDefault_5 : decode cX3_setDefault 5 = .ok (.getfield 40, 3) := by decide +kernel
theorem dX3_setDefault_8 : decode cX3_setDefault 8 = .ok (.istore_n 2, 1) := by decide +kernel
theorem dX3_setDefault_9 : decode cX3_setDefault 9 = .ok (.aload_n 0, 1) := by decide +kernel
theorem dX3_setDefault_10 : decode cX3_setDefault 10 = .ok (.iload_n 1, 1) := by decide +kernel
theorem dX3_setDefault_11 : decode cX3_setDefault 11 = .ok (.putfield 40, 3) := by decide +kernel
theorem dX3_setDefault_14 : decode cX3_setDefault 14 = .ok (.iload_n 2, 1) := by decide +kernel
theorem dX3_setDefault_15 : decode cX3_setDefault 15 = .ok (.ireturn, 1) := by decide +kernel
set_option maxRecDepth 20000 in
theorem ggX3_begin_X3_priceRowOf : GoodIn wsX3_begin wsX3_priceRowOf := goodIn_ca (goodIn_r _ [16, 1, 2, 17, 18, 19, 15, 20, 21, 22, 23, 45, 46, 47, 48, 49, 50, 51, 52, 53] (by decide +kernel) (by decide +kernel)) (goodIn_sub (fun _ h => List.mem_cons_of_mem _ (List.mem_append_left _ (List.mem_append_right _ h))) (by decide +kernel))
set_option maxRecDepth 20000 in
theorem gX3_begin_X3_priceRowOf : GoodIn wsX3_begin (wsV RX3 66 RX3 yX3_priceRowOf wsX3_priceRowOf) := goodIn_app (goodIn_of _ (by decide +kernel)) ggX3_begin_X3_priceRowOf
set_option maxRecDepth 20000 in
theorem ggX3_begin_X3_isOutside : GoodIn wsX3_begin wsX3_isOutside := goodIn_r _ [23] (by decide +kernel) (by decide +kernel)
set_option maxRecDepth 20000 in
theorem gX3_begin_X3_isOutside : GoodIn wsX3_begin (va_wsS RX3 50 yX3_isOutside wsX3_isOutside) := goodIn_app (goodIn_of _ (by decide +kernel)) ggX3_begin_X3_isOutside
set_option maxRecDepth 20000 in
theorem ggX3_begin_X1_valueOn : GoodIn wsX3_begin wsX1_valueOn := goodIn_r _ [28, 29, 30, 31, 57, 58, 59] (by decide +kernel) (by decide +kernel)
set_option maxRecDepth 20000 in
theorem gX3_begin_X1_valueOn : GoodIn wsX3_begin (wsV RX3 74 RX1 yX1_valueOn wsX1_valueOn) := goodIn_app (goodIn_of _ (by decide +kernel)) ggX3_begin_X1_valueOn
set_option maxRecDepth 20000 in
theorem ggX3_begin_X3_thousandthsFor : GoodIn wsX3_begin wsX3_thousandthsFor := goodIn_r _ [34, 35] (by decide +kernel) (by decide +kernel)
set_option maxRecDepth 20000 in
theorem gX3_begin_X3_thousandthsFor : GoodIn wsX3_begin (va_wsS RX3 91 yX3_thousandthsFor wsX3_thousandthsFor) := goodIn_app (goodIn_of _ (by decide +kernel)) ggX3_begin_X3_thousandthsFor
set_option maxRecDepth 20000 in
theorem ggX3_begin_X2_init : GoodIn wsX3_begin wsX2_init := goodIn_r _ [38, 39, 40, 41, 42, 43, 44, 54, 55, 56] (by decide +kernel) (by decide +kernel)
set_option maxRecDepth 20000 in
theorem gX3_begin_X2_init : GoodIn wsX3_begin (wsX2_init) := ggX3_begin_X2_init
theorem dX3_begin_0 : decode cX3_begin 0 = .ok (.aload_n 0, 1) := by decide +kernel
theorem dX3_begin_1 : decode cX3_begin 1 = .ok (.iload_n 1, 1) := by decide +kernel
theorem dX3_begin_2 : decode cX3_begin 2 = .ok (.invokevirtual 66, 3) := by decide +kernel
theorem dX3_begin_5 : decode cX3_begin 5 = .ok (.astore_n 3, 1) := by decide +kernel
theorem dX3_begin_6 : decode cX3_begin 6 = .ok (.iload_n 2, 1) := by decide +kernel
theorem dX3_begin_7 : decode cX3_begin 7 = .ok (.iconst 0, 1) := by decide +kernel
theorem dX3_begin_8 : decode cX3_begin 8 = .ok (.ldc 86, 2) := by decide +kernel
theorem dX3_begin_10 : decode cX3_begin 10 = .ok (.invokestatic 50, 3) := by decide +kernel
theorem dX3_begin_13 : decode cX3_begin 13 = .ok (.ifCond .eq 13, 3) := by decide +kernel
theorem dX3_begin_16 : decode cX3_begin 16 = .ok (.new 54, 3) := by decide +kernel
theorem dX3_begin_19 : decode cX3_begin 19 = .ok (.dup, 1) := by decide +kernel
theorem dX3_begin_20 : decode cX3_begin 20 = .ok (.ldc 87, 2) := by decide +kernel
theorem dX3_begin_22 : decode cX3_begin 22 = .ok (.invokespecial 58, 3) := by decide +kernel
theorem dX3_begin_25 : decode cX3_begin 25 = .ok (.athrow, 1) := by decide +kernel
theorem dX3_begin_26 : decode cX3_begin 26 = .ok (.aload_n 0, 1) := by decide +kernel
theorem dX3_begin_27 : decode cX3_begin 27 = .ok (.getfield 43, 3) := by decide +kernel
theorem dX3_begin_30 : decode cX3_begin 30 = .ok (.istore 4, 2) := by decide +kernel
theorem dX3_begin_32 : decode cX3_begin 32 = .ok (.iload 4, 2) := by decide +kernel
theorem dX3_begin_34 : decode cX3_begin 34 = .ok (.bipush 10, 2) := by decide +kernel
theorem dX3_begin_36 : decode cX3_begin 36 = .ok (.if_icmp .lt 13, 3) := by decide +kernel
theorem dX3_begin_39 : decode cX3_begin 39 = .ok (.new 61, 3) := by decide +kernel
theorem dX3_begin_42 : decode cX3_begin 42 = .ok (.dup, 1) := by decide +kernel
theorem dX3_begin_43 : decode cX3_begin 43 = .ok (.ldc 89, 2) := by decide +kernel
theorem dX3_begin_45 : decode cX3_begin 45 = .ok (.invokespecial 65, 3) := by decide +kernel
theorem dX3_begin_48 : decode cX3_begin 48 = .ok (.athrow, 1) := by decide +kernel
theorem dX3_begin_49 : decode cX3_begin 49 = .ok (.aload_n 0, 1) := by decide +kernel
theorem dX3_begin_50 : decode cX3_begin 50 = .ok (.getfield 26, 3) := by decide +kernel
theorem dX3_begin_53 : decode cX3_begin 53 = .ok (.iload 4, 2) := by decide +kernel
theorem dX3_begin_55 : decode cX3_begin 55 = .ok (.new 24, 3) := by decide +kernel
theorem dX3_begin_58 : decode cX3_begin 58 = .ok (.dup, 1) := by decide +kernel
theorem dX3_begin_59 : decode cX3_begin 59 = .ok (.iload_n 1, 1) := by decide +kernel
theorem dX3_begin_60 : decode cX3_begin 60 = .ok (.iload_n 2, 1) := by decide +kernel
theorem dX3_begin_61 : decode cX3_begin 61 = .ok (.i2l, 1) := by decide +kernel
theorem dX3_begin_62 : decode cX3_begin 62 = .ok (.aload_n 3, 1) := by decide +kernel
theorem dX3_begin_63 : decode cX3_begin 63 = .ok (.aload_n 0, 1) := by decide +kernel
theorem dX3_begin_64 : decode cX3_begin 64 = .ok (.getfield 36, 3) := by decide +kernel
theorem dX3_begin_67 : decode cX3_begin 67 = .ok (.invokevirtual 74, 3) := by decide +kernel
theorem dX3_begin_70 : decode cX3_begin 70 = .ok (.invokestatic 91, 3) := by decide +kernel
theorem dX3_begin_73 : decode cX3_begin 73 = .ok (.invokespecial 95, 3) := by decide +kernel
theorem dX3_begin_76 : decode cX3_begin 76 = .ok (.aastore, 1) := by decide +kernel
theorem dX3_begin_77 : decode cX3_begin 77 = .ok (.aload_n 0, 1) := by decide +kernel
theorem dX3_begin_78 : decode cX3_begin 78 = .ok (.iload 4, 2) := by decide +kernel
theorem dX3_begin_80 : decode cX3_begin 80 = .ok (.iconst 1, 1) := by decide +kernel
theorem dX3_begin_81 : decode cX3_begin 81 = .ok (.iadd, 1) := by decide +kernel
theorem dX3_begin_82 : decode cX3_begin 82 = .ok (.putfield 43, 3) := by decide +kernel
theorem dX3_begin_85 : decode cX3_begin 85 = .ok (.iload 4, 2) := by decide +kernel
theorem dX3_begin_87 : decode cX3_begin 87 = .ok (.ireturn, 1) := by decide +kernel
set_option maxRecDepth 20000 in
theorem ggX3_pay_X3_saverAt : GoodIn wsX3_pay wsX3_saverAt := goodIn_ca (goodIn_r _ [10, 11, 12, 13, 14, 15, 9, 16, 49, 50, 51, 52, 53, 54, 55, 56, 57] (by decide +kernel) (by decide +kernel)) (goodIn_sub (fun _ h => List.mem_cons_of_mem _ (List.mem_append_right _ h)) (by decide +kernel))
set_option maxRecDepth 20000 in
theorem gX3_pay_X3_saverAt : GoodIn wsX3_pay (wsV RX3 98 RX3 yX3_saverAt wsX3_saverAt) := goodIn_app (goodIn_of _ (by decide +kernel)) ggX3_pay_X3_saverAt
set_option maxRecDepth 20000 in
theorem ggX3_pay_X3_isOutside : GoodIn wsX3_pay wsX3_isOutside := goodIn_r _ [16] (by decide +kernel) (by decide +kernel)
set_option maxRecDepth 20000 in
theorem gX3_pay_X3_isOutside : GoodIn wsX3_pay (va_wsS RX3 50 yX3_isOutside wsX3_isOutside) := goodIn_app (goodIn_of _ (by decide +kernel)) ggX3_pay_X3_isOutside
set_option maxRecDepth 20000 in
theorem ggX3_pay_X3_priceNow : GoodIn wsX3_pay wsX3_priceNow := goodIn_ca (goodIn_r _ [20, 21, 22, 23, 24, 9, 25, 1, 2, 26, 27, 28, 29, 14, 15, 16, 30, 31, 32, 33, 34, 35, 36, 37, 49, 50, 51, 52, 53, 54, 55, 56, 57, 58, 59, 60] (by decide +kernel) (by decide +kernel)) (goodIn_sub (fun _ h => List.mem_cons_of_mem _ (List.mem_append_left _ (List.mem_append_left _ (List.mem_append_right _ h)))) (by decide +kernel))
set_option maxRecDepth 20000 in
theorem gX3_pay_X3_priceNow : GoodIn wsX3_pay (wsV RX3 111 RX3 yX3_priceNow wsX3_priceNow) := goodIn_app (goodIn_of _ (by decide +kernel)) ggX3_pay_X3_priceNow
set_option maxRecDepth 20000 in
theorem ggX3_pay_X3_thousandthsFor : GoodIn wsX3_pay wsX3_thousandthsFor := goodIn_r _ [40, 41] (by decide +kernel) (by decide +kernel)
set_option maxRecDepth 20000 in
theorem gX3_pay_X3_thousandthsFor : GoodIn wsX3_pay (va_wsS RX3 91 yX3_thousandthsFor wsX3_thousandthsFor) := goodIn_app (goodIn_of _ (by decide +kernel)) ggX3_pay_X3_thousandthsFor
set_option maxRecDepth 20000 in
theorem ggX3_pay_X3_checkHolding : GoodIn wsX3_pay wsX3_checkHolding := goodIn_ca (goodIn_r _ [44, 3, 4, 45] (by decide +kernel) (by decide +kernel)) (goodIn_sub (fun _ h => List.mem_cons_of_mem _ (List.mem_append_left _ (List.mem_append_right _ h))) (by decide +kernel))
set_option maxRecDepth 20000 in
theorem gX3_pay_X3_checkHolding : GoodIn wsX3_pay (va_wsS RX3 118 yX3_checkHolding wsX3_checkHolding) := goodIn_app (goodIn_of _ (by decide +kernel)) ggX3_pay_X3_checkHolding
theorem dX3_pay_0 : decode cX3_pay 0 = .ok (.aload_n 0, 1) := by decide +kernel
theorem dX3_pay_1 : decode cX3_pay 1 = .ok (.iload_n 1, 1) := by decide +kernel
theorem dX3_pay_2 : decode cX3_pay 2 = .ok (.invokevirtual 98, 3) := by decide +kernel
theorem dX3_pay_5 : decode cX3_pay 5 = .ok (.astore_n 3, 1) := by decide +kernel
theorem dX3_pay_6 : decode cX3_pay 6 = .ok (.iload_n 2, 1) := by decide +kernel
theorem dX3_pay_7 : decode cX3_pay 7 = .ok (.iconst 1, 1) := by decide +kernel
theorem dX3_pay_8 : decode cX3_pay 8 = .ok (.ldc 86, 2) := by decide +kernel
theorem dX3_pay_10 : decode cX3_pay 10 = .ok (.invokestatic 50, 3) := by decide +kernel
theorem dX3_pay_13 : decode cX3_pay 13 = .ok (.ifCond .eq 13, 3) := by decide +kernel
theorem dX3_pay_16 : decode cX3_pay 16 = .ok (.new 54, 3) := by decide +kernel
theorem dX3_pay_19 : decode cX3_pay 19 = .ok (.dup, 1) := by decide +kernel
theorem dX3_pay_20 : decode cX3_pay 20 = .ok (.ldc 87, 2) := by decide +kernel
theorem dX3_pay_22 : decode cX3_pay 22 = .ok (.invokespecial 58, 3) := by decide +kernel
theorem dX3_pay_25 : decode cX3_pay 25 = .ok (.athrow, 1) := by decide +kernel
theorem dX3_pay_26 : decode cX3_pay 26 = .ok (.aload_n 3, 1) := by decide +kernel
theorem dX3_pay_27 : decode cX3_pay 27 = .ok (.getfield 102, 3) := by decide +kernel
theorem dX3_pay_30 : decode cX3_pay 30 = .ok (.ifCond .eq 13, 3) := by decide +kernel
theorem dX3_pay_33 : decode cX3_pay 33 = .ok (.new 61, 3) := by decide +kernel
theorem dX3_pay_36 : decode cX3_pay 36 = .ok (.dup, 1) := by decide +kernel
theorem dX3_pay_37 : decode cX3_pay 37 = .ok (.ldc 106, 2) := by decide +kernel
theorem dX3_pay_39 : decode cX3_pay 39 = .ok (.invokespecial 65, 3) := by decide +kernel
theorem dX3_pay_42 : decode cX3_pay 42 = .ok (.athrow, 1) := by decide +kernel
theorem dX3_pay_43 : decode cX3_pay 43 = .ok (.iload_n 2, 1) := by decide +kernel
theorem dX3_pay_44 : decode cX3_pay 44 = .ok (.i2l, 1) := by decide +kernel
theorem dX3_pay_45 : decode cX3_pay 45 = .ok (.aload_n 0, 1) := by decide +kernel
theorem dX3_pay_46 : decode cX3_pay 46 = .ok (.aload_n 3, 1) := by decide +kernel
theorem dX3_pay_47 : decode cX3_pay 47 = .ok (.getfield 108, 3) := by decide +kernel
theorem dX3_pay_50 : decode cX3_pay 50 = .ok (.invokevirtual 111, 3) := by decide +kernel
theorem dX3_pay_53 : decode cX3_pay 53 = .ok (.invokestatic 91, 3) := by decide +kernel
theorem dX3_pay_56 : decode cX3_pay 56 = .ok (.lstore 4, 2) := by decide +kernel
theorem dX3_pay_58 : decode cX3_pay 58 = .ok (.aload_n 3, 1) := by decide +kernel
theorem dX3_pay_59 : decode cX3_pay 59 = .ok (.getfield 114, 3) := by decide +kernel
theorem dX3_pay_62 : decode cX3_pay 62 = .ok (.lload 4, 2) := by decide +kernel
theorem dX3_pay_64 : decode cX3_pay 64 = .ok (.ladd, 1) := by decide +kernel
theorem dX3_pay_65 : decode cX3_pay 65 = .ok (.invokestatic 118, 3) := by decide +kernel
theorem dX3_pay_68 : decode cX3_pay 68 = .ok (.aload_n 3, 1) := by decide +kernel
theorem dX3_pay_69 : decode cX3_pay 69 = .ok (.dup, 1) := by decide +kernel
theorem dX3_pay_70 : decode cX3_pay 70 = .ok (.getfield 114, 3) := by decide +kernel
theorem dX3_pay_73 : decode cX3_pay 73 = .ok (.lload 4, 2) := by decide +kernel
theorem dX3_pay_75 : decode cX3_pay 75 = .ok (.ladd, 1) := by decide +kernel
theorem dX3_pay_76 : decode cX3_pay 76 = .ok (.putfield 114, 3) := by decide +kernel
theorem dX3_pay_79 : decode cX3_pay 79 = .ok (.lload 4, 2) := by decide +kernel
theorem dX3_pay_81 : decode cX3_pay 81 = .ok (.l2i, 1) := by decide +kernel
theorem dX3_pay_82 : decode cX3_pay 82 = .ok (.ireturn, 1) := by decide +kernel
set_option maxRecDepth 20000 in
theorem ggX3_units_X3_saverAt : GoodIn wsX3_units wsX3_saverAt := goodIn_ca (goodIn_r _ [5, 6, 7, 8, 9, 10, 4, 11, 15, 16, 17, 18, 19, 20, 21, 22, 23] (by decide +kernel) (by decide +kernel)) (goodIn_sub (fun _ h => List.mem_cons_of_mem _ (List.mem_append_right _ h)) (by decide +kernel))
set_option maxRecDepth 20000 in
theorem gX3_units_X3_saverAt : GoodIn wsX3_units (wsV RX3 98 RX3 yX3_saverAt wsX3_saverAt) := goodIn_app (goodIn_of _ (by decide +kernel)) ggX3_units_X3_saverAt
theorem dX3_units_0 : decode cX3_units 0 = .ok (.aload_n 0, 1) := by decide +kernel
theorem dX3_units_1 : decode cX3_units 1 = .ok (.iload_n 1, 1) := by decide +kernel
theorem dX3_units_2 : decode cX3_units 2 = .ok (.invokevirtual 98, 3) := by decide +kernel
theorem dX3_units_5 : decode cX3_units 5 = .ok (.getfield 114, 3) := by decide +kernel
theorem dX3_units_8 : decode cX3_units 8 = .ok (.lreturn, 1) := by decide +kernel
set_option maxRecDepth 20000 in
theorem ggX3_provider_X3_saverAt : GoodIn wsX3_provider wsX3_saverAt := goodIn_ca (goodIn_r _ [5, 6, 7, 8, 9, 10, 4, 11, 15, 16, 17, 18, 19, 20, 21, 22, 23] (by decide +kernel) (by decide +kernel)) (goodIn_sub (fun _ h => List.mem_cons_of_mem _ (List.mem_append_right _ h)) (by decide +kernel))
set_option maxRecDepth 20000 in
theorem gX3_provider_X3_saverAt : GoodIn wsX3_provider (wsV RX3 98 RX3 yX3_saverAt wsX3_saverAt) := goodIn_app (goodIn_of _ (by decide +kernel)) ggX3_provider_X3_saverAt
theorem dX3_provider_0 : decode cX3_provider 0 = .ok (.aload_n 0, 1) := by decide +kernel
theorem dX3_provider_1 : decode cX3_provider 1 = .ok (.iload_n 1, 1) := by decide +kernel
theorem dX3_provider_2 : decode cX3_provider 2 = .ok (.invokevirtual 98, 3) := by decide +kernel
theorem dX3_provider_5 : decode cX3_provider 5 = .ok (.getfield 108, 3) := by decide +kernel
theorem dX3_provider_8 : decode cX3_provider 8 = .ok (.ireturn, 1) := by decide +kernel
set_option maxRecDepth 20000 in
theorem ggX3_order_X3_saverAt : GoodIn wsX3_order wsX3_saverAt := goodIn_ca (goodIn_r _ [15, 16, 17, 18, 19, 20, 14, 21, 47, 48, 49, 50, 51, 52, 53, 54, 55] (by decide +kernel) (by decide +kernel)) (goodIn_sub (fun _ h => List.mem_cons_of_mem _ (List.mem_append_right _ h)) (by decide +kernel))
set_option maxRecDepth 20000 in
theorem gX3_order_X3_saverAt : GoodIn wsX3_order (wsV RX3 98 RX3 yX3_saverAt wsX3_saverAt) := goodIn_app (goodIn_of _ (by decide +kernel)) ggX3_order_X3_saverAt
set_option maxRecDepth 20000 in
theorem ggX3_order_X3_checkProvider : GoodIn wsX3_order wsX3_checkProvider := goodIn_ca (goodIn_r _ [24, 1, 2, 25, 26, 14, 27, 19, 20, 21] (by decide +kernel) (by decide +kernel)) (goodIn_sub (fun _ h => List.mem_cons_of_mem _ (List.mem_append_left _ (List.mem_append_left _ (List.mem_append_right _ h)))) (by decide +kernel))
set_option maxRecDepth 20000 in
theorem gX3_order_X3_checkProvider : GoodIn wsX3_order (va_wsS RX3 122 yX3_checkProvider wsX3_checkProvider) := goodIn_app (goodIn_of _ (by decide +kernel)) ggX3_order_X3_checkProvider
set_option maxRecDepth 20000 in
theorem ggX3_order_X0_init : GoodIn wsX3_order wsX0_init := goodIn_r _ [30, 31, 32, 33, 34, 35, 36, 37, 38, 39, 40, 41, 42, 43, 56, 57, 58, 59, 60, 61, 62, 63, 64, 65, 44, 45, 46] (by decide +kernel) (by decide +kernel)
set_option maxRecDepth 20000 in
theorem gX3_order_X0_init : GoodIn wsX3_order (wsX0_init) := ggX3_order_X0_init
theorem dX3_order_0 : decode cX3_order 0 = .ok (.aload_n 0, 1) := by decide +kernel
theorem dX3_order_1 : decode cX3_order 1 = .ok (.iload_n 1, 1) := by decide +kernel
theorem dX3_order_2 : decode cX3_order 2 = .ok (.invokevirtual 98, 3) := by decide +kernel
theorem dX3_order_5 : decode cX3_order 5 = .ok (.astore_n 3, 1) := by decide +kernel
theorem dX3_order_6 : decode cX3_order 6 = .ok (.iload_n 2, 1) := by decide +kernel
theorem dX3_order_7 : decode cX3_order 7 = .ok (.invokestatic 122, 3) := by decide +kernel
theorem dX3_order_10 : decode cX3_order 10 = .ok (.iload_n 2, 1) := by decide +kernel
theorem dX3_order_11 : decode cX3_order 11 = .ok (.aload_n 3, 1) := by decide +kernel
theorem dX3_order_12 : decode cX3_order 12 = .ok (.getfield 108, 3) := by decide +kernel
theorem dX3_order_15 : decode cX3_order 15 = .ok (.if_icmp .ne 13, 3) := by decide +kernel
theorem dX3_order_18 : decode cX3_order 18 = .ok (.new 54, 3) := by decide +kernel
theorem dX3_order_21 : decode cX3_order 21 = .ok (.dup, 1) := by decide +kernel
theorem dX3_order_22 : decode cX3_order 22 = .ok (.ldc 125, 2) := by decide +kernel
theorem dX3_order_24 : decode cX3_order 24 = .ok (.invokespecial 58, 3) := by decide +kernel
theorem dX3_order_27 : decode cX3_order 27 = .ok (.athrow, 1) := by decide +kernel
theorem dX3_order_28 : decode cX3_order 28 = .ok (.aload_n 3, 1) := by decide +kernel
theorem dX3_order_29 : decode cX3_order 29 = .ok (.getfield 102, 3) := by decide +kernel
theorem dX3_order_32 : decode cX3_order 32 = .ok (.ifCond .eq 13, 3) := by decide +kernel
theorem dX3_order_35 : decode cX3_order 35 = .ok (.new 61, 3) := by decide +kernel
theorem dX3_order_38 : decode cX3_order 38 = .ok (.dup, 1) := by decide +kernel
theorem dX3_order_39 : decode cX3_order 39 = .ok (.ldc 106, 2) := by decide +kernel
theorem dX3_order_41 : decode cX3_order 41 = .ok (.invokespecial 65, 3) := by decide +kernel
theorem dX3_order_44 : decode cX3_order 44 = .ok (.athrow, 1) := by decide +kernel
theorem dX3_order_45 : decode cX3_order 45 = .ok (.aload_n 0, 1) := by decide +kernel
theorem dX3_order_46 : decode cX3_order 46 = .ok (.getfield 46, 3) := by decide +kernel
theorem dX3_order_49 : decode cX3_order 49 = .ok (.istore 4, 2) := by decide +kernel
theorem dX3_order_51 : decode cX3_order 51 = .ok (.iload 4, 2) := by decide +kernel
theorem dX3_order_53 : decode cX3_order 53 = .ok (.bipush 30, 2) := by decide +kernel
theorem dX3_order_55 : decode cX3_order 55 = .ok (.if_icmp .lt 13, 3) := by decide +kernel
theorem dX3_order_58 : decode cX3_order 58 = .ok (.new 61, 3) := by decide +kernel
theorem dX3_order_61 : decode cX3_order 61 = .ok (.dup, 1) := by decide +kernel
theorem dX3_order_62 : decode cX3_order 62 = .ok (.ldc 127, 2) := by decide +kernel
theorem dX3_order_64 : decode cX3_order 64 = .ok (.invokespecial 65, 3) := by decide +kernel
theorem dX3_order_67 : decode cX3_order 67 = .ok (.athrow, 1) := by decide +kernel
theorem dX3_order_68 : decode cX3_order 68 = .ok (.aload_n 0, 1) := by decide +kernel
theorem dX3_order_69 : decode cX3_order 69 = .ok (.getfield 32, 3) := by decide +kernel
theorem dX3_order_72 : decode cX3_order 72 = .ok (.iload 4, 2) := by decide +kernel
theorem dX3_order_74 : decode cX3_order 74 = .ok (.new 30, 3) := by decide +kernel
theorem dX3_order_77 : decode cX3_order 77 = .ok (.dup, 1) := by decide +kernel
theorem dX3_order_78 : decode cX3_order 78 = .ok (.aload_n 3, 1) := by decide +kernel
theorem dX3_order_79 : decode cX3_order 79 = .ok (.iload_n 2, 1) := by decide +kernel
theorem dX3_order_80 : decode cX3_order 80 = .ok (.aload_n 0, 1) := by decide +kernel
theorem dX3_order_81 : decode cX3_order 81 = .ok (.getfield 36, 3) := by decide +kernel
theorem dX3_order_84 : decode cX3_order 84 = .ok (.invokespecial 129, 3) := by decide +kernel
theorem dX3_order_87 : decode cX3_order 87 = .ok (.aastore, 1) := by decide +kernel
theorem dX3_order_88 : decode cX3_order 88 = .ok (.aload_n 0, 1) := by decide +kernel
theorem dX3_order_89 : decode cX3_order 89 = .ok (.iload 4, 2) := by decide +kernel
theorem dX3_order_91 : decode cX3_order 91 = .ok (.iconst 1, 1) := by decide +kernel
theorem dX3_order_92 : decode cX3_order 92 = .ok (.iadd, 1) := by decide +kernel
theorem dX3_order_93 : decode cX3_order 93 = .ok (.putfield 46, 3) := by decide +kernel
theorem dX3_order_96 : decode cX3_order 96 = .ok (.aload_n 3, 1) := by decide +kernel
theorem dX3_order_97 : decode cX3_order 97 = .ok (.iconst 1, 1) := by decide +kernel
theorem dX3_order_98 : decode cX3_order 98 = .ok (.putfield 102, 3) := by decide +kernel
theorem dX3_order_101 : decode cX3_order 101 = .ok (.iload 4, 2) := by decide +kernel
theorem dX3_order_103 : decode cX3_order 103 = .ok (.ireturn, 1) := by decide +kernel
set_option maxRecDepth 20000 in
theorem ggX3_step_X3_openOrderAt : GoodIn wsX3_step wsX3_openOrderAt := goodIn_ca (goodIn_ca (goodIn_r _ [5, 6, 7, 8, 9, 10, 4, 11, 12, 13, 14, 15, 16, 17, 110, 111, 112, 113, 114, 115, 116, 117, 118, 119, 120, 121, 122, 123, 124, 125, 126, 127, 128] (by decide +kernel) (by decide +kernel)) (goodIn_sub (fun _ h => List.mem_cons_of_mem _ (List.mem_append_left _ (List.mem_append_left _ (List.mem_append_right _ h)))) (by decide +kernel))) (goodIn_sub (fun _ h => List.mem_cons_of_mem _ (List.mem_append_left _ (List.mem_append_right _ h))) (by decide +kernel))
set_option maxRecDepth 20000 in
theorem gX3_step_X3_openOrderAt : GoodIn wsX3_step (wsV RX3 132 RX3 yX3_openOrderAt wsX3_openOrderAt) := goodIn_app (goodIn_of _ (by decide +kernel)) ggX3_step_X3_openOrderAt
set_option maxRecDepth 20000 in
theorem ggX3_step_X3_doNextStep : GoodIn wsX3_step wsX3_doNextStep := goodIn_ca (goodIn_ca (goodIn_r _ [21, 22, 23, 24, 25, 26, 27, 28, 29, 30, 31, 32, 33, 34, 35, 36, 37, 38, 39, 40, 4, 41, 42, 43, 44, 45, 46, 47, 48, 49, 50, 51, 52, 53, 54, 55, 56, 15, 16, 17, 57, 58, 59, 60, 61, 62, 63, 64, 65, 66, 67, 68, 69, 70, 71, 72, 73, 74, 75, 76, 77, 78, 79, 80, 81, 82, 83, 84, 85, 6, 7, 86, 87, 88, 89, 90, 91, 92, 93, 94, 95, 96, 97, 98, 99, 100, 101, 102, 103, 104, 105, 106, 107, 108, 109, 120, 121, 122, 123, 124, 125, 126, 127, 128, 110, 111, 112, 113, 114, 115, 116, 117, 118, 119, 129, 130, 131, 132, 133, 134] (by decide +kernel) (by decide +kernel)) (goodIn_sub (fun _ h => List.mem_cons_of_mem _ (List.mem_append_right _ h)) (by decide +kernel))) (goodIn_sub (fun _ h => List.mem_cons_of_mem _ (List.mem_append_left _ (List.mem_append_left _ (List.mem_append_right _ h)))) (by decide +kernel))
set_option maxRecDepth 20000 in
theorem gX3_step_X3_doNextStep : GoodIn wsX3_step (wsV RX3 136 RX3 yX3_doNextStep wsX3_doNextStep) := goodIn_app (goodIn_of _ (by decide +kernel)) ggX3_step_X3_doNextStep
theorem dX3_step_0 : decode cX3_step 0 = .ok (.aload_n 0, 1) := by decide +kernel
theorem dX3_step_1 : decode cX3_step 1 = .ok (.aload_n 0, 1) := by decide +kernel
theorem dX3_step_2 : decode cX3_step 2 = .ok (.iload_n 1, 1) := by decide +kernel
theorem dX3_step_3 : decode cX3_step 3 = .ok (.invokevirtual 132, 3) := by decide +kernel
theorem dX3_step_6 : decode cX3_step 6 = .ok (.iconst 0, 1) := by decide +kernel
theorem dX3_step_7 : decode cX3_step 7 = .ok (.invokevirtual 136, 3) := by decide +kernel
theorem dX3_step_10 : decode cX3_step 10 = .ok (.ireturn, 1) := by decide +kernel
set_option maxRecDepth 20000 in
theorem ggX3_force_X3_openOrderAt : GoodIn wsX3_force wsX3_openOrderAt := goodIn_ca (goodIn_ca (goodIn_r _ [8, 1, 2, 9, 10, 11, 7, 12, 13, 14, 15, 16, 17, 18, 119, 120, 121, 122, 123, 124, 125, 126, 127, 128, 110, 111, 112, 113, 114, 115, 116, 117, 118] (by decide +kernel) (by decide +kernel)) (goodIn_sub (fun _ h => List.mem_cons_of_mem _ (List.mem_append_left _ (List.mem_append_left _ (List.mem_append_right _ h)))) (by decide +kernel))) (goodIn_sub (fun _ h => List.mem_cons_of_mem _ (List.mem_append_left _ (List.mem_append_right _ h))) (by decide +kernel))
set_option maxRecDepth 20000 in
theorem gX3_force_X3_openOrderAt : GoodIn wsX3_force (wsV RX3 132 RX3 yX3_openOrderAt wsX3_openOrderAt) := goodIn_app (goodIn_of _ (by decide +kernel)) ggX3_force_X3_openOrderAt
set_option maxRecDepth 20000 in
theorem ggX3_force_X0_latenessOn : GoodIn wsX3_force wsX0_latenessOn := goodIn_r _ [23, 24, 25, 26, 27, 28, 29, 30, 22, 31, 32, 33, 119, 120, 121, 122, 123, 124, 125, 126, 127, 128] (by decide +kernel) (by decide +kernel)
set_option maxRecDepth 20000 in
theorem gX3_force_X0_latenessOn : GoodIn wsX3_force (wsV RX3 140 RX0 yX0_latenessOn wsX0_latenessOn) := goodIn_app (goodIn_of _ (by decide +kernel)) ggX3_force_X0_latenessOn
set_option maxRecDepth 20000 in
theorem ggX3_force_X3_doNextStep : GoodIn wsX3_force wsX3_doNextStep := goodIn_ca (goodIn_ca (goodIn_r _ [37, 3, 19, 20, 21, 22, 23, 24, 25, 26, 27, 28, 29, 30, 31, 32, 33, 38, 39, 40, 7, 41, 42, 43, 44, 45, 46, 47, 48, 49, 50, 51, 52, 53, 54, 55, 56, 16, 17, 18, 57, 58, 59, 60, 61, 62, 63, 64, 65, 66, 67, 68, 69, 70, 71, 72, 73, 74, 75, 76, 77, 78, 79, 80, 81, 82, 83, 84, 85, 1, 2, 86, 87, 88, 89, 90, 91, 92, 93, 94, 95, 96, 97, 98, 99, 100, 101, 102, 103, 104, 105, 106, 107, 108, 109, 110, 111, 112, 113, 114, 115, 116, 117, 118, 119, 120, 121, 122, 123, 124, 125, 126, 127, 128, 129, 130, 131, 132, 133, 134] (by decide +kernel) (by decide +kernel)) (goodIn_sub (fun _ h => List.mem_cons_of_mem _ (List.mem_append_right _ h)) (by decide +kernel))) (goodIn_sub (fun _ h => List.mem_cons_of_mem _ (List.mem_append_left _ (List.mem_append_left _ (List.mem_append_right _ h)))) (by decide +kernel))
set_option maxRecDepth 20000 in
theorem gX3_force_X3_doNextStep : GoodIn wsX3_force (wsV RX3 136 RX3 yX3_doNextStep wsX3_doNextStep) := goodIn_app (goodIn_of _ (by decide +kernel)) ggX3_force_X3_doNextStep
theorem dX3_force_0 : decode cX3_force 0 = .ok (.aload_n 0, 1) := by decide +kernel
theorem dX3_force_1 : decode cX3_force 1 = .ok (.iload_n 1, 1) := by decide +kernel
theorem dX3_force_2 : decode cX3_force 2 = .ok (.invokevirtual 132, 3) := by decide +kernel
theorem dX3_force_5 : decode cX3_force 5 = .ok (.astore_n 2, 1) := by decide +kernel
theorem dX3_force_6 : decode cX3_force 6 = .ok (.aload_n 2, 1) := by decide +kernel
theorem dX3_force_7 : decode cX3_force 7 = .ok (.aload_n 0, 1) := by decide +kernel
theorem dX3_force_8 : decode cX3_force 8 = .ok (.getfield 36, 3) := by decide +kernel
theorem dX3_force_11 : decode cX3_force 11 = .ok (.invokevirtual 140, 3) := by decide +kernel
theorem dX3_force_14 : decode cX3_force 14 = .ok (.bipush 10, 2) := by decide +kernel
theorem dX3_force_16 : decode cX3_force 16 = .ok (.if_icmp .gt 13, 3) := by decide +kernel
theorem dX3_force_19 : decode cX3_force 19 = .ok (.new 61, 3) := by decide +kernel
theorem dX3_force_22 : decode cX3_force 22 = .ok (.dup, 1) := by decide +kernel
theorem dX3_force_23 : decode cX3_force 23 = .ok (.ldc 143, 2) := by decide +kernel
theorem dX3_force_25 : decode cX3_force 25 = .ok (.invokespecial 65, 3) := by decide +kernel
theorem dX3_force_28 : decode cX3_force 28 = .ok (.athrow, 1) := by decide +kernel
theorem dX3_force_29 : decode cX3_force 29 = .ok (.aload_n 0, 1) := by decide +kernel
theorem dX3_force_30 : decode cX3_force 30 = .ok (.aload_n 2, 1) := by decide +kernel
theorem dX3_force_31 : decode cX3_force 31 = .ok (.iconst 1, 1) := by decide +kernel
theorem dX3_force_32 : decode cX3_force 32 = .ok (.invokevirtual 136, 3) := by decide +kernel
theorem dX3_force_35 : decode cX3_force 35 = .ok (.ireturn, 1) := by decide +kernel
set_option maxRecDepth 20000 in
theorem ggX3_stage_X3_orderAt : GoodIn wsX3_stage wsX3_orderAt := goodIn_ca (goodIn_r _ [5, 6, 7, 8, 9, 10, 4, 11, 22, 23, 24, 25, 26, 27, 28, 29, 30] (by decide +kernel) (by decide +kernel)) (goodIn_sub (fun _ h => List.mem_cons_of_mem _ (List.mem_append_right _ h)) (by decide +kernel))
set_option maxRecDepth 20000 in
theorem gX3_stage_X3_orderAt : GoodIn wsX3_stage (wsV RX3 145 RX3 yX3_orderAt wsX3_orderAt) := goodIn_app (goodIn_of _ (by decide +kernel)) ggX3_stage_X3_orderAt
theorem dX3_stage_0 : decode cX3_stage 0 = .ok (.aload_n 0, 1) := by decide +kernel
theorem dX3_stage_1 : decode cX3_stage 1 = .ok (.iload_n 1, 1) := by decide +kernel
theorem dX3_stage_2 : decode cX3_stage 2 = .ok (.invokevirtual 145, 3) := by decide +kernel
theorem dX3_stage_5 : decode cX3_stage 5 = .ok (.getfield 148, 3) := by decide +kernel
theorem dX3_stage_8 : decode cX3_stage 8 = .ok (.ireturn, 1) := by decide +kernel
set_option maxRecDepth 20000 in
theorem ggX3_due_X3_openOrderAt : GoodIn wsX3_due wsX3_openOrderAt := goodIn_ca (goodIn_ca (goodIn_r _ [5, 6, 7, 8, 9, 10, 4, 11, 12, 13, 14, 15, 16, 17, 25, 26, 27, 28, 29, 30, 31, 32, 33, 34, 35, 36, 37, 38, 39, 40, 41, 42, 43] (by decide +kernel) (by decide +kernel)) (goodIn_sub (fun _ h => List.mem_cons_of_mem _ (List.mem_append_left _ (List.mem_append_right _ h))) (by decide +kernel))) (goodIn_sub (fun _ h => List.mem_cons_of_mem _ (List.mem_append_right _ h)) (by decide +kernel))
set_option maxRecDepth 20000 in
theorem gX3_due_X3_openOrderAt : GoodIn wsX3_due (wsV RX3 132 RX3 yX3_openOrderAt wsX3_openOrderAt) := goodIn_app (goodIn_of _ (by decide +kernel)) ggX3_due_X3_openOrderAt
set_option maxRecDepth 20000 in
theorem ggX3_due_X0_dueDay : GoodIn wsX3_due wsX0_dueDay := goodIn_r _ [22, 23, 24, 25, 26, 27, 28, 29, 30, 31, 32, 33, 34] (by decide +kernel) (by decide +kernel)
set_option maxRecDepth 20000 in
theorem gX3_due_X0_dueDay : GoodIn wsX3_due (wsV RX3 151 RX0 yX0_dueDay wsX0_dueDay) := goodIn_app (goodIn_of _ (by decide +kernel)) ggX3_due_X0_dueDay
theorem dX3_due_0 : decode cX3_due 0 = .ok (.aload_n 0, 1) := by decide +kernel
theorem dX3_due_1 : decode cX3_due 1 = .ok (.iload_n 1, 1) := by decide +kernel
theorem dX3_due_2 : decode cX3_due 2 = .ok (.invokevirtual 132, 3) := by decide +kernel
theorem dX3_due_5 : decode cX3_due 5 = .ok (.invokevirtual 151, 3) := by decide +kernel
theorem dX3_due_8 : decode cX3_due 8 = .ok (.ireturn, 1) := by decide +kernel
set_option maxRecDepth 20000 in
theorem ggX3_late_X3_orderAt : GoodIn wsX3_late wsX3_orderAt := goodIn_ca (goodIn_r _ [5, 6, 7, 8, 9, 10, 4, 11, 22, 23, 24, 25, 26, 27, 28, 29, 30] (by decide +kernel) (by decide +kernel)) (goodIn_sub (fun _ h => List.mem_cons_of_mem _ (List.mem_append_right _ h)) (by decide +kernel))
set_option maxRecDepth 20000 in
theorem gX3_late_X3_orderAt : GoodIn wsX3_late (wsV RX3 145 RX3 yX3_orderAt wsX3_orderAt) := goodIn_app (goodIn_of _ (by decide +kernel)) ggX3_late_X3_orderAt
theorem dX3_late_0 : decode cX3_late 0 = .ok (.aload_n 0, 1) := by decide +kernel
theorem dX3_late_1 : decode cX3_late 1 = .ok (.iload_n 1, 1) := by decide +kernel
theorem dX3_late_2 : decode cX3_late 2 = .ok (.invokevirtual 145, 3) := by decide +kernel
theorem dX3_late_5 : decode cX3_late 5 = .ok (.astore_n 2, 1) := by decide +kernel
theorem dX3_late_6 : decode cX3_late 6 = .ok (.aload_n 2, 1) := by decide +kernel
theorem dX3_late_7 : decode cX3_late 7 = .ok (.getfield 155, 3) := by decide +kernel
theorem dX3_late_10 : decode cX3_late 10 = .ok (.aload_n 2, 1) := by decide +kernel
theorem dX3_late_11 : decode cX3_late 11 = .ok (.getfield 158, 3) := by decide +kernel
theorem dX3_late_14 : decode cX3_late 14 = .ok (.iadd, 1) := by decide +kernel
theorem dX3_late_15 : decode cX3_late 15 = .ok (.ireturn, 1) := by decide +kernel
set_option maxRecDepth 20000 in
theorem ggX3_money_X3_orderAt : GoodIn wsX3_money wsX3_orderAt := goodIn_ca (goodIn_r _ [5, 6, 7, 8, 9, 10, 4, 11, 22, 23, 24, 25, 26, 27, 28, 29, 30] (by decide +kernel) (by decide +kernel)) (goodIn_sub (fun _ h => List.mem_cons_of_mem _ (List.mem_append_right _ h)) (by decide +kernel))
set_option maxRecDepth 20000 in
theorem gX3_money_X3_orderAt : GoodIn wsX3_money (wsV RX3 145 RX3 yX3_orderAt wsX3_orderAt) := goodIn_app (goodIn_of _ (by decide +kernel)) ggX3_money_X3_orderAt
theorem dX3_money_0 : decode cX3_money 0 = .ok (.aload_n 0, 1) := by decide +kernel
theorem dX3_money_1 : decode cX3_money 1 = .ok (.iload_n 1, 1) := by decide +kernel
theorem dX3_money_2 : decode cX3_money 2 = .ok (.invokevirtual 145, 3) := by decide +kernel
theorem dX3_money_5 : decode cX3_money 5 = .ok (.getfield 161, 3) := by decide +kernel
theorem dX3_money_8 : decode cX3_money 8 = .ok (.lreturn, 1) := by decide +kernel
set_option maxRecDepth 20000 in
theorem ggX3_madeGood_X3_orderAt : GoodIn wsX3_madeGood wsX3_orderAt := goodIn_ca (goodIn_r _ [5, 6, 7, 8, 9, 10, 4, 11, 22, 23, 24, 25, 26, 27, 28, 29, 30] (by decide +kernel) (by decide +kernel)) (goodIn_sub (fun _ h => List.mem_cons_of_mem _ (List.mem_append_right _ h)) (by decide +kernel))
set_option maxRecDepth 20000 in
theorem gX3_madeGood_X3_orderAt : GoodIn wsX3_madeGood (wsV RX3 145 RX3 yX3_orderAt wsX3_orderAt) := goodIn_app (goodIn_of _ (by decide +kernel)) ggX3_madeGood_X3_orderAt
theorem dX3_madeGood_0 : decode cX3_madeGood 0 = .ok (.aload_n 0, 1) := by decide +kernel
theorem dX3_madeGood_1 : decode cX3_madeGood 1 = .ok (.iload_n 1, 1) := by decide +kernel
theorem dX3_madeGood_2 : decode cX3_madeGood 2 = .ok (.invokevirtual 145, 3) := by decide +kernel
theorem dX3_madeGood_5 : decode cX3_madeGood 5 = .ok (.getfield 164, 3) := by decide +kernel
theorem dX3_madeGood_8 : decode cX3_madeGood 8 = .ok (.lreturn, 1) := by decide +kernel
set_option maxRecDepth 20000 in
theorem ggX3_owes_X3_checkProvider : GoodIn wsX3_owes wsX3_checkProvider := goodIn_ca (goodIn_r _ [5, 6, 7, 8, 9, 4, 10, 11, 12, 13] (by decide +kernel) (by decide +kernel)) (goodIn_sub (fun _ h => List.mem_cons_of_mem _ (List.mem_append_right _ h)) (by decide +kernel))
set_option maxRecDepth 20000 in
theorem gX3_owes_X3_checkProvider : GoodIn wsX3_owes (va_wsS RX3 122 yX3_checkProvider wsX3_checkProvider) := goodIn_app (goodIn_of _ (by decide +kernel)) ggX3_owes_X3_checkProvider
theorem dX3_owes_0 : decode cX3_owes 0 = .ok (.iload_n 1, 1) := by decide +kernel
theorem dX3_owes_1 : decode cX3_owes 1 = .ok (.invokestatic 122, 3) := by decide +kernel
theorem dX3_owes_4 : decode cX3_owes 4 = .ok (.iload_n 2, 1) := by decide +kernel
theorem dX3_owes_5 : decode cX3_owes 5 = .ok (.invokestatic 122, 3) := by decide +kernel
theorem dX3_owes_8 : decode cX3_owes 8 = .ok (.aload_n 0, 1) := by decide +kernel
theorem dX3_owes_9 : decode cX3_owes 9 = .ok (.getfield 17, 3) := by decide +kernel
theorem dX3_owes_12 : decode cX3_owes 12 = .ok (.iload_n 1, 1) := by decide +kernel
theorem dX3_owes_13 : decode cX3_owes 13 = .ok (.aaload, 1) := by decide +kernel
theorem dX3_owes_14 : decode cX3_owes 14 = .ok (.iload_n 2, 1) := by decide +kernel
theorem dX3_owes_15 : decode cX3_owes 15 = .ok (.laload, 1) := by decide +kernel
theorem dX3_owes_16 : decode cX3_owes 16 = .ok (.aload_n 0, 1) := by decide +kernel
theorem dX3_owes_17 : decode cX3_owes 17 = .ok (.getfield 17, 3) := by decide +kernel
theorem dX3_owes_20 : decode cX3_owes 20 = .ok (.iload_n 2, 1) := by decide +kernel
theorem dX3_owes_21 : decode cX3_owes 21 = .ok (.aaload, 1) := by decide +kernel
theorem dX3_owes_22 : decode cX3_owes 22 = .ok (.iload_n 1, 1) := by decide +kernel
theorem dX3_owes_23 : decode cX3_owes 23 = .ok (.laload, 1) := by decide +kernel
theorem dX3_owes_24 : decode cX3_owes 24 = .ok (.lsub, 1) := by decide +kernel
theorem dX3_owes_25 : decode cX3_owes 25 = .ok (.lreturn, 1) := by decide +kernel
set_option maxRecDepth 20000 in
theorem ggX3_losses_X3_checkProvider : GoodIn wsX3_losses wsX3_checkProvider := goodIn_ca (goodIn_r _ [5, 6, 7, 8, 9, 4, 10, 11, 12, 13] (by decide +kernel) (by decide +kernel)) (goodIn_sub (fun _ h => List.mem_cons_of_mem _ (List.mem_append_right _ h)) (by decide +kernel))
set_option maxRecDepth 20000 in
theorem gX3_losses_X3_checkProvider : GoodIn wsX3_losses (va_wsS RX3 122 yX3_checkProvider wsX3_checkProvider) := goodIn_app (goodIn_of _ (by decide +kernel)) ggX3_losses_X3_checkProvider
theorem dX3_losses_0 : decode cX3_losses 0 = .ok (.iload_n 1, 1) := by decide +kernel
theorem dX3_losses_1 : decode cX3_losses 1 = .ok (.invokestatic 122, 3) := by decide +kernel
theorem dX3_losses_4 : decode cX3_losses 4 = .ok (.aload_n 0, 1) := by decide +kernel
theorem dX3_losses_5 : decode cX3_losses 5 = .ok (.getfield 20, 3) := by decide +kernel
theorem dX3_losses_8 : decode cX3_losses 8 = .ok (.iload_n 1, 1) := by decide +kernel
theorem dX3_losses_9 : decode cX3_losses 9 = .ok (.laload, 1) := by decide +kernel
theorem dX3_losses_10 : decode cX3_losses 10 = .ok (.lreturn, 1) := by decide +kernel
set_option maxRecDepth 20000 in
theorem ggX3_doNextStep_X0_latenessOn : GoodIn wsX3_doNextStep wsX0_latenessOn := goodIn_r _ [6, 7, 8, 9, 10, 11, 12, 13, 5, 14, 15, 16, 104, 105, 106, 107, 108, 109, 110, 111, 112, 113] (by decide +kernel) (by decide +kernel)
set_option maxRecDepth 20000 in
theorem gX3_doNextStep_X0_latenessOn : GoodIn wsX3_doNextStep (wsV RX3 140 RX0 yX0_latenessOn wsX0_latenessOn) := goodIn_app (goodIn_of _ (by decide +kernel)) ggX3_doNextStep_X0_latenessOn
set_option maxRecDepth 20000 in
theorem ggX3_doNextStep_X3_sell : GoodIn wsX3_doNextStep wsX3_sell := goodIn_ca (goodIn_r _ [21, 22, 23, 24, 25, 20, 26, 1, 27, 28, 29, 30, 31, 32, 33, 34, 35, 36, 37, 38, 39, 40, 41, 42, 43, 44, 45, 46, 47, 48, 49, 50, 51, 104, 105, 106, 107, 108, 109, 110, 111, 112, 113, 114, 115, 116, 95, 96, 97, 98, 99, 100, 101, 102, 103, 117, 118, 119] (by decide +kernel) (by decide +kernel)) (goodIn_sub (fun _ h => List.mem_cons_of_mem _ (List.mem_append_left _ (List.mem_append_right _ h))) (by decide +kernel))
set_option maxRecDepth 20000 in
theorem gX3_doNextStep_X3_sell : GoodIn wsX3_doNextStep (wsV RX3 167 RX3 yX3_sell wsX3_sell) := goodIn_app (goodIn_of _ (by decide +kernel)) ggX3_doNextStep_X3_sell
set_option maxRecDepth 20000 in
theorem ggX3_doNextStep_X3_buy : GoodIn wsX3_doNextStep wsX3_buy := goodIn_ca (goodIn_ca (goodIn_r _ [55, 22, 56, 57, 9, 58, 23, 24, 25, 20, 26, 1, 27, 28, 29, 30, 31, 32, 33, 34, 35, 36, 37, 38, 39, 40, 41, 42, 43, 44, 45, 46, 47, 59, 60, 61, 51, 62, 63, 64, 65, 48, 49, 50, 66, 67, 68, 69, 70, 71, 72, 73, 74, 75, 76, 77, 78, 79, 80, 81, 82, 83, 84, 85, 86, 87, 88, 104, 105, 106, 107, 108, 109, 110, 111, 112, 113, 95, 96, 97, 98, 99, 100, 101, 102, 103, 117, 118, 119, 114, 115, 116] (by decide +kernel) (by decide +kernel)) (goodIn_sub (fun _ h => List.mem_cons_of_mem _ (List.mem_append_left _ (List.mem_append_right _ h))) (by decide +kernel))) (goodIn_sub (fun _ h => List.mem_cons_of_mem _ (List.mem_append_right _ h)) (by decide +kernel))
set_option maxRecDepth 20000 in
theorem gX3_doNextStep_X3_buy : GoodIn wsX3_doNextStep (wsV RX3 171 RX3 yX3_buy wsX3_buy) := goodIn_app (goodIn_of _ (by decide +kernel)) ggX3_doNextStep_X3_buy
set_option maxRecDepth 20000 in
theorem ggX3_doNextStep_X0_goOn : GoodIn wsX3_doNextStep wsX0_goOn := goodIn_r _ [92, 15, 93, 94, 16, 104, 105, 106, 107, 108, 109, 110, 111, 112, 113] (by decide +kernel) (by decide +kernel)
set_option maxRecDepth 20000 in
theorem gX3_doNextStep_X0_goOn : GoodIn wsX3_doNextStep (wsV RX3 175 RX0 yX0_goOn wsX0_goOn) := goodIn_app (goodIn_of _ (by decide +kernel)) ggX3_doNextStep_X0_goOn
theorem dX3_doNextStep_0 : decode cX3_doNextStep 0 = .ok (.aload_n 1, 1) := by decide +kernel
theorem dX3_doNextStep_1 : decode cX3_doNextStep 1 = .ok (.aload_n 0, 1) := by decide +kernel
theorem dX3_doNextStep_2 : decode cX3_doNextStep 2 = .ok (.getfield 36, 3) := by decide +kernel
theorem dX3_doNextStep_5 : decode cX3_doNextStep 5 = .ok (.invokevirtual 140, 3) := by decide +kernel
theorem dX3_doNextStep_8 : decode cX3_doNextStep 8 = .ok (.istore_n 3, 1) := by decide +kernel
theorem dX3_doNextStep_9 : decode cX3_doNextStep 9 = .ok (.aload_n 1, 1) := by decide +kernel
theorem dX3_doNextStep_10 : decode cX3_doNextStep 10 = .ok (.getfield 148, 3) := by decide +kernel
theorem dX3_doNextStep_13 : decode cX3_doNextStep 13 = .ok (.iconst 1, 1) := by decide +kernel
theorem dX3_doNextStep_14 : decode cX3_doNextStep 14 = .ok (.if_icmp .ne 12, 3) := by decide +kernel
theorem dX3_doNextStep_17 : decode cX3_doNextStep 17 = .ok (.aload_n 0, 1) := by decide +kernel
theorem dX3_doNextStep_18 : decode cX3_doNextStep 18 = .ok (.aload_n 1, 1) := by decide +kernel
theorem dX3_doNextStep_19 : decode cX3_doNextStep 19 = .ok (.iload_n 2, 1) := by decide +kernel
theorem dX3_doNextStep_20 : decode cX3_doNextStep 20 = .ok (.invokevirtual 167, 3) := by decide +kernel
theorem dX3_doNextStep_23 : decode cX3_doNextStep 23 = .ok (.goto 18, 3) := by decide +kernel
theorem dX3_doNextStep_26 : decode cX3_doNextStep 26 = .ok (.aload_n 1, 1) := by decide +kernel
theorem dX3_doNextStep_27 : decode cX3_doNextStep 27 = .ok (.getfield 148, 3) := by decide +kernel
theorem dX3_doNextStep_30 : decode cX3_doNextStep 30 = .ok (.iconst 2, 1) := by decide +kernel
theorem dX3_doNextStep_31 : decode cX3_doNextStep 31 = .ok (.if_icmp .ne 10, 3) := by decide +kernel
theorem dX3_doNextStep_34 : decode cX3_doNextStep 34 = .ok (.aload_n 0, 1) := by decide +kernel
theorem dX3_doNextStep_35 : decode cX3_doNextStep 35 = .ok (.aload_n 1, 1) := by decide +kernel
theorem dX3_doNextStep_36 : decode cX3_doNextStep 36 = .ok (.iload_n 3, 1) := by decide +kernel
theorem dX3_doNextStep_37 : decode cX3_doNextStep 37 = .ok (.iload_n 2, 1) := by decide +kernel
theorem dX3_doNextStep_38 : decode cX3_doNextStep 38 = .ok (.invokevirtual 171, 3) := by decide +kernel
theorem dX3_doNextStep_41 : decode cX3_doNextStep 41 = .ok (.aload_n 1, 1) := by decide +kernel
theorem dX3_doNextStep_42 : decode cX3_doNextStep 42 = .ok (.aload_n 0, 1) := by decide +kernel
theorem dX3_doNextStep_43 : decode cX3_doNextStep 43 = .ok (.getfield 36, 3) := by decide +kernel
theorem dX3_doNextStep_46 : decode cX3_doNextStep 46 = .ok (.iload_n 3, 1) := by decide +kernel
theorem dX3_doNextStep_47 : decode cX3_doNextStep 47 = .ok (.invokevirtual 175, 3) := by decide +kernel
theorem dX3_doNextStep_50 : decode cX3_doNextStep 50 = .ok (.iload_n 3, 1) := by decide +kernel
theorem dX3_doNextStep_51 : decode cX3_doNextStep 51 = .ok (.ireturn, 1) := by decide +kernel
set_option maxRecDepth 20000 in
theorem ggX3_sell_X3_priceNow : GoodIn wsX3_sell wsX3_priceNow := goodIn_ca (goodIn_r _ [6, 7, 8, 9, 10, 5, 11, 12, 13, 14, 15, 16, 17, 18, 19, 20, 21, 22, 23, 24, 25, 26, 27, 28, 46, 47, 48, 49, 50, 51, 52, 53, 54, 55, 56, 57] (by decide +kernel) (by decide +kernel)) (goodIn_sub (fun _ h => List.mem_cons_of_mem _ (List.mem_append_right _ h)) (by decide +kernel))
set_option maxRecDepth 20000 in
theorem gX3_sell_X3_priceNow : GoodIn wsX3_sell (wsV RX3 111 RX3 yX3_priceNow wsX3_priceNow) := goodIn_app (goodIn_of _ (by decide +kernel)) ggX3_sell_X3_priceNow
set_option maxRecDepth 20000 in
theorem ggX3_sell_X3_moneyFor : GoodIn wsX3_sell wsX3_moneyFor := goodIn_r _ [31, 32] (by decide +kernel) (by decide +kernel)
set_option maxRecDepth 20000 in
theorem gX3_sell_X3_moneyFor : GoodIn wsX3_sell (va_wsS RX3 189 yX3_moneyFor wsX3_moneyFor) := goodIn_app (goodIn_of _ (by decide +kernel)) ggX3_sell_X3_moneyFor
theorem dX3_sell_0 : decode cX3_sell 0 = .ok (.aload_n 1, 1) := by decide +kernel
theorem dX3_sell_1 : decode cX3_sell 1 = .ok (.aload_n 1, 1) := by decide +kernel
theorem dX3_sell_2 : decode cX3_sell 2 = .ok (.getfield 179, 3) := by decide +kernel
theorem dX3_sell_5 : decode cX3_sell 5 = .ok (.getfield 114, 3) := by decide +kernel
theorem dX3_sell_8 : decode cX3_sell 8 = .ok (.putfield 183, 3) := by decide +kernel
theorem dX3_sell_11 : decode cX3_sell 11 = .ok (.aload_n 1, 1) := by decide +kernel
theorem dX3_sell_12 : decode cX3_sell 12 = .ok (.aload_n 1, 1) := by decide +kernel
theorem dX3_sell_13 : decode cX3_sell 13 = .ok (.getfield 183, 3) := by decide +kernel
theorem dX3_sell_16 : decode cX3_sell 16 = .ok (.iload_n 2, 1) := by decide +kernel
theorem dX3_sell_17 : decode cX3_sell 17 = .ok (.ifCond .eq 10, 3) := by decide +kernel
theorem dX3_sell_20 : decode cX3_sell 20 = .ok (.aload_n 0, 1) := by decide +kernel
theorem dX3_sell_21 : decode cX3_sell 21 = .ok (.getfield 40, 3) := by decide +kernel
theorem dX3_sell_24 : decode cX3_sell 24 = .ok (.goto 11, 3) := by decide +kernel
theorem dX3_sell_27 : decode cX3_sell 27 = .ok (.aload_n 0, 1) := by decide +kernel
theorem dX3_sell_28 : decode cX3_sell 28 = .ok (.aload_n 1, 1) := by decide +kernel
theorem dX3_sell_29 : decode cX3_sell 29 = .ok (.getfield 186, 3) := by decide +kernel
theorem dX3_sell_32 : decode cX3_sell 32 = .ok (.invokevirtual 111, 3) := by decide +kernel
theorem dX3_sell_35 : decode cX3_sell 35 = .ok (.invokestatic 189, 3) := by decide +kernel
theorem dX3_sell_38 : decode cX3_sell 38 = .ok (.putfield 161, 3) := by decide +kernel
theorem dX3_sell_41 : decode cX3_sell 41 = .ok (.aload_n 1, 1) := by decide +kernel
theorem dX3_sell_42 : decode cX3_sell 42 = .ok (.getfield 179, 3) := by decide +kernel
theorem dX3_sell_45 : decode cX3_sell 45 = .ok (.lconst 0, 1) := by decide +kernel
theorem dX3_sell_46 : decode cX3_sell 46 = .ok (.putfield 114, 3) := by decide +kernel
theorem dX3_sell_49 : decode cX3_sell 49 = .ok (.return_, 1) := by decide +kernel
set_option maxRecDepth 20000 in
theorem ggX3_buy_X3_priceNow : GoodIn wsX3_buy wsX3_priceNow := goodIn_ca (goodIn_r _ [10, 11, 12, 13, 14, 9, 15, 16, 17, 18, 19, 20, 21, 22, 23, 24, 25, 26, 27, 28, 29, 30, 31, 32, 77, 78, 79, 80, 81, 82, 83, 84, 85, 86, 87, 88] (by decide +kernel) (by decide +kernel)) (goodIn_sub (fun _ h => List.mem_cons_of_mem _ (List.mem_append_left _ (List.mem_append_right _ h))) (by decide +kernel))
set_option maxRecDepth 20000 in
theorem gX3_buy_X3_priceNow : GoodIn wsX3_buy (wsV RX3 111 RX3 yX3_priceNow wsX3_priceNow) := goodIn_app (goodIn_of _ (by decide +kernel)) ggX3_buy_X3_priceNow
set_option maxRecDepth 20000 in
theorem ggX3_buy_X3_thousandthsFor : GoodIn wsX3_buy wsX3_thousandthsFor := goodIn_r _ [35, 36] (by decide +kernel) (by decide +kernel)
set_option maxRecDepth 20000 in
theorem gX3_buy_X3_thousandthsFor : GoodIn wsX3_buy (va_wsS RX3 91 yX3_thousandthsFor wsX3_thousandthsFor) := goodIn_app (goodIn_of _ (by decide +kernel)) ggX3_buy_X3_thousandthsFor
set_option maxRecDepth 20000 in
theorem ggX3_buy_X3_timelyThousandths : GoodIn wsX3_buy wsX3_timelyThousandths := goodIn_ca (goodIn_r _ [40, 11, 12, 13, 14, 9, 15, 16, 17, 18, 19, 20, 21, 22, 23, 24, 25, 26, 27, 28, 29, 30, 31, 32, 41, 42, 43, 36, 33, 34, 35, 67, 68, 69, 70, 71, 72, 73, 74, 75, 76, 77, 78, 79, 80, 81, 82, 83, 84, 85, 86, 87, 88] (by decide +kernel) (by decide +kernel)) (goodIn_sub (fun _ h => List.mem_cons_of_mem _ (List.mem_append_left _ (List.mem_append_right _ h))) (by decide +kernel))
set_option maxRecDepth 20000 in
theorem gX3_buy_X3_timelyThousandths : GoodIn wsX3_buy (wsV RX3 195 RX3 yX3_timelyThousandths wsX3_timelyThousandths) := goodIn_app (goodIn_of _ (by decide +kernel)) ggX3_buy_X3_timelyThousandths
set_option maxRecDepth 20000 in
theorem ggX3_buy_X3_checkHolding : GoodIn wsX3_buy wsX3_checkHolding := goodIn_ca (goodIn_r _ [46, 47, 48, 49] (by decide +kernel) (by decide +kernel)) (goodIn_sub (fun _ h => List.mem_cons_of_mem _ (List.mem_append_right _ h)) (by decide +kernel))
set_option maxRecDepth 20000 in
theorem gX3_buy_X3_checkHolding : GoodIn wsX3_buy (va_wsS RX3 118 yX3_checkHolding wsX3_checkHolding) := goodIn_app (goodIn_of _ (by decide +kernel)) ggX3_buy_X3_checkHolding
set_option maxRecDepth 20000 in
theorem ggX3_buy_X3_costOf : GoodIn wsX3_buy wsX3_costOf := goodIn_r _ [52, 36] (by decide +kernel) (by decide +kernel)
set_option maxRecDepth 20000 in
theorem gX3_buy_X3_costOf : GoodIn wsX3_buy (va_wsS RX3 205 yX3_costOf wsX3_costOf) := goodIn_app (goodIn_of _ (by decide +kernel)) ggX3_buy_X3_costOf
set_option maxRecDepth 20000 in
theorem ggX3_buy_X3_shareCost : GoodIn wsX3_buy wsX3_shareCost := goodIn_r _ [56, 57, 58, 67, 68, 69, 70, 71, 72, 73, 74, 75, 76, 77, 78, 79, 80, 81, 82, 83, 84, 85] (by decide +kernel) (by decide +kernel)
set_option maxRecDepth 20000 in
theorem gX3_buy_X3_shareCost : GoodIn wsX3_buy (wsV RX3 208 RX3 yX3_shareCost wsX3_shareCost) := goodIn_app (goodIn_of _ (by decide +kernel)) ggX3_buy_X3_shareCost
set_option maxRecDepth 20000 in
theorem ggX3_buy_X2_arrive : GoodIn wsX3_buy wsX2_arrive := goodIn_r _ [63, 64, 65, 66, 89, 90, 91] (by decide +kernel) (by decide +kernel)
set_option maxRecDepth 20000 in
theorem gX3_buy_X2_arrive : GoodIn wsX3_buy (wsV RX3 212 RX2 yX2_arrive wsX2_arrive) := goodIn_app (goodIn_of _ (by decide +kernel)) ggX3_buy_X2_arrive
theorem dX3_buy_0 : decode cX3_buy 0 = .ok (.aload_n 0, 1) := by decide +kernel
theorem dX3_buy_1 : decode cX3_buy 1 = .ok (.aload_n 1, 1) := by decide +kernel
theorem dX3_buy_2 : decode cX3_buy 2 = .ok (.getfield 192, 3) := by decide +kernel
theorem dX3_buy_5 : decode cX3_buy 5 = .ok (.invokevirtual 111, 3) := by decide +kernel
theorem dX3_buy_8 : decode cX3_buy 8 = .ok (.istore 4, 2) := by decide +kernel
theorem dX3_buy_10 : decode cX3_buy 10 = .ok (.aload_n 1, 1) := by decide +kernel
theorem dX3_buy_11 : decode cX3_buy 11 = .ok (.getfield 161, 3) := by decide +kernel
theorem dX3_buy_14 : decode cX3_buy 14 = .ok (.iload_n 3, 1) := by decide +kernel
theorem dX3_buy_15 : decode cX3_buy 15 = .ok (.ifCond .eq 10, 3) := by decide +kernel
theorem dX3_buy_18 : decode cX3_buy 18 = .ok (.aload_n 0, 1) := by decide +kernel
theorem dX3_buy_19 : decode cX3_buy 19 = .ok (.getfield 40, 3) := by decide +kernel
theorem dX3_buy_22 : decode cX3_buy 22 = .ok (.goto 5, 3) := by decide +kernel
theorem dX3_buy_25 : decode cX3_buy 25 = .ok (.iload 4, 2) := by decide +kernel
theorem dX3_buy_27 : decode cX3_buy 27 = .ok (.invokestatic 91, 3) := by decide +kernel
theorem dX3_buy_30 : decode cX3_buy 30 = .ok (.lstore 5, 2) := by decide +kernel
theorem dX3_buy_32 : decode cX3_buy 32 = .ok (.aload_n 1, 1) := by decide +kernel
theorem dX3_buy_33 : decode cX3_buy 33 = .ok (.getfield 155, 3) := by decide +kernel
theorem dX3_buy_36 : decode cX3_buy 36 = .ok (.iload_n 2, 1) := by decide +kernel
theorem dX3_buy_37 : decode cX3_buy 37 = .ok (.iadd, 1) := by decide +kernel
theorem dX3_buy_38 : decode cX3_buy 38 = .ok (.istore 7, 2) := by decide +kernel
theorem dX3_buy_40 : decode cX3_buy 40 = .ok (.lconst 0, 1) := by decide +kernel
theorem dX3_buy_41 : decode cX3_buy 41 = .ok (.lstore 8, 2) := by decide +kernel
theorem dX3_buy_43 : decode cX3_buy 43 = .ok (.iload 7, 2) := by decide +kernel
theorem dX3_buy_45 : decode cX3_buy 45 = .ok (.ifCond .le 19, 3) := by decide +kernel
theorem dX3_buy_48 : decode cX3_buy 48 = .ok (.lconst 0, 1) := by decide +kernel
theorem dX3_buy_49 : decode cX3_buy 49 = .ok (.aload_n 0, 1) := by decide +kernel
theorem dX3_buy_50 : decode cX3_buy 50 = .ok (.aload_n 1, 1) := by decide +kernel
theorem dX3_buy_51 : decode cX3_buy 51 = .ok (.iload 7, 2) := by decide +kernel
theorem dX3_buy_53 : decode cX3_buy 53 = .ok (.invokevirtual 195, 3) := by decide +kernel
theorem dX3_buy_56 : decode cX3_buy 56 = .ok (.lload 5, 2) := by decide +kernel
theorem dX3_buy_58 : decode cX3_buy 58 = .ok (.lsub, 1) := by decide +kernel
theorem dX3_buy_59 : decode cX3_buy 59 = .ok (.invokestatic 199, 3) := by decide +kernel
theorem dX3_buy_62 : decode cX3_buy 62 = .ok (.lstore 8, 2) := by decide +kernel
theorem dX3_buy_64 : decode cX3_buy 64 = .ok (.lload 5, 2) := by decide +kernel
theorem dX3_buy_66 : decode cX3_buy 66 = .ok (.lload 8, 2) := by decide +kernel
theorem dX3_buy_68 : decode cX3_buy 68 = .ok (.ladd, 1) := by decide +kernel
theorem dX3_buy_69 : decode cX3_buy 69 = .ok (.invokestatic 118, 3) := by decide +kernel
theorem dX3_buy_72 : decode cX3_buy 72 = .ok (.aload_n 0, 1) := by decide +kernel
theorem dX3_buy_73 : decode cX3_buy 73 = .ok (.aload_n 1, 1) := by decide +kernel
theorem dX3_buy_74 : decode cX3_buy 74 = .ok (.lload 8, 2) := by decide +kernel
theorem dX3_buy_76 : decode cX3_buy 76 = .ok (.iload 4, 2) := by decide +kernel
theorem dX3_buy_78 : decode cX3_buy 78 = .ok (.invokestatic 205, 3) := by decide +kernel
theorem dX3_buy_81 : decode cX3_buy 81 = .ok (.iload 7, 2) := by decide +kernel
theorem dX3_buy_83 : decode cX3_buy 83 = .ok (.invokevirtual 208, 3) := by decide +kernel
theorem dX3_buy_86 : decode cX3_buy 86 = .ok (.aload_n 1, 1) := by decide +kernel
theorem dX3_buy_87 : decode cX3_buy 87 = .ok (.lload 8, 2) := by decide +kernel
theorem dX3_buy_89 : decode cX3_buy 89 = .ok (.putfield 164, 3) := by decide +kernel
theorem dX3_buy_92 : decode cX3_buy 92 = .ok (.aload_n 1, 1) := by decide +kernel
theorem dX3_buy_93 : decode cX3_buy 93 = .ok (.getfield 179, 3) := by decide +kernel
theorem dX3_buy_96 : decode cX3_buy 96 = .ok (.aload_n 1, 1) := by decide +kernel
theorem dX3_buy_97 : decode cX3_buy 97 = .ok (.getfield 192, 3) := by decide +kernel
theorem dX3_buy_100 : decode cX3_buy 100 = .ok (.lload 5, 2) := by decide +kernel
theorem dX3_buy_102 : decode cX3_buy 102 = .ok (.lload 8, 2) := by decide +kernel
theorem dX3_buy_104 : decode cX3_buy 104 = .ok (.ladd, 1) := by decide +kernel
theorem dX3_buy_105 : decode cX3_buy 105 = .ok (.invokevirtual 212, 3) := by decide +kernel
theorem dX3_buy_108 : decode cX3_buy 108 = .ok (.return_, 1) := by decide +kernel
set_option maxRecDepth 20000 in
theorem ggX3_timelyThousandths_X3_priceRowOf : GoodIn wsX3_timelyThousandths wsX3_priceRowOf := goodIn_ca (goodIn_r _ [6, 7, 8, 9, 10, 11, 5, 12, 13, 14, 15, 41, 42, 43, 44, 45, 46, 47, 48, 49] (by decide +kernel) (by decide +kernel)) (goodIn_sub (fun _ h => List.mem_cons_of_mem _ (List.mem_append_right _ h)) (by decide +kernel))
set_option maxRecDepth 20000 in
theorem gX3_timelyThousandths_X3_priceRowOf : GoodIn wsX3_timelyThousandths (wsV RX3 66 RX3 yX3_priceRowOf wsX3_priceRowOf) := goodIn_app (goodIn_of _ (by decide +kernel)) ggX3_timelyThousandths_X3_priceRowOf
set_option maxRecDepth 20000 in
theorem ggX3_timelyThousandths_X1_valueOn : GoodIn wsX3_timelyThousandths wsX1_valueOn := goodIn_r _ [20, 21, 22, 23, 50, 51, 52] (by decide +kernel) (by decide +kernel)
set_option maxRecDepth 20000 in
theorem gX3_timelyThousandths_X1_valueOn : GoodIn wsX3_timelyThousandths (wsV RX3 74 RX1 yX1_valueOn wsX1_valueOn) := goodIn_app (goodIn_of _ (by decide +kernel)) ggX3_timelyThousandths_X1_valueOn
set_option maxRecDepth 20000 in
theorem ggX3_timelyThousandths_X3_moneyFor : GoodIn wsX3_timelyThousandths wsX3_moneyFor := goodIn_r _ [26, 27] (by decide +kernel) (by decide +kernel)
set_option maxRecDepth 20000 in
theorem gX3_timelyThousandths_X3_moneyFor : GoodIn wsX3_timelyThousandths (va_wsS RX3 189 yX3_moneyFor wsX3_moneyFor) := goodIn_app (goodIn_of _ (by decide +kernel)) ggX3_timelyThousandths_X3_moneyFor
set_option maxRecDepth 20000 in
theorem ggX3_timelyThousandths_X3_thousandthsFor : GoodIn wsX3_timelyThousandths wsX3_thousandthsFor := goodIn_r _ [30, 27] (by decide +kernel) (by decide +kernel)
set_option maxRecDepth 20000 in
theorem gX3_timelyThousandths_X3_thousandthsFor : GoodIn wsX3_timelyThousandths (va_wsS RX3 91 yX3_thousandthsFor wsX3_thousandthsFor) := goodIn_app (goodIn_of _ (by decide +kernel)) ggX3_timelyThousandths_X3_thousandthsFor
theorem dX3_timelyThousandths_0 : decode cX3_timelyThousandths 0 = .ok (.aload_n 1, 1) := by decide +kernel
theorem dX3_timelyThousandths_1 : decode cX3_timelyThousandths 1 = .ok (.getfield 215, 3) := by decide +kernel
theorem dX3_timelyThousandths_4 : decode cX3_timelyThousandths 4 = .ok (.aload_n 1, 1) := by decide +kernel
theorem dX3_timelyThousandths_5 : decode cX3_timelyThousandths 5 = .ok (.getfield 155, 3) := by decide +kernel
theorem dX3_timelyThousandths_8 : decode cX3_timelyThousandths 8 = .ok (.isub, 1) := by decide +kernel
theorem dX3_timelyThousandths_9 : decode cX3_timelyThousandths 9 = .ok (.istore_n 3, 1) := by decide +kernel
theorem dX3_timelyThousandths_10 : decode cX3_timelyThousandths 10 = .ok (.aload_n 0, 1) := by decide +kernel
theorem dX3_timelyThousandths_11 : decode cX3_timelyThousandths 11 = .ok (.getfield 36, 3) := by decide +kernel
theorem dX3_timelyThousandths_14 : decode cX3_timelyThousandths 14 = .ok (.iload_n 2, 1) := by decide +kernel
theorem dX3_timelyThousandths_15 : decode cX3_timelyThousandths 15 = .ok (.isub, 1) := by decide +kernel
theorem dX3_timelyThousandths_16 : decode cX3_timelyThousandths 16 = .ok (.istore 4, 2) := by decide +kernel
theorem dX3_timelyThousandths_18 : decode cX3_timelyThousandths 18 = .ok (.aload_n 1, 1) := by decide +kernel
theorem dX3_timelyThousandths_19 : decode cX3_timelyThousandths 19 = .ok (.getfield 183, 3) := by decide +kernel
theorem dX3_timelyThousandths_22 : decode cX3_timelyThousandths 22 = .ok (.aload_n 0, 1) := by decide +kernel
theorem dX3_timelyThousandths_23 : decode cX3_timelyThousandths 23 = .ok (.aload_n 1, 1) := by decide +kernel
theorem dX3_timelyThousandths_24 : decode cX3_timelyThousandths 24 = .ok (.getfield 186, 3) := by decide +kernel
theorem dX3_timelyThousandths_27 : decode cX3_timelyThousandths 27 = .ok (.invokevirtual 66, 3) := by decide +kernel
theorem dX3_timelyThousandths_30 : decode cX3_timelyThousandths 30 = .ok (.iload_n 3, 1) := by decide +kernel
theorem dX3_timelyThousandths_31 : decode cX3_timelyThousandths 31 = .ok (.invokevirtual 74, 3) := by decide +kernel
theorem dX3_timelyThousandths_34 : decode cX3_timelyThousandths 34 = .ok (.invokestatic 189, 3) := by decide +kernel
theorem dX3_timelyThousandths_37 : decode cX3_timelyThousandths 37 = .ok (.lstore 5, 2) := by decide +kernel
theorem dX3_timelyThousandths_39 : decode cX3_timelyThousandths 39 = .ok (.lload 5, 2) := by decide +kernel
theorem dX3_timelyThousandths_41 : decode cX3_timelyThousandths 41 = .ok (.aload_n 0, 1) := by decide +kernel
theorem dX3_timelyThousandths_42 : decode cX3_timelyThousandths 42 = .ok (.aload_n 1, 1) := by decide +kernel
theorem dX3_timelyThousandths_43 : decode cX3_timelyThousandths 43 = .ok (.getfield 192, 3) := by decide +kernel
theorem dX3_timelyThousandths_46 : decode cX3_timelyThousandths 46 = .ok (.invokevirtual 66, 3) := by decide +kernel
theorem dX3_timelyThousandths_49 : decode cX3_timelyThousandths 49 = .ok (.iload 4, 2) := by decide +kernel
theorem dX3_timelyThousandths_51 : decode cX3_timelyThousandths 51 = .ok (.invokevirtual 74, 3) := by decide +kernel
theorem dX3_timelyThousandths_54 : decode cX3_timelyThousandths 54 = .ok (.invokestatic 91, 3) := by decide +kernel
theorem dX3_timelyThousandths_57 : decode cX3_timelyThousandths 57 = .ok (.lreturn, 1) := by decide +kernel
theorem dX3_shareCost_0 : decode cX3_shareCost 0 = .ok (.iload 4, 2) := by decide +kernel
theorem dX3_shareCost_2 : decode cX3_shareCost 2 = .ok (.ifCond .gt 4, 3) := by decide +kernel
theorem dX3_shareCost_5 : decode cX3_shareCost 5 = .ok (.return_, 1) := by decide +kernel
theorem dX3_shareCost_6 : decode cX3_shareCost 6 = .ok (.lload_n 2, 1) := by decide +kernel
theorem dX3_shareCost_7 : decode cX3_shareCost 7 = .ok (.aload_n 1, 1) := by decide +kernel
theorem dX3_shareCost_8 : decode cX3_shareCost 8 = .ok (.getfield 155, 3) := by decide +kernel
theorem dX3_shareCost_11 : decode cX3_shareCost 11 = .ok (.i2l, 1) := by decide +kernel
theorem dX3_shareCost_12 : decode cX3_shareCost 12 = .ok (.lmul, 1) := by decide +kernel
theorem dX3_shareCost_13 : decode cX3_shareCost 13 = .ok (.iload 4, 2) := by decide +kernel
theorem dX3_shareCost_15 : decode cX3_shareCost 15 = .ok (.i2l, 1) := by decide +kernel
theorem dX3_shareCost_16 : decode cX3_shareCost 16 = .ok (.ldiv, 1) := by decide +kernel
theorem dX3_shareCost_17 : decode cX3_shareCost 17 = .ok (.lstore 5, 2) := by decide +kernel
theorem dX3_shareCost_19 : decode cX3_shareCost 19 = .ok (.aload_n 0, 1) := by decide +kernel
theorem dX3_shareCost_20 : decode cX3_shareCost 20 = .ok (.getfield 17, 3) := by decide +kernel
theorem dX3_shareCost_23 : decode cX3_shareCost 23 = .ok (.aload_n 1, 1) := by decide +kernel
theorem dX3_shareCost_24 : decode cX3_shareCost 24 = .ok (.getfield 186, 3) := by decide +kernel
theorem dX3_shareCost_27 : decode cX3_shareCost 27 = .ok (.aaload, 1) := by decide +kernel
theorem dX3_shareCost_28 : decode cX3_shareCost 28 = .ok (.aload_n 1, 1) := by decide +kernel
theorem dX3_shareCost_29 : decode cX3_shareCost 29 = .ok (.getfield 192, 3) := by decide +kernel
theorem dX3_shareCost_32 : decode cX3_shareCost 32 = .ok (.dup2, 1) := by decide +kernel
theorem dX3_shareCost_33 : decode cX3_shareCost 33 = .ok (.laload, 1) := by decide +kernel
theorem dX3_shareCost_34 : decode cX3_shareCost 34 = .ok (.lload 5, 2) := by decide +kernel
theorem dX3_shareCost_36 : decode cX3_shareCost 36 = .ok (.ladd, 1) := by decide +kernel
theorem dX3_shareCost_37 : decode cX3_shareCost 37 = .ok (.lastore, 1) := by decide +kernel
theorem dX3_shareCost_38 : decode cX3_shareCost 38 = .ok (.aload_n 0, 1) := by decide +kernel
theorem dX3_shareCost_39 : decode cX3_shareCost 39 = .ok (.getfield 20, 3) := by decide +kernel
theorem dX3_shareCost_42 : decode cX3_shareCost 42 = .ok (.aload_n 1, 1) := by decide +kernel
theorem dX3_shareCost_43 : decode cX3_shareCost 43 = .ok (.getfield 192, 3) := by decide +kernel
theorem dX3_shareCost_46 : decode cX3_shareCost 46 = .ok (.dup2, 1) := by decide +kernel
theorem dX3_shareCost_47 : decode cX3_shareCost 47 = .ok (.laload, 1) := by decide +kernel
theorem dX3_shareCost_48 : decode cX3_shareCost 48 = .ok (.lload_n 2, 1) := by decide +kernel
theorem dX3_shareCost_49 : decode cX3_shareCost 49 = .ok (.lload 5, 2) := by decide +kernel
theorem dX3_shareCost_51 : decode cX3_shareCost 51 = .ok (.lsub, 1) := by decide +kernel
theorem dX3_shareCost_52 : decode cX3_shareCost 52 = .ok (.ladd, 1) := by decide +kernel
theorem dX3_shareCost_53 : decode cX3_shareCost 53 = .ok (.lastore, 1) := by decide +kernel
theorem dX3_shareCost_54 : decode cX3_shareCost 54 = .ok (.return_, 1) := by decide +kernel
theorem dX3_thousandthsFor_0 : decode cX3_thousandthsFor 0 = .ok (.iload_n 2, 1) := by decide +kernel
theorem dX3_thousandthsFor_1 : decode cX3_thousandthsFor 1 = .ok (.ifCond .gt 5, 3) := by decide +kernel
theorem dX3_thousandthsFor_4 : decode cX3_thousandthsFor 4 = .ok (.lconst 0, 1) := by decide +kernel
theorem dX3_thousandthsFor_5 : decode cX3_thousandthsFor 5 = .ok (.lreturn, 1) := by decide +kernel
theorem dX3_thousandthsFor_6 : decode cX3_thousandthsFor 6 = .ok (.lload_n 0, 1) := by decide +kernel
theorem dX3_thousandthsFor_7 : decode cX3_thousandthsFor 7 = .ok (.ldc2_w 218, 3) := by decide +kernel
theorem dX3_thousandthsFor_10 : decode cX3_thousandthsFor 10 = .ok (.lmul, 1) := by decide +kernel
theorem dX3_thousandthsFor_11 : decode cX3_thousandthsFor 11 = .ok (.iload_n 2, 1) := by decide +kernel
theorem dX3_thousandthsFor_12 : decode cX3_thousandthsFor 12 = .ok (.i2l, 1) := by decide +kernel
theorem dX3_thousandthsFor_13 : decode cX3_thousandthsFor 13 = .ok (.ldiv, 1) := by decide +kernel
theorem dX3_thousandthsFor_14 : decode cX3_thousandthsFor 14 = .ok (.lreturn, 1) := by decide +kernel
theorem dX3_moneyFor_0 : decode cX3_moneyFor 0 = .ok (.lload_n 0, 1) := by decide +kernel
theorem dX3_moneyFor_1 : decode cX3_moneyFor 1 = .ok (.iload_n 2, 1) := by decide +kernel
theorem dX3_moneyFor_2 : decode cX3_moneyFor 2 = .ok (.i2l, 1) := by decide +kernel
theorem dX3_moneyFor_3 : decode cX3_moneyFor 3 = .ok (.lmul, 1) := by decide +kernel
theorem dX3_moneyFor_4 : decode cX3_moneyFor 4 = .ok (.ldc2_w 218, 3) := by decide +kernel
theorem dX3_moneyFor_7 : decode cX3_moneyFor 7 = .ok (.ldiv, 1) := by decide +kernel
theorem dX3_moneyFor_8 : decode cX3_moneyFor 8 = .ok (.lreturn, 1) := by decide +kernel
theorem dX3_costOf_0 : decode cX3_costOf 0 = .ok (.lload_n 0, 1) := by decide +kernel
theorem dX3_costOf_1 : decode cX3_costOf 1 = .ok (.iload_n 2, 1) := by decide +kernel
theorem dX3_costOf_2 : decode cX3_costOf 2 = .ok (.i2l, 1) := by decide +kernel
theorem dX3_costOf_3 : decode cX3_costOf 3 = .ok (.lmul, 1) := by decide +kernel
theorem dX3_costOf_4 : decode cX3_costOf 4 = .ok (.ldc2_w 218, 3) := by decide +kernel
theorem dX3_costOf_7 : decode cX3_costOf 7 = .ok (.ladd, 1) := by decide +kernel
theorem dX3_costOf_8 : decode cX3_costOf 8 = .ok (.lconst 1, 1) := by decide +kernel
theorem dX3_costOf_9 : decode cX3_costOf 9 = .ok (.lsub, 1) := by decide +kernel
theorem dX3_costOf_10 : decode cX3_costOf 10 = .ok (.ldc2_w 218, 3) := by decide +kernel
theorem dX3_costOf_13 : decode cX3_costOf 13 = .ok (.ldiv, 1) := by decide +kernel
theorem dX3_costOf_14 : decode cX3_costOf 14 = .ok (.lreturn, 1) := by decide +kernel
theorem dX3_isOutside_0 : decode cX3_isOutside 0 = .ok (.iload_n 0, 1) := by decide +kernel
theorem dX3_isOutside_1 : decode cX3_isOutside 1 = .ok (.iload_n 1, 1) := by decide +kernel
theorem dX3_isOutside_2 : decode cX3_isOutside 2 = .ok (.if_icmp .lt 8, 3) := by decide +kernel
theorem dX3_isOutside_5 : decode cX3_isOutside 5 = .ok (.iload_n 0, 1) := by decide +kernel
theorem dX3_isOutside_6 : decode cX3_isOutside 6 = .ok (.iload_n 2, 1) := by decide +kernel
theorem dX3_isOutside_7 : decode cX3_isOutside 7 = .ok (.if_icmp .le 7, 3) := by decide +kernel
theorem dX3_isOutside_10 : decode cX3_isOutside 10 = .ok (.iconst 1, 1) := by decide +kernel
theorem dX3_isOutside_11 : decode cX3_isOutside 11 = .ok (.goto 4, 3) := by decide +kernel
theorem dX3_isOutside_14 : decode cX3_isOutside 14 = .ok (.iconst 0, 1) := by decide +kernel
theorem dX3_isOutside_15 : decode cX3_isOutside 15 = .ok (.ireturn, 1) := by decide +kernel
set_option maxRecDepth 20000 in
theorem ggX3_priceNow_X3_priceRowOf : GoodIn wsX3_priceNow wsX3_priceRowOf := goodIn_ca (goodIn_r _ [6, 7, 8, 9, 10, 11, 5, 12, 13, 14, 15, 24, 25, 26, 27, 28, 29, 30, 31, 32] (by decide +kernel) (by decide +kernel)) (goodIn_sub (fun _ h => List.mem_cons_of_mem _ (List.mem_append_right _ h)) (by decide +kernel))
set_option maxRecDepth 20000 in
theorem gX3_priceNow_X3_priceRowOf : GoodIn wsX3_priceNow (wsV RX3 66 RX3 yX3_priceRowOf wsX3_priceRowOf) := goodIn_app (goodIn_of _ (by decide +kernel)) ggX3_priceNow_X3_priceRowOf
set_option maxRecDepth 20000 in
theorem ggX3_priceNow_X1_valueOn : GoodIn wsX3_priceNow wsX1_valueOn := goodIn_r _ [20, 21, 22, 23, 33, 34, 35] (by decide +kernel) (by decide +kernel)
set_option maxRecDepth 20000 in
theorem gX3_priceNow_X1_valueOn : GoodIn wsX3_priceNow (wsV RX3 74 RX1 yX1_valueOn wsX1_valueOn) := goodIn_app (goodIn_of _ (by decide +kernel)) ggX3_priceNow_X1_valueOn
theorem dX3_priceNow_0 : decode cX3_priceNow 0 = .ok (.aload_n 0, 1) := by decide +kernel
theorem dX3_priceNow_1 : decode cX3_priceNow 1 = .ok (.iload_n 1, 1) := by decide +kernel
theorem dX3_priceNow_2 : decode cX3_priceNow 2 = .ok (.invokevirtual 66, 3) := by decide +kernel
theorem dX3_priceNow_5 : decode cX3_priceNow 5 = .ok (.aload_n 0, 1) := by decide +kernel
theorem dX3_priceNow_6 : decode cX3_priceNow 6 = .ok (.getfield 36, 3) := by decide +kernel
theorem dX3_priceNow_9 : decode cX3_priceNow 9 = .ok (.invokevirtual 74, 3) := by decide +kernel
theorem dX3_priceNow_12 : decode cX3_priceNow 12 = .ok (.ireturn, 1) := by decide +kernel
set_option maxRecDepth 20000 in
theorem ggX3_priceRowOf_X3_isProvider : GoodIn wsX3_priceRowOf wsX3_isProvider := goodIn_r _ [7, 8, 9, 6, 10] (by decide +kernel) (by decide +kernel)
set_option maxRecDepth 20000 in
theorem gX3_priceRowOf_X3_isProvider : GoodIn wsX3_priceRowOf (va_wsS RX3 220 yX3_isProvider wsX3_isProvider) := goodIn_app (goodIn_of _ (by decide +kernel)) ggX3_priceRowOf_X3_isProvider
theorem dX3_priceRowOf_0 : decode cX3_priceRowOf 0 = .ok (.iload_n 1, 1) := by decide +kernel
theorem dX3_priceRowOf_1 : decode cX3_priceRowOf 1 = .ok (.invokestatic 220, 3) := by decide +kernel
theorem dX3_priceRowOf_4 : decode cX3_priceRowOf 4 = .ok (.ifCond .eq 12, 3) := by decide +kernel
theorem dX3_priceRowOf_7 : decode cX3_priceRowOf 7 = .ok (.aload_n 0, 1) := by decide +kernel
theorem dX3_priceRowOf_8 : decode cX3_priceRowOf 8 = .ok (.getfield 11, 3) := by decide +kernel
theorem dX3_priceRowOf_11 : decode cX3_priceRowOf 11 = .ok (.iload_n 1, 1) := by decide +kernel
theorem dX3_priceRowOf_12 : decode cX3_priceRowOf 12 = .ok (.aaload, 1) := by decide +kernel
theorem dX3_priceRowOf_13 : decode cX3_priceRowOf 13 = .ok (.goto 4, 3) := by decide +kernel
theorem dX3_priceRowOf_16 : decode cX3_priceRowOf 16 = .ok (.aconst_null, 1) := by decide +kernel
theorem dX3_priceRowOf_17 : decode cX3_priceRowOf 17 = .ok (.astore_n 2, 1) := by decide +kernel
theorem dX3_priceRowOf_18 : decode cX3_priceRowOf 18 = .ok (.aload_n 2, 1) := by decide +kernel
theorem dX3_priceRowOf_19 : decode cX3_priceRowOf 19 = .ok (.ifnonnull 13, 3) := by decide +kernel
theorem dX3_priceRowOf_22 : decode cX3_priceRowOf 22 = .ok (.new 54, 3) := by decide +kernel
theorem dX3_priceRowOf_25 : decode cX3_priceRowOf 25 = .ok (.dup, 1) := by decide +kernel
theorem dX3_priceRowOf_26 : decode cX3_priceRowOf 26 = .ok (.ldc 224, 2) := by decide +kernel
theorem dX3_priceRowOf_28 : decode cX3_priceRowOf 28 = .ok (.invokespecial 58, 3) := by decide +kernel
theorem dX3_priceRowOf_31 : decode cX3_priceRowOf 31 = .ok (.athrow, 1) := by decide +kernel
theorem dX3_priceRowOf_32 : decode cX3_priceRowOf 32 = .ok (.aload_n 2, 1) := by decide +kernel
theorem dX3_priceRowOf_33 : decode cX3_priceRowOf 33 = .ok (.areturn, 1) := by decide +kernel
set_option maxRecDepth 20000 in
theorem ggX3_isProvider_X3_isOutside : GoodIn wsX3_isProvider wsX3_isOutside := goodIn_r _ [4] (by decide +kernel) (by decide +kernel)
set_option maxRecDepth 20000 in
theorem gX3_isProvider_X3_isOutside : GoodIn wsX3_isProvider (va_wsS RX3 50 yX3_isOutside wsX3_isOutside) := goodIn_app (goodIn_of _ (by decide +kernel)) ggX3_isProvider_X3_isOutside
theorem dX3_isProvider_0 : decode cX3_isProvider 0 = .ok (.iload_n 0, 1) := by decide +kernel
theorem dX3_isProvider_1 : decode cX3_isProvider 1 = .ok (.iconst 0, 1) := by decide +kernel
theorem dX3_isProvider_2 : decode cX3_isProvider 2 = .ok (.iconst 4, 1) := by decide +kernel
theorem dX3_isProvider_3 : decode cX3_isProvider 3 = .ok (.invokestatic 50, 3) := by decide +kernel
theorem dX3_isProvider_6 : decode cX3_isProvider 6 = .ok (.ifCond .ne 7, 3) := by decide +kernel
theorem dX3_isProvider_9 : decode cX3_isProvider 9 = .ok (.iconst 1, 1) := by decide +kernel
theorem dX3_isProvider_10 : decode cX3_isProvider 10 = .ok (.goto 4, 3) := by decide +kernel
theorem dX3_isProvider_13 : decode cX3_isProvider 13 = .ok (.iconst 0, 1) := by decide +kernel
theorem dX3_isProvider_14 : decode cX3_isProvider 14 = .ok (.ireturn, 1) := by decide +kernel
set_option maxRecDepth 20000 in
theorem ggX3_checkProvider_X3_isProvider : GoodIn wsX3_checkProvider wsX3_isProvider := goodIn_r _ [6, 7, 8, 5, 9] (by decide +kernel) (by decide +kernel)
set_option maxRecDepth 20000 in
theorem gX3_checkProvider_X3_isProvider : GoodIn wsX3_checkProvider (va_wsS RX3 220 yX3_isProvider wsX3_isProvider) := goodIn_app (goodIn_of _ (by decide +kernel)) ggX3_checkProvider_X3_isProvider
theorem dX3_checkProvider_0 : decode cX3_checkProvider 0 = .ok (.iload_n 0, 1) := by decide +kernel
theorem dX3_checkProvider_1 : decode cX3_checkProvider 1 = .ok (.invokestatic 220, 3) := by decide +kernel
theorem dX3_checkProvider_4 : decode cX3_checkProvider 4 = .ok (.ifCond .ne 13, 3) := by decide +kernel
theorem dX3_checkProvider_7 : decode cX3_checkProvider 7 = .ok (.new 54, 3) := by decide +kernel
theorem dX3_checkProvider_10 : decode cX3_checkProvider 10 = .ok (.dup, 1) := by decide +kernel
theorem dX3_checkProvider_11 : decode cX3_checkProvider 11 = .ok (.ldc 224, 2) := by decide +kernel
theorem dX3_checkProvider_13 : decode cX3_checkProvider 13 = .ok (.invokespecial 58, 3) := by decide +kernel
theorem dX3_checkProvider_16 : decode cX3_checkProvider 16 = .ok (.athrow, 1) := by decide +kernel
theorem dX3_checkProvider_17 : decode cX3_checkProvider 17 = .ok (.return_, 1) := by decide +kernel
set_option maxRecDepth 20000 in
theorem ggX3_checkPrice_X3_isOutside : GoodIn wsX3_checkPrice wsX3_isOutside := goodIn_r _ [6] (by decide +kernel) (by decide +kernel)
set_option maxRecDepth 20000 in
theorem gX3_checkPrice_X3_isOutside : GoodIn wsX3_checkPrice (va_wsS RX3 50 yX3_isOutside wsX3_isOutside) := goodIn_app (goodIn_of _ (by decide +kernel)) ggX3_checkPrice_X3_isOutside
theorem dX3_checkPrice_0 : decode cX3_checkPrice 0 = .ok (.iload_n 0, 1) := by decide +kernel
theorem dX3_checkPrice_1 : decode cX3_checkPrice 1 = .ok (.bipush 100, 2) := by decide +kernel
theorem dX3_checkPrice_3 : decode cX3_checkPrice 3 = .ok (.sipush 10000, 3) := by decide +kernel
theorem dX3_checkPrice_6 : decode cX3_checkPrice 6 = .ok (.invokestatic 50, 3) := by decide +kernel
theorem dX3_checkPrice_9 : decode cX3_checkPrice 9 = .ok (.ifCond .eq 13, 3) := by decide +kernel
theorem dX3_checkPrice_12 : decode cX3_checkPrice 12 = .ok (.new 54, 3) := by decide +kernel
theorem dX3_checkPrice_15 : decode cX3_checkPrice 15 = .ok (.dup, 1) := by decide +kernel
theorem dX3_checkPrice_16 : decode cX3_checkPrice 16 = .ok (.ldc 226, 2) := by decide +kernel
theorem dX3_checkPrice_18 : decode cX3_checkPrice 18 = .ok (.invokespecial 58, 3) := by decide +kernel
theorem dX3_checkPrice_21 : decode cX3_checkPrice 21 = .ok (.athrow, 1) := by decide +kernel
theorem dX3_checkPrice_22 : decode cX3_checkPrice 22 = .ok (.return_, 1) := by decide +kernel
theorem dX3_checkHolding_0 : decode cX3_checkHolding 0 = .ok (.lload_n 0, 1) := by decide +kernel
theorem dX3_checkHolding_1 : decode cX3_checkHolding 1 = .ok (.ldc2_w 228, 3) := by decide +kernel
theorem dX3_checkHolding_4 : decode cX3_checkHolding 4 = .ok (.lcmp, 1) := by decide +kernel
theorem dX3_checkHolding_5 : decode cX3_checkHolding 5 = .ok (.ifCond .le 13, 3) := by decide +kernel
theorem dX3_checkHolding_8 : decode cX3_checkHolding 8 = .ok (.new 61, 3) := by decide +kernel
theorem dX3_checkHolding_11 : decode cX3_checkHolding 11 = .ok (.dup, 1) := by decide +kernel
theorem dX3_checkHolding_12 : decode cX3_checkHolding 12 = .ok (.ldc 230, 2) := by decide +kernel
theorem dX3_checkHolding_14 : decode cX3_checkHolding 14 = .ok (.invokespecial 65, 3) := by decide +kernel
theorem dX3_checkHolding_17 : decode cX3_checkHolding 17 = .ok (.athrow, 1) := by decide +kernel
theorem dX3_checkHolding_18 : decode cX3_checkHolding 18 = .ok (.return_, 1) := by decide +kernel
set_option maxRecDepth 20000 in
theorem ggX3_saverAt_X3_isOutside : GoodIn wsX3_saverAt wsX3_isOutside := goodIn_r _ [7] (by decide +kernel) (by decide +kernel)
set_option maxRecDepth 20000 in
theorem gX3_saverAt_X3_isOutside : GoodIn wsX3_saverAt (va_wsS RX3 50 yX3_isOutside wsX3_isOutside) := goodIn_app (goodIn_of _ (by decide +kernel)) ggX3_saverAt_X3_isOutside
theorem dX3_saverAt_0 : decode cX3_saverAt 0 = .ok (.iload_n 1, 1) := by decide +kernel
theorem dX3_saverAt_1 : decode cX3_saverAt 1 = .ok (.iconst 0, 1) := by decide +kernel
theorem dX3_saverAt_2 : decode cX3_saverAt 2 = .ok (.bipush 9, 2) := by decide +kernel
theorem dX3_saverAt_4 : decode cX3_saverAt 4 = .ok (.invokestatic 50, 3) := by decide +kernel
theorem dX3_saverAt_7 : decode cX3_saverAt 7 = .ok (.ifCond .eq 7, 3) := by decide +kernel
theorem dX3_saverAt_10 : decode cX3_saverAt 10 = .ok (.aconst_null, 1) := by decide +kernel
theorem dX3_saverAt_11 : decode cX3_saverAt 11 = .ok (.goto 9, 3) := by decide +kernel
theorem dX3_saverAt_14 : decode cX3_saverAt 14 = .ok (.aload_n 0, 1) := by decide +kernel
theorem dX3_saverAt_15 : decode cX3_saverAt 15 = .ok (.getfield 26, 3) := by decide +kernel
theorem dX3_saverAt_18 : decode cX3_saverAt 18 = .ok (.iload_n 1, 1) := by decide +kernel
theorem dX3_saverAt_19 : decode cX3_saverAt 19 = .ok (.aaload, 1) := by decide +kernel
theorem dX3_saverAt_20 : decode cX3_saverAt 20 = .ok (.astore_n 2, 1) := by decide +kernel
theorem dX3_saverAt_21 : decode cX3_saverAt 21 = .ok (.aload_n 2, 1) := by decide +kernel
theorem dX3_saverAt_22 : decode cX3_saverAt 22 = .ok (.ifnonnull 13, 3) := by decide +kernel
theorem dX3_saverAt_25 : decode cX3_saverAt 25 = .ok (.new 232, 3) := by decide +kernel
theorem dX3_saverAt_28 : decode cX3_saverAt 28 = .ok (.dup, 1) := by decide +kernel
theorem dX3_saverAt_29 : decode cX3_saverAt 29 = .ok (.ldc 234, 2) := by decide +kernel
theorem dX3_saverAt_31 : decode cX3_saverAt 31 = .ok (.invokespecial 236, 3) := by decide +kernel
theorem dX3_saverAt_34 : decode cX3_saverAt 34 = .ok (.athrow, 1) := by decide +kernel
theorem dX3_saverAt_35 : decode cX3_saverAt 35 = .ok (.aload_n 2, 1) := by decide +kernel
theorem dX3_saverAt_36 : decode cX3_saverAt 36 = .ok (.areturn, 1) := by decide +kernel
set_option maxRecDepth 20000 in
theorem ggX3_orderAt_X3_isOutside : GoodIn wsX3_orderAt wsX3_isOutside := goodIn_r _ [7] (by decide +kernel) (by decide +kernel)
set_option maxRecDepth 20000 in
theorem gX3_orderAt_X3_isOutside : GoodIn wsX3_orderAt (va_wsS RX3 50 yX3_isOutside wsX3_isOutside) := goodIn_app (goodIn_of _ (by decide +kernel)) ggX3_orderAt_X3_isOutside
theorem dX3_orderAt_0 : decode cX3_orderAt 0 = .ok (.iload_n 1, 1) := by decide +kernel
theorem dX3_orderAt_1 : decode cX3_orderAt 1 = .ok (.iconst 0, 1) := by decide +kernel
theorem dX3_orderAt_2 : decode cX3_orderAt 2 = .ok (.bipush 29, 2) := by decide +kernel
theorem dX3_orderAt_4 : decode cX3_orderAt 4 = .ok (.invokestatic 50, 3) := by decide +kernel
theorem dX3_orderAt_7 : decode cX3_orderAt 7 = .ok (.ifCond .eq 7, 3) := by decide +kernel
theorem dX3_orderAt_10 : decode cX3_orderAt 10 = .ok (.aconst_null, 1) := by decide +kernel
theorem dX3_orderAt_11 : decode cX3_orderAt 11 = .ok (.goto 9, 3) := by decide +kernel
theorem dX3_orderAt_14 : decode cX3_orderAt 14 = .ok (.aload_n 0, 1) := by decide +kernel
theorem dX3_orderAt_15 : decode cX3_orderAt 15 = .ok (.getfield 32, 3) := by decide +kernel
theorem dX3_orderAt_18 : decode cX3_orderAt 18 = .ok (.iload_n 1, 1) := by decide +kernel
theorem dX3_orderAt_19 : decode cX3_orderAt 19 = .ok (.aaload, 1) := by decide +kernel
theorem dX3_orderAt_20 : decode cX3_orderAt 20 = .ok (.astore_n 2, 1) := by decide +kernel
theorem dX3_orderAt_21 : decode cX3_orderAt 21 = .ok (.aload_n 2, 1) := by decide +kernel
theorem dX3_orderAt_22 : decode cX3_orderAt 22 = .ok (.ifnonnull 13, 3) := by decide +kernel
theorem dX3_orderAt_25 : decode cX3_orderAt 25 = .ok (.new 232, 3) := by decide +kernel
theorem dX3_orderAt_28 : decode cX3_orderAt 28 = .ok (.dup, 1) := by decide +kernel
theorem dX3_orderAt_29 : decode cX3_orderAt 29 = .ok (.ldc 237, 2) := by decide +kernel
theorem dX3_orderAt_31 : decode cX3_orderAt 31 = .ok (.invokespecial 236, 3) := by decide +kernel
theorem dX3_orderAt_34 : decode cX3_orderAt 34 = .ok (.athrow, 1) := by decide +kernel
theorem dX3_orderAt_35 : decode cX3_orderAt 35 = .ok (.aload_n 2, 1) := by decide +kernel
theorem dX3_orderAt_36 : decode cX3_orderAt 36 = .ok (.areturn, 1) := by decide +kernel
set_option maxRecDepth 20000 in
theorem ggX3_openOrderAt_X3_orderAt : GoodIn wsX3_openOrderAt wsX3_orderAt := goodIn_ca (goodIn_r _ [7, 8, 9, 10, 11, 12, 6, 13, 24, 25, 26, 27, 28, 29, 30, 31, 32] (by decide +kernel) (by decide +kernel)) (goodIn_sub (fun _ h => List.mem_cons_of_mem _ (List.mem_append_right _ h)) (by decide +kernel))
set_option maxRecDepth 20000 in
theorem gX3_openOrderAt_X3_orderAt : GoodIn wsX3_openOrderAt (wsV RX3 145 RX3 yX3_orderAt wsX3_orderAt) := goodIn_app (goodIn_of _ (by decide +kernel)) ggX3_openOrderAt_X3_orderAt
theorem dX3_openOrderAt_0 : decode cX3_openOrderAt 0 = .ok (.aload_n 0, 1) := by decide +kernel
theorem dX3_openOrderAt_1 : decode cX3_openOrderAt 1 = .ok (.iload_n 1, 1) := by decide +kernel
theorem dX3_openOrderAt_2 : decode cX3_openOrderAt 2 = .ok (.invokevirtual 145, 3) := by decide +kernel
theorem dX3_openOrderAt_5 : decode cX3_openOrderAt 5 = .ok (.astore_n 2, 1) := by decide +kernel
theorem dX3_openOrderAt_6 : decode cX3_openOrderAt 6 = .ok (.aload_n 2, 1) := by decide +kernel
theorem dX3_openOrderAt_7 : decode cX3_openOrderAt 7 = .ok (.getfield 148, 3) := by decide +kernel
theorem dX3_openOrderAt_10 : decode cX3_openOrderAt 10 = .ok (.iconst 3, 1) := by decide +kernel
theorem dX3_openOrderAt_11 : decode cX3_openOrderAt 11 = .ok (.if_icmp .ne 13, 3) := by decide +kernel
theorem dX3_openOrderAt_14 : decode cX3_openOrderAt 14 = .ok (.new 61, 3) := by decide +kernel
theorem dX3_openOrderAt_17 : decode cX3_openOrderAt 17 = .ok (.dup, 1) := by decide +kernel
theorem dX3_openOrderAt_18 : decode cX3_openOrderAt 18 = .ok (.ldc 239, 2) := by decide +kernel
theorem dX3_openOrderAt_20 : decode cX3_openOrderAt 20 = .ok (.invokespecial 65, 3) := by decide +kernel
theorem dX3_openOrderAt_23 : decode cX3_openOrderAt 23 = .ok (.athrow, 1) := by decide +kernel
theorem dX3_openOrderAt_24 : decode cX3_openOrderAt 24 = .ok (.aload_n 2, 1) := by decide +kernel
theorem dX3_openOrderAt_25 : decode cX3_openOrderAt 25 = .ok (.areturn, 1) := by decide +kernel
end
section
theorem dX4_init_0 : decode cX4_init 0 = .ok (.aload_n 0, 1) := by decide +kernel
theorem dX4_init_1 : decode cX4_init 1 = .ok (.invokespecial 1, 3) := by decide +kernel
theorem dX4_init_4 : decode cX4_init 4 = .ok (.aload_n 0, 1) := by decide +kernel
theorem dX4_init_5 : decode cX4_init 5 = .ok (.sipush 10005, 3) := by decide +kernel
theorem dX4_init_8 : decode cX4_init 8 = .ok (.newarray .int, 2) := by decide +kernel
theorem dX4_init_10 : decode cX4_init 10 = .ok (.putfield 7, 3) := by decide +kernel
theorem dX4_init_13 : decode cX4_init 13 = .ok (.aload_n 0, 1) := by decide +kernel
theorem dX4_init_14 : decode cX4_init 14 = .ok (.iconst 5, 1) := by decide +kernel
theorem dX4_init_15 : decode cX4_init 15 = .ok (.newarray .int, 2) := by decide +kernel
theorem dX4_init_17 : decode cX4_init 17 = .ok (.putfield 13, 3) := by decide +kernel
theorem dX4_init_20 : decode cX4_init 20 = .ok (.aload_n 0, 1) := by decide +kernel
theorem dX4_init_21 : decode cX4_init 21 = .ok (.iconst 5, 1) := by decide +kernel
theorem dX4_init_22 : decode cX4_init 22 = .ok (.newarray .int, 2) := by decide +kernel
theorem dX4_init_24 : decode cX4_init 24 = .ok (.putfield 16, 3) := by decide +kernel
theorem dX4_init_27 : decode cX4_init 27 = .ok (.aload_n 0, 1) := by decide +kernel
theorem dX4_init_28 : decode cX4_init 28 = .ok (.sipush 1000, 3) := by decide +kernel
theorem dX4_init_31 : decode cX4_init 31 = .ok (.putfield 19, 3) := by decide +kernel
theorem dX4_init_34 : decode cX4_init 34 = .ok (.aload_n 0, 1) := by decide +kernel
theorem dX4_init_35 : decode cX4_init 35 = .ok (.bipush 10, 2) := by decide +kernel
theorem dX4_init_37 : decode cX4_init 37 = .ok (.newarray .int, 2) := by decide +kernel
theorem dX4_init_39 : decode cX4_init 39 = .ok (.putfield 23, 3) := by decide +kernel
theorem dX4_init_42 : decode cX4_init 42 = .ok (.aload_n 0, 1) := by decide +kernel
theorem dX4_init_43 : decode cX4_init 43 = .ok (.bipush 10, 2) := by decide +kernel
theorem dX4_init_45 : decode cX4_init 45 = .ok (.newarray .long, 2) := by decide +kernel
theorem dX4_init_47 : decode cX4_init 47 = .ok (.putfield 26, 3) := by decide +kernel
theorem dX4_init_50 : decode cX4_init 50 = .ok (.aload_n 0, 1) := by decide +kernel
theorem dX4_init_51 : decode cX4_init 51 = .ok (.bipush 10, 2) := by decide +kernel
theorem dX4_init_53 : decode cX4_init 53 = .ok (.newarray .boolean, 2) := by decide +kernel
theorem dX4_init_55 : decode cX4_init 55 = .ok (.putfield 30, 3) := by decide +kernel
theorem dX4_init_58 : decode cX4_init 58 = .ok (.aload_n 0, 1) := by decide +kernel
theorem dX4_init_59 : decode cX4_init 59 = .ok (.bipush 30, 2) := by decide +kernel
theorem dX4_init_61 : decode cX4_init 61 = .ok (.newarray .int, 2) := by decide +kernel
theorem dX4_init_63 : decode cX4_init 63 = .ok (.putfield 34, 3) := by decide +kernel
theorem dX4_init_66 : decode cX4_init 66 = .ok (.aload_n 0, 1) := by decide +kernel
theorem dX4_init_67 : decode cX4_init 67 = .ok (.bipush 30, 2) := by decide +kernel
theorem dX4_init_69 : decode cX4_init 69 = .ok (.newarray .int, 2) := by decide +kernel
theorem dX4_init_71 : decode cX4_init 71 = .ok (.putfield 37, 3) := by decide +kernel
theorem dX4_init_74 : decode cX4_init 74 = .ok (.aload_n 0, 1) := by decide +kernel
theorem dX4_init_75 : decode cX4_init 75 = .ok (.bipush 30, 2) := by decide +kernel
theorem dX4_init_77 : decode cX4_init 77 = .ok (.newarray .int, 2) := by decide +kernel
theorem dX4_init_79 : decode cX4_init 79 = .ok (.putfield 40, 3) := by decide +kernel
theorem dX4_init_82 : decode cX4_init 82 = .ok (.aload_n 0, 1) := by decide +kernel
theorem dX4_init_83 : decode cX4_init 83 = .ok (.bipush 30, 2) := by decide +kernel
theorem dX4_init_85 : decode cX4_init 85 = .ok (.newarray .int, 2) := by decide +kernel
theorem dX4_init_87 : decode cX4_init 87 = .ok (.putfield 43, 3) := by decide +kernel
theorem dX4_init_90 : decode cX4_init 90 = .ok (.aload_n 0, 1) := by decide +kernel
theorem dX4_init_91 : decode cX4_init 91 = .ok (.bipush 30, 2) := by decide +kernel
theorem dX4_init_93 : decode cX4_init 93 = .ok (.newarray .int, 2) := by decide +kernel
theorem dX4_init_95 : decode cX4_init 95 = .ok (.putfield 46, 3) := by decide +kernel
theorem dX4_init_98 : decode cX4_init 98 = .ok (.aload_n 0, 1) := by decide +kernel
theorem dX4_init_99 : decode cX4_init 99 = .ok (.bipush 30, 2) := by decide +kernel
theorem dX4_init_101 : decode cX4_init 101 = .ok (.newarray .int, 2) := by decide +kernel
theorem dX4_init_103 : decode cX4_init 103 = .ok (.putfield 49, 3) := by decide +kernel
theorem dX4_init_106 : decode cX4_init 106 = .ok (.aload_n 0, 1) := by decide +kernel
theorem dX4_init_107 : decode cX4_init 107 = .ok (.bipush 30, 2) := by decide +kernel
theorem dX4_init_109 : decode cX4_init 109 = .ok (.newarray .int, 2) := by decide +kernel
theorem dX4_init_111 : decode cX4_init 111 = .ok (.putfield 52, 3) := by decide +kernel
theorem dX4_init_114 : decode cX4_init 114 = .ok (.aload_n 0, 1) := by decide +kernel
theorem dX4_init_115 : decode cX4_init 115 = .ok (.bipush 30, 2) := by decide +kernel
theorem dX4_init_117 : decode cX4_init 117 = .ok (.newarray .long, 2) := by decide +kernel
theorem dX4_init_119 : decode cX4_init 119 = .ok (.putfield 55, 3) := by decide +kernel
theorem dX4_init_122 : decode cX4_init 122 = .ok (.aload_n 0, 1) := by decide +kernel
theorem dX4_init_123 : decode cX4_init 123 = .ok (.bipush 30, 2) := by decide +kernel
theorem dX4_init_125 : decode cX4_init 125 = .ok (.newarray .long, 2) := by decide +kernel
theorem dX4_init_127 : decode cX4_init 127 = .ok (.putfield 58, 3) := by decide +kernel
theorem dX4_init_130 : decode cX4_init 130 = .ok (.aload_n 0, 1) := by decide +kernel
theorem dX4_init_131 : decode cX4_init 131 = .ok (.bipush 30, 2) := by decide +kernel
theorem dX4_init_133 : decode cX4_init 133 = .ok (.newarray .long, 2) := by decide +kernel
theorem dX4_init_135 : decode cX4_init 135 = .ok (.putfield 61, 3) := by decide +kernel
theorem dX4_init_138 : decode cX4_init 138 = .ok (.aload_n 0, 1) := by decide +kernel
theorem dX4_init_139 : decode cX4_init 139 = .ok (.bipush 25, 2) := by decide +kernel
theorem dX4_init_141 : decode cX4_init 141 = .ok (.newarray .long, 2) := by decide +kernel
theorem dX4_init_143 : decode cX4_init 143 = .ok (.putfield 64, 3) := by decide +kernel
theorem dX4_init_146 : decode cX4_init 146 = .ok (.aload_n 0, 1) := by decide +kernel
theorem dX4_init_147 : decode cX4_init 147 = .ok (.iconst 5, 1) := by decide +kernel
theorem dX4_init_148 : decode cX4_init 148 = .ok (.newarray .long, 2) := by decide +kernel
theorem dX4_init_150 : decode cX4_init 150 = .ok (.putfield 67, 3) := by decide +kernel
theorem dX4_init_153 : decode cX4_init 153 = .ok (.iconst 0, 1) := by decide +kernel
theorem dX4_init_154 : decode cX4_init 154 = .ok (.istore_n 1, 1) := by decide +kernel
theorem dX4_init_155 : decode cX4_init 155 = .ok (.iload_n 1, 1) := by decide +kernel
theorem dX4_init_156 : decode cX4_init 156 = .ok (.iconst 5, 1) := by decide +kernel
theorem dX4_init_157 : decode cX4_init 157 = .ok (.if_icmp .ge 29, 3) := by decide +kernel
theorem dX4_init_160 : decode cX4_init 160 = .ok (.aload_n 0, 1) := by decide +kernel
theorem dX4_init_161 : decode cX4_init 161 = .ok (.getfield 7, 3) := by decide +kernel
theorem dX4_init_164 : decode cX4_init 164 = .ok (.sipush 2001, 3) := by decide +kernel
theorem dX4_init_167 : decode cX4_init 167 = .ok (.iload_n 1, 1) := by decide +kernel
theorem dX4_init_168 : decode cX4_init 168 = .ok (.imul, 1) := by decide +kernel
theorem dX4_init_169 : decode cX4_init 169 = .ok (.sipush 1000, 3) := by decide +kernel
theorem dX4_init_172 : decode cX4_init 172 = .ok (.iastore, 1) := by decide +kernel
theorem dX4_init_173 : decode cX4_init 173 = .ok (.aload_n 0, 1) := by decide +kernel
theorem dX4_init_174 : decode cX4_init 174 = .ok (.getfield 13, 3) := by decide +kernel
theorem dX4_init_177 : decode cX4_init 177 = .ok (.iload_n 1, 1) := by decide +kernel
theorem dX4_init_178 : decode cX4_init 178 = .ok (.iconst 1, 1) := by decide +kernel
theorem dX4_init_179 : decode cX4_init 179 = .ok (.iastore, 1) := by decide +kernel
theorem dX4_init_180 : decode cX4_init 180 = .ok (.iinc 1 1, 3) := by decide +kernel
theorem dX4_init_183 : decode cX4_init 183 = .ok (.goto (-28), 3) := by decide +kernel
theorem dX4_init_186 : decode cX4_init 186 = .ok (.return_, 1) := by decide +kernel
theorem dX4_thrown_0 : decode cX4_thrown 0 = .ok (.aload_n 0, 1) := by decide +kernel
theorem dX4_thrown_1 : decode cX4_thrown 1 = .ok (.getfield 70, 3) := by decide +kernel
theorem dX4_thrown_4 : decode cX4_thrown 4 = .ok (.ireturn, 1) := by decide +kernel
theorem dX4_isIn_0 : decode cX4_isIn 0 = .ok (.iload_n 0, 1) := by decide +kernel
theorem dX4_isIn_1 : decode cX4_isIn 1 = .ok (.iload_n 1, 1) := by decide +kernel
theorem dX4_isIn_2 : decode cX4_isIn 2 = .ok (.if_icmp .lt 12, 3) := by decide +kernel
theorem dX4_isIn_5 : decode cX4_isIn 5 = .ok (.iload_n 0, 1) := by decide +kernel
theorem dX4_isIn_6 : decode cX4_isIn 6 = .ok (.iload_n 2, 1) := by decide +kernel
theorem dX4_isIn_7 : decode cX4_isIn 7 = .ok (.if_icmp .gt 7, 3) := by decide +kernel
theorem dX4_isIn_10 : decode cX4_isIn 10 = .ok (.iconst 1, 1) := by decide +kernel
theorem dX4_isIn_11 : decode cX4_isIn 11 = .ok (.goto 4, 3) := by decide +kernel
theorem dX4_isIn_14 : decode cX4_isIn 14 = .ok (.iconst 0, 1) := by decide +kernel
theorem dX4_isIn_15 : decode cX4_isIn 15 = .ok (.ireturn, 1) := by decide +kernel
set_option maxRecDepth 20000 in
theorem ggX4_isProvider_X4_isIn : GoodIn wsX4_isProvider wsX4_isIn := goodIn_r _ [4] (by decide +kernel) (by decide +kernel)
set_option maxRecDepth 20000 in
theorem gX4_isProvider_X4_isIn : GoodIn wsX4_isProvider (va_wsS RX4 73 yX4_isIn wsX4_isIn) := goodIn_app (goodIn_of _ (by decide +kernel)) ggX4_isProvider_X4_isIn
theorem dX4_isProvider_0 : decode cX4_isProvider 0 = .ok (.iload_n 0, 1) := by decide +kernel
theorem dX4_isProvider_1 : decode cX4_isProvider 1 = .ok (.iconst 0, 1) := by decide +kernel
theorem dX4_isProvider_2 : decode cX4_isProvider 2 = .ok (.iconst 4, 1) := by decide +kernel
theorem dX4_isProvider_3 : decode cX4_isProvider 3 = .ok (.invokestatic 73, 3) := by decide +kernel
theorem dX4_isProvider_6 : decode cX4_isProvider 6 = .ok (.ireturn, 1) := by decide +kernel
set_option maxRecDepth 20000 in
theorem ggX4_isSaver_X4_isIn : GoodIn wsX4_isSaver wsX4_isIn := goodIn_r _ [5] (by decide +kernel) (by decide +kernel)
set_option maxRecDepth 20000 in
theorem gX4_isSaver_X4_isIn : GoodIn wsX4_isSaver (va_wsS RX4 73 yX4_isIn wsX4_isIn) := goodIn_app (goodIn_of _ (by decide +kernel)) ggX4_isSaver_X4_isIn
theorem dX4_isSaver_0 : decode cX4_isSaver 0 = .ok (.iload_n 1, 1) := by decide +kernel
theorem dX4_isSaver_1 : decode cX4_isSaver 1 = .ok (.iconst 0, 1) := by decide +kernel
theorem dX4_isSaver_2 : decode cX4_isSaver 2 = .ok (.aload_n 0, 1) := by decide +kernel
theorem dX4_isSaver_3 : decode cX4_isSaver 3 = .ok (.getfield 77, 3) := by decide +kernel
theorem dX4_isSaver_6 : decode cX4_isSaver 6 = .ok (.iconst 1, 1) := by decide +kernel
theorem dX4_isSaver_7 : decode cX4_isSaver 7 = .ok (.isub, 1) := by decide +kernel
theorem dX4_isSaver_8 : decode cX4_isSaver 8 = .ok (.invokestatic 73, 3) := by decide +kernel
theorem dX4_isSaver_11 : decode cX4_isSaver 11 = .ok (.ireturn, 1) := by decide +kernel
set_option maxRecDepth 20000 in
theorem ggX4_isOrder_X4_isIn : GoodIn wsX4_isOrder wsX4_isIn := goodIn_r _ [5] (by decide +kernel) (by decide +kernel)
set_option maxRecDepth 20000 in
theorem gX4_isOrder_X4_isIn : GoodIn wsX4_isOrder (va_wsS RX4 73 yX4_isIn wsX4_isIn) := goodIn_app (goodIn_of _ (by decide +kernel)) ggX4_isOrder_X4_isIn
theorem dX4_isOrder_0 : decode cX4_isOrder 0 = .ok (.iload_n 1, 1) := by decide +kernel
theorem dX4_isOrder_1 : decode cX4_isOrder 1 = .ok (.iconst 0, 1) := by decide +kernel
theorem dX4_isOrder_2 : decode cX4_isOrder 2 = .ok (.aload_n 0, 1) := by decide +kernel
theorem dX4_isOrder_3 : decode cX4_isOrder 3 = .ok (.getfield 80, 3) := by decide +kernel
theorem dX4_isOrder_6 : decode cX4_isOrder 6 = .ok (.iconst 1, 1) := by decide +kernel
theorem dX4_isOrder_7 : decode cX4_isOrder 7 = .ok (.isub, 1) := by decide +kernel
theorem dX4_isOrder_8 : decode cX4_isOrder 8 = .ok (.invokestatic 73, 3) := by decide +kernel
theorem dX4_isOrder_11 : decode cX4_isOrder 11 = .ok (.ireturn, 1) := by decide +kernel
theorem dX4_priceOf_0 : decode cX4_priceOf 0 = .ok (.aload_n 0, 1) := by decide +kernel
theorem dX4_priceOf_1 : decode cX4_priceOf 1 = .ok (.getfield 7, 3) := by decide +kernel
theorem dX4_priceOf_4 : decode cX4_priceOf 4 = .ok (.sipush 2001, 3) := by decide +kernel
theorem dX4_priceOf_7 : decode cX4_priceOf 7 = .ok (.iload_n 1, 1) := by decide +kernel
theorem dX4_priceOf_8 : decode cX4_priceOf 8 = .ok (.imul, 1) := by decide +kernel
theorem dX4_priceOf_9 : decode cX4_priceOf 9 = .ok (.iload_n 2, 1) := by decide +kernel
theorem dX4_priceOf_10 : decode cX4_priceOf 10 = .ok (.iadd, 1) := by decide +kernel
theorem dX4_priceOf_11 : decode cX4_priceOf 11 = .ok (.iaload, 1) := by decide +kernel
theorem dX4_priceOf_12 : decode cX4_priceOf 12 = .ok (.ireturn, 1) := by decide +kernel
set_option maxRecDepth 20000 in
theorem ggX4_pass_X4_isIn : GoodIn wsX4_pass wsX4_isIn := goodIn_r _ [7] (by decide +kernel) (by decide +kernel)
set_option maxRecDepth 20000 in
theorem gX4_pass_X4_isIn : GoodIn wsX4_pass (va_wsS RX4 73 yX4_isIn wsX4_isIn) := goodIn_app (goodIn_of _ (by decide +kernel)) ggX4_pass_X4_isIn
theorem dX4_pass_0 : decode cX4_pass 0 = .ok (.aload_n 0, 1) := by decide +kernel
theorem dX4_pass_1 : decode cX4_pass 1 = .ok (.iload_n 1, 1) := by decide +kernel
theorem dX4_pass_2 : decode cX4_pass 2 = .ok (.iconst 1, 1) := by decide +kernel
theorem dX4_pass_3 : decode cX4_pass 3 = .ok (.bipush 100, 2) := by decide +kernel
theorem dX4_pass_5 : decode cX4_pass 5 = .ok (.invokestatic 73, 3) := by decide +kernel
theorem dX4_pass_8 : decode cX4_pass 8 = .ok (.ifCond .ne 7, 3) := by decide +kernel
theorem dX4_pass_11 : decode cX4_pass 11 = .ok (.iconst 1, 1) := by decide +kernel
theorem dX4_pass_12 : decode cX4_pass 12 = .ok (.goto 20, 3) := by decide +kernel
theorem dX4_pass_15 : decode cX4_pass 15 = .ok (.aload_n 0, 1) := by decide +kernel
theorem dX4_pass_16 : decode cX4_pass 16 = .ok (.getfield 83, 3) := by decide +kernel
theorem dX4_pass_19 : decode cX4_pass 19 = .ok (.iload_n 1, 1) := by decide +kernel
theorem dX4_pass_20 : decode cX4_pass 20 = .ok (.iadd, 1) := by decide +kernel
theorem dX4_pass_21 : decode cX4_pass 21 = .ok (.sipush 2001, 3) := by decide +kernel
theorem dX4_pass_24 : decode cX4_pass 24 = .ok (.if_icmp .lt 7, 3) := by decide +kernel
theorem dX4_pass_27 : decode cX4_pass 27 = .ok (.iconst 2, 1) := by decide +kernel
theorem dX4_pass_28 : decode cX4_pass 28 = .ok (.goto 4, 3) := by decide +kernel
theorem dX4_pass_31 : decode cX4_pass 31 = .ok (.iconst 0, 1) := by decide +kernel
theorem dX4_pass_32 : decode cX4_pass 32 = .ok (.putfield 70, 3) := by decide +kernel
theorem dX4_pass_35 : decode cX4_pass 35 = .ok (.iconst 0, 1) := by decide +kernel
theorem dX4_pass_36 : decode cX4_pass 36 = .ok (.istore_n 2, 1) := by decide +kernel
theorem dX4_pass_37 : decode cX4_pass 37 = .ok (.iload_n 2, 1) := by decide +kernel
theorem dX4_pass_38 : decode cX4_pass 38 = .ok (.iload_n 1, 1) := by decide +kernel
theorem dX4_pass_39 : decode cX4_pass 39 = .ok (.if_icmp .ge 71, 3) := by decide +kernel
theorem dX4_pass_42 : decode cX4_pass 42 = .ok (.aload_n 0, 1) := by decide +kernel
theorem dX4_pass_43 : decode cX4_pass 43 = .ok (.getfield 70, 3) := by decide +kernel
theorem dX4_pass_46 : decode cX4_pass 46 = .ok (.ifCond .ne 64, 3) := by decide +kernel
theorem dX4_pass_49 : decode cX4_pass 49 = .ok (.aload_n 0, 1) := by decide +kernel
theorem dX4_pass_50 : decode cX4_pass 50 = .ok (.dup, 1) := by decide +kernel
theorem dX4_pass_51 : decode cX4_pass 51 = .ok (.getfield 83, 3) := by decide +kernel
theorem dX4_pass_54 : decode cX4_pass 54 = .ok (.iconst 1, 1) := by decide +kernel
theorem dX4_pass_55 : decode cX4_pass 55 = .ok (.iadd, 1) := by decide +kernel
theorem dX4_pass_56 : decode cX4_pass 56 = .ok (.putfield 83, 3) := by decide +kernel
theorem dX4_pass_59 : decode cX4_pass 59 = .ok (.iconst 0, 1) := by decide +kernel
theorem dX4_pass_60 : decode cX4_pass 60 = .ok (.istore_n 3, 1) := by decide +kernel
theorem dX4_pass_61 : decode cX4_pass 61 = .ok (.iload_n 3, 1) := by decide +kernel
theorem dX4_pass_62 : decode cX4_pass 62 = .ok (.iconst 5, 1) := by decide +kernel
theorem dX4_pass_63 : decode cX4_pass 63 = .ok (.if_icmp .ge 41, 3) := by decide +kernel
theorem dX4_pass_66 : decode cX4_pass 66 = .ok (.aload_n 0, 1) := by decide +kernel
theorem dX4_pass_67 : decode cX4_pass 67 = .ok (.getfield 7, 3) := by decide +kernel
theorem dX4_pass_70 : decode cX4_pass 70 = .ok (.sipush 2001, 3) := by decide +kernel
theorem dX4_pass_73 : decode cX4_pass 73 = .ok (.iload_n 3, 1) := by decide +kernel
theorem dX4_pass_74 : decode cX4_pass 74 = .ok (.imul, 1) := by decide +kernel
theorem dX4_pass_75 : decode cX4_pass 75 = .ok (.aload_n 0, 1) := by decide +kernel
theorem dX4_pass_76 : decode cX4_pass 76 = .ok (.getfield 83, 3) := by decide +kernel
theorem dX4_pass_79 : decode cX4_pass 79 = .ok (.iadd, 1) := by decide +kernel
theorem dX4_pass_80 : decode cX4_pass 80 = .ok (.aload_n 0, 1) := by decide +kernel
theorem dX4_pass_81 : decode cX4_pass 81 = .ok (.getfield 7, 3) := by decide +kernel
theorem dX4_pass_84 : decode cX4_pass 84 = .ok (.sipush 2001, 3) := by decide +kernel
theorem dX4_pass_87 : decode cX4_pass 87 = .ok (.iload_n 3, 1) := by decide +kernel
theorem dX4_pass_88 : decode cX4_pass 88 = .ok (.imul, 1) := by decide +kernel
theorem dX4_pass_89 : decode cX4_pass 89 = .ok (.aload_n 0, 1) := by decide +kernel
theorem dX4_pass_90 : decode cX4_pass 90 = .ok (.getfield 83, 3) := by decide +kernel
theorem dX4_pass_93 : decode cX4_pass 93 = .ok (.iadd, 1) := by decide +kernel
theorem dX4_pass_94 : decode cX4_pass 94 = .ok (.iconst 1, 1) := by decide +kernel
theorem dX4_pass_95 : decode cX4_pass 95 = .ok (.isub, 1) := by decide +kernel
theorem dX4_pass_96 : decode cX4_pass 96 = .ok (.iaload, 1) := by decide +kernel
theorem dX4_pass_97 : decode cX4_pass 97 = .ok (.iastore, 1) := by decide +kernel
theorem dX4_pass_98 : decode cX4_pass 98 = .ok (.iinc 3 1, 3) := by decide +kernel
theorem dX4_pass_101 : decode cX4_pass 101 = .ok (.goto (-40), 3) := by decide +kernel
theorem dX4_pass_104 : decode cX4_pass 104 = .ok (.iinc 2 1, 3) := by decide +kernel
theorem dX4_pass_107 : decode cX4_pass 107 = .ok (.goto (-70), 3) := by decide +kernel
theorem dX4_pass_110 : decode cX4_pass 110 = .ok (.aload_n 0, 1) := by decide +kernel
theorem dX4_pass_111 : decode cX4_pass 111 = .ok (.getfield 83, 3) := by decide +kernel
theorem dX4_pass_114 : decode cX4_pass 114 = .ok (.ireturn, 1) := by decide +kernel
theorem dX4_today_0 : decode cX4_today 0 = .ok (.aload_n 0, 1) := by decide +kernel
theorem dX4_today_1 : decode cX4_today 1 = .ok (.iconst 0, 1) := by decide +kernel
theorem dX4_today_2 : decode cX4_today 2 = .ok (.putfield 70, 3) := by decide +kernel
theorem dX4_today_5 : decode cX4_today 5 = .ok (.aload_n 0, 1) := by decide +kernel
theorem dX4_today_6 : decode cX4_today 6 = .ok (.getfield 83, 3) := by decide +kernel
theorem dX4_today_9 : decode cX4_today 9 = .ok (.ireturn, 1) := by decide +kernel
set_option maxRecDepth 20000 in
theorem ggX4_setPrice_X4_isProvider : GoodIn wsX4_setPrice wsX4_isProvider := goodIn_r _ [9, 10, 11, 8, 12] (by decide +kernel) (by decide +kernel)
set_option maxRecDepth 20000 in
theorem gX4_setPrice_X4_isProvider : GoodIn wsX4_setPrice (va_wsS RX4 86 yX4_isProvider wsX4_isProvider) := goodIn_app (goodIn_of _ (by decide +kernel)) ggX4_setPrice_X4_isProvider
set_option maxRecDepth 20000 in
theorem ggX4_setPrice_X4_isIn : GoodIn wsX4_setPrice wsX4_isIn := goodIn_r _ [12] (by decide +kernel) (by decide +kernel)
set_option maxRecDepth 20000 in
theorem gX4_setPrice_X4_isIn : GoodIn wsX4_setPrice (va_wsS RX4 73 yX4_isIn wsX4_isIn) := goodIn_app (goodIn_of _ (by decide +kernel)) ggX4_setPrice_X4_isIn
set_option maxRecDepth 20000 in
theorem ggX4_setPrice_X4_priceOf : GoodIn wsX4_setPrice wsX4_priceOf := goodIn_r _ [16, 5, 17, 18, 19, 20, 21, 22, 23, 24, 25, 26, 27, 28, 29, 30, 31, 32, 33, 34, 35, 36, 37, 38, 39] (by decide +kernel) (by decide +kernel)
set_option maxRecDepth 20000 in
theorem gX4_setPrice_X4_priceOf : GoodIn wsX4_setPrice (wsV RX4 90 RX4 yX4_priceOf wsX4_priceOf) := goodIn_app (goodIn_of _ (by decide +kernel)) ggX4_setPrice_X4_priceOf
theorem dX4_setPrice_0 : decode cX4_setPrice 0 = .ok (.aload_n 0, 1) := by decide +kernel
theorem dX4_setPrice_1 : decode cX4_setPrice 1 = .ok (.iload_n 1, 1) := by decide +kernel
theorem dX4_setPrice_2 : decode cX4_setPrice 2 = .ok (.invokestatic 86, 3) := by decide +kernel
theorem dX4_setPrice_5 : decode cX4_setPrice 5 = .ok (.ifCond .eq 19, 3) := by decide +kernel
theorem dX4_setPrice_8 : decode cX4_setPrice 8 = .ok (.iload_n 2, 1) := by decide +kernel
theorem dX4_setPrice_9 : decode cX4_setPrice 9 = .ok (.bipush 100, 2) := by decide +kernel
theorem dX4_setPrice_11 : decode cX4_setPrice 11 = .ok (.sipush 10000, 3) := by decide +kernel
theorem dX4_setPrice_14 : decode cX4_setPrice 14 = .ok (.invokestatic 73, 3) := by decide +kernel
theorem dX4_setPrice_17 : decode cX4_setPrice 17 = .ok (.ifCond .eq 7, 3) := by decide +kernel
theorem dX4_setPrice_20 : decode cX4_setPrice 20 = .ok (.iconst 0, 1) := by decide +kernel
theorem dX4_setPrice_21 : decode cX4_setPrice 21 = .ok (.goto 4, 3) := by decide +kernel
theorem dX4_setPrice_24 : decode cX4_setPrice 24 = .ok (.iconst 1, 1) := by decide +kernel
theorem dX4_setPrice_25 : decode cX4_setPrice 25 = .ok (.putfield 70, 3) := by decide +kernel
theorem dX4_setPrice_28 : decode cX4_setPrice 28 = .ok (.aload_n 0, 1) := by decide +kernel
theorem dX4_setPrice_29 : decode cX4_setPrice 29 = .ok (.getfield 70, 3) := by decide +kernel
theorem dX4_setPrice_32 : decode cX4_setPrice 32 = .ok (.ifCond .le 5, 3) := by decide +kernel
theorem dX4_setPrice_35 : decode cX4_setPrice 35 = .ok (.iconst 0, 1) := by decide +kernel
theorem dX4_setPrice_36 : decode cX4_setPrice 36 = .ok (.ireturn, 1) := by decide +kernel
theorem dX4_setPrice_37 : decode cX4_setPrice 37 = .ok (.aload_n 0, 1) := by decide +kernel
theorem dX4_setPrice_38 : decode cX4_setPrice 38 = .ok (.aload_n 0, 1) := by decide +kernel
theorem dX4_setPrice_39 : decode cX4_setPrice 39 = .ok (.getfield 13, 3) := by decide +kernel
theorem dX4_setPrice_42 : decode cX4_setPrice 42 = .ok (.iload_n 1, 1) := by decide +kernel
theorem dX4_setPrice_43 : decode cX4_setPrice 43 = .ok (.iaload, 1) := by decide +kernel
theorem dX4_setPrice_44 : decode cX4_setPrice 44 = .ok (.bipush 61, 2) := by decide +kernel
theorem dX4_setPrice_46 : decode cX4_setPrice 46 = .ok (.if_icmp .ne 20, 3) := by decide +kernel
theorem dX4_setPrice_49 : decode cX4_setPrice 49 = .ok (.aload_n 0, 1) := by decide +kernel
theorem dX4_setPrice_50 : decode cX4_setPrice 50 = .ok (.getfield 16, 3) := by decide +kernel
theorem dX4_setPrice_53 : decode cX4_setPrice 53 = .ok (.iload_n 1, 1) := by decide +kernel
theorem dX4_setPrice_54 : decode cX4_setPrice 54 = .ok (.iaload, 1) := by decide +kernel
theorem dX4_setPrice_55 : decode cX4_setPrice 55 = .ok (.aload_n 0, 1) := by decide +kernel
theorem dX4_setPrice_56 : decode cX4_setPrice 56 = .ok (.getfield 83, 3) := by decide +kernel
theorem dX4_setPrice_59 : decode cX4_setPrice 59 = .ok (.if_icmp .eq 7, 3) := by decide +kernel
theorem dX4_setPrice_62 : decode cX4_setPrice 62 = .ok (.iconst 2, 1) := by decide +kernel
theorem dX4_setPrice_63 : decode cX4_setPrice 63 = .ok (.goto 4, 3) := by decide +kernel
theorem dX4_setPrice_66 : decode cX4_setPrice 66 = .ok (.iconst 0, 1) := by decide +kernel
theorem dX4_setPrice_67 : decode cX4_setPrice 67 = .ok (.putfield 70, 3) := by decide +kernel
theorem dX4_setPrice_70 : decode cX4_setPrice 70 = .ok (.aload_n 0, 1) := by decide +kernel
theorem dX4_setPrice_71 : decode cX4_setPrice 71 = .ok (.getfield 70, 3) := by decide +kernel
theorem dX4_setPrice_74 : decode cX4_setPrice 74 = .ok (.ifCond .le 5, 3) := by decide +kernel
theorem dX4_setPrice_77 : decode cX4_setPrice 77 = .ok (.iconst 0, 1) := by decide +kernel
theorem dX4_setPrice_78 : decode cX4_setPrice 78 = .ok (.ireturn, 1) := by decide +kernel
theorem dX4_setPrice_79 : decode cX4_setPrice 79 = .ok (.aload_n 0, 1) := by decide +kernel
theorem dX4_setPrice_80 : decode cX4_setPrice 80 = .ok (.iload_n 1, 1) := by decide +kernel
theorem dX4_setPrice_81 : decode cX4_setPrice 81 = .ok (.aload_n 0, 1) := by decide +kernel
theorem dX4_setPrice_82 : decode cX4_setPrice 82 = .ok (.getfield 83, 3) := by decide +kernel
theorem dX4_setPrice_85 : decode cX4_setPrice 85 = .ok (.invokevirtual 90, 3) := by decide +kernel
theorem dX4_setPrice_88 : decode cX4_setPrice 88 = .ok (.istore_n 3, 1) := by decide +kernel
theorem dX4_setPrice_89 : decode cX4_setPrice 89 = .ok (.aload_n 0, 1) := by decide +kernel
theorem dX4_setPrice_90 : decode cX4_setPrice 90 = .ok (.getfield 13, 3) := by decide +kernel
theorem dX4_setPrice_93 : decode cX4_setPrice 93 = .ok (.iload_n 1, 1) := by decide +kernel
theorem dX4_setPrice_94 : decode cX4_setPrice 94 = .ok (.dup2, 1) := by decide +kernel
theorem dX4_setPrice_95 : decode cX4_setPrice 95 = .ok (.iaload, 1) := by decide +kernel
theorem dX4_setPrice_96 : decode cX4_setPrice 96 = .ok (.aload_n 0, 1) := by decide +kernel
theorem dX4_setPrice_97 : decode cX4_setPrice 97 = .ok (.getfield 16, 3) := by decide +kernel
theorem dX4_setPrice_100 : decode cX4_setPrice 100 = .ok (.iload_n 1, 1) := by decide +kernel
theorem dX4_setPrice_101 : decode cX4_setPrice 101 = .ok (.iaload, 1) := by decide +kernel
theorem dX4_setPrice_102 : decode cX4_setPrice 102 = .ok (.aload_n 0, 1) := by decide +kernel
theorem dX4_setPrice_103 : decode cX4_setPrice 103 = .ok (.getfield 83, 3) := by decide +kernel
theorem dX4_setPrice_106 : decode cX4_setPrice 106 = .ok (.if_icmp .ne 7, 3) := by decide +kernel
theorem dX4_setPrice_109 : decode cX4_setPrice 109 = .ok (.iconst 0, 1) := by decide +kernel
theorem dX4_setPrice_110 : decode cX4_setPrice 110 = .ok (.goto 4, 3) := by decide +kernel
theorem dX4_setPrice_113 : decode cX4_setPrice 113 = .ok (.iconst 1, 1) := by decide +kernel
theorem dX4_setPrice_114 : decode cX4_setPrice 114 = .ok (.iadd, 1) := by decide +kernel
theorem dX4_setPrice_115 : decode cX4_setPrice 115 = .ok (.iastore, 1) := by decide +kernel
theorem dX4_setPrice_116 : decode cX4_setPrice 116 = .ok (.aload_n 0, 1) := by decide +kernel
theorem dX4_setPrice_117 : decode cX4_setPrice 117 = .ok (.getfield 16, 3) := by decide +kernel
theorem dX4_setPrice_120 : decode cX4_setPrice 120 = .ok (.iload_n 1, 1) := by decide +kernel
theorem dX4_setPrice_121 : decode cX4_setPrice 121 = .ok (.aload_n 0, 1) := by decide +kernel
theorem dX4_setPrice_122 : decode cX4_setPrice 122 = .ok (.getfield 83, 3) := by decide +kernel
theorem dX4_setPrice_125 : decode cX4_setPrice 125 = .ok (.iastore, 1) := by decide +kernel
theorem dX4_setPrice_126 : decode cX4_setPrice 126 = .ok (.aload_n 0, 1) := by decide +kernel
theorem dX4_setPrice_127 : decode cX4_setPrice 127 = .ok (.getfield 7, 3) := by decide +kernel
theorem dX4_setPrice_130 : decode cX4_setPrice 130 = .ok (.sipush 2001, 3) := by decide +kernel
theorem dX4_setPrice_133 : decode cX4_setPrice 133 = .ok (.iload_n 1, 1) := by decide +kernel
theorem dX4_setPrice_134 : decode cX4_setPrice 134 = .ok (.imul, 1) := by decide +kernel
theorem dX4_setPrice_135 : decode cX4_setPrice 135 = .ok (.aload_n 0, 1) := by decide +kernel
theorem dX4_setPrice_136 : decode cX4_setPrice 136 = .ok (.getfield 83, 3) := by decide +kernel
theorem dX4_setPrice_139 : decode cX4_setPrice 139 = .ok (.iadd, 1) := by decide +kernel
theorem dX4_setPrice_140 : decode cX4_setPrice 140 = .ok (.iload_n 2, 1) := by decide +kernel
theorem dX4_setPrice_141 : decode cX4_setPrice 141 = .ok (.iastore, 1) := by decide +kernel
theorem dX4_setPrice_142 : decode cX4_setPrice 142 = .ok (.iload_n 3, 1) := by decide +kernel
theorem dX4_setPrice_143 : decode cX4_setPrice 143 = .ok (.ireturn, 1) := by decide +kernel
set_option maxRecDepth 20000 in
theorem ggX4_price_X4_isProvider : GoodIn wsX4_price wsX4_isProvider := goodIn_r _ [6, 7, 8, 5, 9] (by decide +kernel) (by decide +kernel)
set_option maxRecDepth 20000 in
theorem gX4_price_X4_isProvider : GoodIn wsX4_price (va_wsS RX4 86 yX4_isProvider wsX4_isProvider) := goodIn_app (goodIn_of _ (by decide +kernel)) ggX4_price_X4_isProvider
set_option maxRecDepth 20000 in
theorem ggX4_price_X4_isIn : GoodIn wsX4_price wsX4_isIn := goodIn_r _ [9] (by decide +kernel) (by decide +kernel)
set_option maxRecDepth 20000 in
theorem gX4_price_X4_isIn : GoodIn wsX4_price (va_wsS RX4 73 yX4_isIn wsX4_isIn) := goodIn_app (goodIn_of _ (by decide +kernel)) ggX4_price_X4_isIn
set_option maxRecDepth 20000 in
theorem ggX4_price_X4_priceOf : GoodIn wsX4_price wsX4_priceOf := goodIn_r _ [13, 14, 15, 16, 17, 18, 19, 20, 21, 22, 23, 24, 25, 26, 27, 28, 29, 30, 31, 32, 33, 34, 35, 36, 37] (by decide +kernel) (by decide +kernel)
set_option maxRecDepth 20000 in
theorem gX4_price_X4_priceOf : GoodIn wsX4_price (wsV RX4 90 RX4 yX4_priceOf wsX4_priceOf) := goodIn_app (goodIn_of _ (by decide +kernel)) ggX4_price_X4_priceOf
theorem dX4_price_0 : decode cX4_price 0 = .ok (.aload_n 0, 1) := by decide +kernel
theorem dX4_price_1 : decode cX4_price 1 = .ok (.iload_n 1, 1) := by decide +kernel
theorem dX4_price_2 : decode cX4_price 2 = .ok (.invokestatic 86, 3) := by decide +kernel
theorem dX4_price_5 : decode cX4_price 5 = .ok (.ifCond .eq 19, 3) := by decide +kernel
theorem dX4_price_8 : decode cX4_price 8 = .ok (.iload_n 2, 1) := by decide +kernel
theorem dX4_price_9 : decode cX4_price 9 = .ok (.iconst 0, 1) := by decide +kernel
theorem dX4_price_10 : decode cX4_price 10 = .ok (.aload_n 0, 1) := by decide +kernel
theorem dX4_price_11 : decode cX4_price 11 = .ok (.getfield 83, 3) := by decide +kernel
theorem dX4_price_14 : decode cX4_price 14 = .ok (.invokestatic 73, 3) := by decide +kernel
theorem dX4_price_17 : decode cX4_price 17 = .ok (.ifCond .eq 7, 3) := by decide +kernel
theorem dX4_price_20 : decode cX4_price 20 = .ok (.iconst 0, 1) := by decide +kernel
theorem dX4_price_21 : decode cX4_price 21 = .ok (.goto 4, 3) := by decide +kernel
theorem dX4_price_24 : decode cX4_price 24 = .ok (.iconst 1, 1) := by decide +kernel
theorem dX4_price_25 : decode cX4_price 25 = .ok (.putfield 70, 3) := by decide +kernel
theorem dX4_price_28 : decode cX4_price 28 = .ok (.aload_n 0, 1) := by decide +kernel
theorem dX4_price_29 : decode cX4_price 29 = .ok (.getfield 70, 3) := by decide +kernel
theorem dX4_price_32 : decode cX4_price 32 = .ok (.ifCond .le 7, 3) := by decide +kernel
theorem dX4_price_35 : decode cX4_price 35 = .ok (.iconst 0, 1) := by decide +kernel
theorem dX4_price_36 : decode cX4_price 36 = .ok (.goto 9, 3) := by decide +kernel
theorem dX4_price_39 : decode cX4_price 39 = .ok (.aload_n 0, 1) := by decide +kernel
theorem dX4_price_40 : decode cX4_price 40 = .ok (.iload_n 1, 1) := by decide +kernel
theorem dX4_price_41 : decode cX4_price 41 = .ok (.iload_n 2, 1) := by decide +kernel
theorem dX4_price_42 : decode cX4_price 42 = .ok (.invokevirtual 90, 3) := by decide +kernel
theorem dX4_price_45 : decode cX4_price 45 = .ok (.ireturn, 1) := by decide +kernel
set_option maxRecDepth 20000 in
theorem ggX4_setDefault_X4_isIn : GoodIn wsX4_setDefault wsX4_isIn := goodIn_r _ [6] (by decide +kernel) (by decide +kernel)
set_option maxRecDepth 20000 in
theorem gX4_setDefault_X4_isIn : GoodIn wsX4_setDefault (va_wsS RX4 73 yX4_isIn wsX4_isIn) := goodIn_app (goodIn_of _ (by decide +kernel)) ggX4_setDefault_X4_isIn
theorem dX4_setDefault_0 : decode cX4_setDefault 0 = .ok (.aload_n 0, 1) := by decide +kernel
theorem dX4_setDefault_1 : decode cX4_setDefault 1 = .ok (.iload_n 1, 1) := by decide +kernel
theorem dX4_setDefault_2 : decode cX4_setDefault 2 = .ok (.bipush 100, 2) := by decide +kernel
theorem dX4_setDefault_4 : decode cX4_setDefault 4 = .ok (.sipush 10000, 3) := by decide +kernel
theorem dX4_setDefault_7 : decode cX4_setDefault 7 = .ok (.invokestatic 73, 3) := by decide +kernel
theorem dX4_setDefault_10 : decode cX4_setDefault 10 = .ok (.ifCond .eq 7, 3) := by decide +kernel
theorem dX4_setDefault_13 : decode cX4_setDefault 13 = .ok (.iconst 0, 1) := by decide +kernel
theorem dX4_setDefault_14 : decode cX4_setDefault 14 = .ok (.goto 4, 3) := by decide +kernel
theorem dX4_setDefault_17 : decode cX4_setDefault 17 = .ok (.iconst 1, 1) := by decide +kernel
theorem dX4_setDefault_18 : decode cX4_setDefault 18 = .ok (.putfield 70, 3) := by decide +kernel
theorem dX4_setDefault_21 : decode cX4_setDefault 21 = .ok (.aload_n 0, 1) := by decide +kernel
theorem dX4_setDefault_22 : decode cX4_setDefault 22 = .ok (.getfield 70, 3) := by decide +kernel
theorem dX4_setDefault_25 : decode cX4_setDefault 25 = .ok (.ifCond .le 5, 3) := by decide +kernel
theorem dX4_setDefault_28 : decode cX4_setDefault 28 = .ok (.iconst 0, 1) := by decide +kernel
theorem dX4_setDefault_29 : decode cX4_setDefault 29 = .ok (.ireturn, 1) := by decide +kernel
theorem dX4_setDefault_30 : decode cX4_setDefault 30 = .ok (.aload_n 0, 1) := by decide +kernel
theorem dX4_setDefault_31 : decode cX4_setDefault 31 = .ok (.getfield 19, 3) := by decide +kernel
theorem dX4_setDefault_34 : decode cX4_setDefault 34 = .ok (.istore_n 2, 1) := by decide +kernel
theorem dX4_setDefault_35 : decode cX4_setDefault 35 = .ok (.aload_n 0, 1) := by decide +kernel
theorem dX4_setDefault_36 : decode cX4_setDefault 36 = .ok (.iload_n 1, 1) := by decide +kernel
theorem dX4_setDefault_37 : decode cX4_setDefault 37 = .ok (.putfield 19, 3) := by decide +kernel
theorem dX4_setDefault_40 : decode cX4_setDefault 40 = .ok (.iload_n 2, 1) := by decide +kernel
theorem dX4_setDefault_41 : decode cX4_setDefault 41 = .ok (.ireturn, 1) := by decide +kernel
theorem dX4_unitsFor_0 : decode cX4_unitsFor 0 = .ok (.lload_n 0, 1) := by decide +kernel
theorem dX4_unitsFor_1 : decode cX4_unitsFor 1 = .ok (.ldc2_w 94, 3) := by decide +kernel
theorem dX4_unitsFor_4 : decode cX4_unitsFor 4 = .ok (.lmul, 1) := by decide +kernel
theorem dX4_unitsFor_5 : decode cX4_unitsFor 5 = .ok (.iload_n 2, 1) := by decide +kernel
theorem dX4_unitsFor_6 : decode cX4_unitsFor 6 = .ok (.i2l, 1) := by decide +kernel
theorem dX4_unitsFor_7 : decode cX4_unitsFor 7 = .ok (.ldiv, 1) := by decide +kernel
theorem dX4_unitsFor_8 : decode cX4_unitsFor 8 = .ok (.lreturn, 1) := by decide +kernel
set_option maxRecDepth 20000 in
theorem ggX4_begin_X4_isProvider : GoodIn wsX4_begin wsX4_isProvider := goodIn_r _ [10, 11, 12, 9, 13] (by decide +kernel) (by decide +kernel)
set_option maxRecDepth 20000 in
theorem gX4_begin_X4_isProvider : GoodIn wsX4_begin (va_wsS RX4 86 yX4_isProvider wsX4_isProvider) := goodIn_app (goodIn_of _ (by decide +kernel)) ggX4_begin_X4_isProvider
set_option maxRecDepth 20000 in
theorem ggX4_begin_X4_isIn : GoodIn wsX4_begin wsX4_isIn := goodIn_r _ [13] (by decide +kernel) (by decide +kernel)
set_option maxRecDepth 20000 in
theorem gX4_begin_X4_isIn : GoodIn wsX4_begin (va_wsS RX4 73 yX4_isIn wsX4_isIn) := goodIn_app (goodIn_of _ (by decide +kernel)) ggX4_begin_X4_isIn
set_option maxRecDepth 20000 in
theorem ggX4_begin_X4_priceOf : GoodIn wsX4_begin wsX4_priceOf := goodIn_r _ [17, 18, 23, 24, 25, 26, 27, 28, 29, 30, 31, 32, 33, 34, 35, 36, 37, 38, 39, 40, 41, 42, 43, 44, 45] (by decide +kernel) (by decide +kernel)
set_option maxRecDepth 20000 in
theorem gX4_begin_X4_priceOf : GoodIn wsX4_begin (wsV RX4 90 RX4 yX4_priceOf wsX4_priceOf) := goodIn_app (goodIn_of _ (by decide +kernel)) ggX4_begin_X4_priceOf
set_option maxRecDepth 20000 in
theorem ggX4_begin_X4_unitsFor : GoodIn wsX4_begin wsX4_unitsFor := goodIn_r _ [21, 22] (by decide +kernel) (by decide +kernel)
set_option maxRecDepth 20000 in
theorem gX4_begin_X4_unitsFor : GoodIn wsX4_begin (va_wsS RX4 97 yX4_unitsFor wsX4_unitsFor) := goodIn_app (goodIn_of _ (by decide +kernel)) ggX4_begin_X4_unitsFor
theorem dX4_begin_0 : decode cX4_begin 0 = .ok (.aload_n 0, 1) := by decide +kernel
theorem dX4_begin_1 : decode cX4_begin 1 = .ok (.iload_n 1, 1) := by decide +kernel
theorem dX4_begin_2 : decode cX4_begin 2 = .ok (.invokestatic 86, 3) := by decide +kernel
theorem dX4_begin_5 : decode cX4_begin 5 = .ok (.ifCond .eq 13, 3) := by decide +kernel
theorem dX4_begin_8 : decode cX4_begin 8 = .ok (.iload_n 2, 1) := by decide +kernel
theorem dX4_begin_9 : decode cX4_begin 9 = .ok (.iconst 0, 1) := by decide +kernel
theorem dX4_begin_10 : decode cX4_begin 10 = .ok (.ldc 96, 2) := by decide +kernel
theorem dX4_begin_12 : decode cX4_begin 12 = .ok (.invokestatic 73, 3) := by decide +kernel
theorem dX4_begin_15 : decode cX4_begin 15 = .ok (.ifCond .ne 7, 3) := by decide +kernel
theorem dX4_begin_18 : decode cX4_begin 18 = .ok (.iconst 1, 1) := by decide +kernel
theorem dX4_begin_19 : decode cX4_begin 19 = .ok (.goto 17, 3) := by decide +kernel
theorem dX4_begin_22 : decode cX4_begin 22 = .ok (.aload_n 0, 1) := by decide +kernel
theorem dX4_begin_23 : decode cX4_begin 23 = .ok (.getfield 77, 3) := by decide +kernel
theorem dX4_begin_26 : decode cX4_begin 26 = .ok (.bipush 10, 2) := by decide +kernel
theorem dX4_begin_28 : decode cX4_begin 28 = .ok (.if_icmp .ne 7, 3) := by decide +kernel
theorem dX4_begin_31 : decode cX4_begin 31 = .ok (.iconst 2, 1) := by decide +kernel
theorem dX4_begin_32 : decode cX4_begin 32 = .ok (.goto 4, 3) := by decide +kernel
theorem dX4_begin_35 : decode cX4_begin 35 = .ok (.iconst 0, 1) := by decide +kernel
theorem dX4_begin_36 : decode cX4_begin 36 = .ok (.putfield 70, 3) := by decide +kernel
theorem dX4_begin_39 : decode cX4_begin 39 = .ok (.aload_n 0, 1) := by decide +kernel
theorem dX4_begin_40 : decode cX4_begin 40 = .ok (.getfield 70, 3) := by decide +kernel
theorem dX4_begin_43 : decode cX4_begin 43 = .ok (.ifCond .le 5, 3) := by decide +kernel
theorem dX4_begin_46 : decode cX4_begin 46 = .ok (.iconst 0, 1) := by decide +kernel
theorem dX4_begin_47 : decode cX4_begin 47 = .ok (.ireturn, 1) := by decide +kernel
theorem dX4_begin_48 : decode cX4_begin 48 = .ok (.aload_n 0, 1) := by decide +kernel
theorem dX4_begin_49 : decode cX4_begin 49 = .ok (.getfield 23, 3) := by decide +kernel
theorem dX4_begin_52 : decode cX4_begin 52 = .ok (.aload_n 0, 1) := by decide +kernel
theorem dX4_begin_53 : decode cX4_begin 53 = .ok (.getfield 77, 3) := by decide +kernel
theorem dX4_begin_56 : decode cX4_begin 56 = .ok (.iload_n 1, 1) := by decide +kernel
theorem dX4_begin_57 : decode cX4_begin 57 = .ok (.iastore, 1) := by decide +kernel
theorem dX4_begin_58 : decode cX4_begin 58 = .ok (.aload_n 0, 1) := by decide +kernel
theorem dX4_begin_59 : decode cX4_begin 59 = .ok (.getfield 26, 3) := by decide +kernel
theorem dX4_begin_62 : decode cX4_begin 62 = .ok (.aload_n 0, 1) := by decide +kernel
theorem dX4_begin_63 : decode cX4_begin 63 = .ok (.getfield 77, 3) := by decide +kernel
theorem dX4_begin_66 : decode cX4_begin 66 = .ok (.iload_n 2, 1) := by decide +kernel
theorem dX4_begin_67 : decode cX4_begin 67 = .ok (.i2l, 1) := by decide +kernel
theorem dX4_begin_68 : decode cX4_begin 68 = .ok (.aload_n 0, 1) := by decide +kernel
theorem dX4_begin_69 : decode cX4_begin 69 = .ok (.iload_n 1, 1) := by decide +kernel
theorem dX4_begin_70 : decode cX4_begin 70 = .ok (.aload_n 0, 1) := by decide +kernel
theorem dX4_begin_71 : decode cX4_begin 71 = .ok (.getfield 83, 3) := by decide +kernel
theorem dX4_begin_74 : decode cX4_begin 74 = .ok (.invokevirtual 90, 3) := by decide +kernel
theorem dX4_begin_77 : decode cX4_begin 77 = .ok (.invokestatic 97, 3) := by decide +kernel
theorem dX4_begin_80 : decode cX4_begin 80 = .ok (.lastore, 1) := by decide +kernel
theorem dX4_begin_81 : decode cX4_begin 81 = .ok (.aload_n 0, 1) := by decide +kernel
theorem dX4_begin_82 : decode cX4_begin 82 = .ok (.dup, 1) := by decide +kernel
theorem dX4_begin_83 : decode cX4_begin 83 = .ok (.getfield 77, 3) := by decide +kernel
theorem dX4_begin_86 : decode cX4_begin 86 = .ok (.iconst 1, 1) := by decide +kernel
theorem dX4_begin_87 : decode cX4_begin 87 = .ok (.iadd, 1) := by decide +kernel
theorem dX4_begin_88 : decode cX4_begin 88 = .ok (.putfield 77, 3) := by decide +kernel
theorem dX4_begin_91 : decode cX4_begin 91 = .ok (.aload_n 0, 1) := by decide +kernel
theorem dX4_begin_92 : decode cX4_begin 92 = .ok (.getfield 77, 3) := by decide +kernel
theorem dX4_begin_95 : decode cX4_begin 95 = .ok (.iconst 1, 1) := by decide +kernel
theorem dX4_begin_96 : decode cX4_begin 96 = .ok (.isub, 1) := by decide +kernel
theorem dX4_begin_97 : decode cX4_begin 97 = .ok (.ireturn, 1) := by decide +kernel
set_option maxRecDepth 20000 in
theorem ggX4_pay_X4_isSaver : GoodIn wsX4_pay wsX4_isSaver := goodIn_r _ [12, 13, 14, 15, 11, 16, 26, 27, 28, 29, 30, 31, 32, 33, 34, 35, 36, 37, 38, 39, 40, 41, 42, 43, 44, 45, 46, 47, 48] (by decide +kernel) (by decide +kernel)
set_option maxRecDepth 20000 in
theorem gX4_pay_X4_isSaver : GoodIn wsX4_pay (wsV RX4 101 RX4 yX4_isSaver wsX4_isSaver) := goodIn_app (goodIn_of _ (by decide +kernel)) ggX4_pay_X4_isSaver
set_option maxRecDepth 20000 in
theorem ggX4_pay_X4_isIn : GoodIn wsX4_pay wsX4_isIn := goodIn_r _ [16] (by decide +kernel) (by decide +kernel)
set_option maxRecDepth 20000 in
theorem gX4_pay_X4_isIn : GoodIn wsX4_pay (va_wsS RX4 73 yX4_isIn wsX4_isIn) := goodIn_app (goodIn_of _ (by decide +kernel)) ggX4_pay_X4_isIn
set_option maxRecDepth 20000 in
theorem ggX4_pay_X4_priceOf : GoodIn wsX4_pay wsX4_priceOf := goodIn_r _ [20, 21, 26, 27, 28, 29, 30, 31, 32, 33, 34, 35, 36, 37, 38, 39, 40, 41, 42, 43, 44, 45, 46, 47, 48] (by decide +kernel) (by decide +kernel)
set_option maxRecDepth 20000 in
theorem gX4_pay_X4_priceOf : GoodIn wsX4_pay (wsV RX4 90 RX4 yX4_priceOf wsX4_priceOf) := goodIn_app (goodIn_of _ (by decide +kernel)) ggX4_pay_X4_priceOf
set_option maxRecDepth 20000 in
theorem ggX4_pay_X4_unitsFor : GoodIn wsX4_pay wsX4_unitsFor := goodIn_r _ [24, 25] (by decide +kernel) (by decide +kernel)
set_option maxRecDepth 20000 in
theorem gX4_pay_X4_unitsFor : GoodIn wsX4_pay (va_wsS RX4 97 yX4_unitsFor wsX4_unitsFor) := goodIn_app (goodIn_of _ (by decide +kernel)) ggX4_pay_X4_unitsFor
theorem dX4_pay_0 : decode cX4_pay 0 = .ok (.aload_n 0, 1) := by decide +kernel
theorem dX4_pay_1 : decode cX4_pay 1 = .ok (.aload_n 0, 1) := by decide +kernel
theorem dX4_pay_2 : decode cX4_pay 2 = .ok (.iload_n 1, 1) := by decide +kernel
theorem dX4_pay_3 : decode cX4_pay 3 = .ok (.invokevirtual 101, 3) := by decide +kernel
theorem dX4_pay_6 : decode cX4_pay 6 = .ok (.ifCond .ne 7, 3) := by decide +kernel
theorem dX4_pay_9 : decode cX4_pay 9 = .ok (.iconst 1, 1) := by decide +kernel
theorem dX4_pay_10 : decode cX4_pay 10 = .ok (.goto 18, 3) := by decide +kernel
theorem dX4_pay_13 : decode cX4_pay 13 = .ok (.iload_n 2, 1) := by decide +kernel
theorem dX4_pay_14 : decode cX4_pay 14 = .ok (.iconst 1, 1) := by decide +kernel
theorem dX4_pay_15 : decode cX4_pay 15 = .ok (.ldc 96, 2) := by decide +kernel
theorem dX4_pay_17 : decode cX4_pay 17 = .ok (.invokestatic 73, 3) := by decide +kernel
theorem dX4_pay_20 : decode cX4_pay 20 = .ok (.ifCond .eq 7, 3) := by decide +kernel
theorem dX4_pay_23 : decode cX4_pay 23 = .ok (.iconst 0, 1) := by decide +kernel
theorem dX4_pay_24 : decode cX4_pay 24 = .ok (.goto 4, 3) := by decide +kernel
theorem dX4_pay_27 : decode cX4_pay 27 = .ok (.iconst 2, 1) := by decide +kernel
theorem dX4_pay_28 : decode cX4_pay 28 = .ok (.putfield 70, 3) := by decide +kernel
theorem dX4_pay_31 : decode cX4_pay 31 = .ok (.aload_n 0, 1) := by decide +kernel
theorem dX4_pay_32 : decode cX4_pay 32 = .ok (.getfield 70, 3) := by decide +kernel
theorem dX4_pay_35 : decode cX4_pay 35 = .ok (.ifCond .le 5, 3) := by decide +kernel
theorem dX4_pay_38 : decode cX4_pay 38 = .ok (.iconst 0, 1) := by decide +kernel
theorem dX4_pay_39 : decode cX4_pay 39 = .ok (.ireturn, 1) := by decide +kernel
theorem dX4_pay_40 : decode cX4_pay 40 = .ok (.iload_n 2, 1) := by decide +kernel
theorem dX4_pay_41 : decode cX4_pay 41 = .ok (.i2l, 1) := by decide +kernel
theorem dX4_pay_42 : decode cX4_pay 42 = .ok (.aload_n 0, 1) := by decide +kernel
theorem dX4_pay_43 : decode cX4_pay 43 = .ok (.aload_n 0, 1) := by decide +kernel
theorem dX4_pay_44 : decode cX4_pay 44 = .ok (.getfield 23, 3) := by decide +kernel
theorem dX4_pay_47 : decode cX4_pay 47 = .ok (.iload_n 1, 1) := by decide +kernel
theorem dX4_pay_48 : decode cX4_pay 48 = .ok (.iaload, 1) := by decide +kernel
theorem dX4_pay_49 : decode cX4_pay 49 = .ok (.aload_n 0, 1) := by decide +kernel
theorem dX4_pay_50 : decode cX4_pay 50 = .ok (.getfield 83, 3) := by decide +kernel
theorem dX4_pay_53 : decode cX4_pay 53 = .ok (.invokevirtual 90, 3) := by decide +kernel
theorem dX4_pay_56 : decode cX4_pay 56 = .ok (.invokestatic 97, 3) := by decide +kernel
theorem dX4_pay_59 : decode cX4_pay 59 = .ok (.lstore_n 3, 1) := by decide +kernel
theorem dX4_pay_60 : decode cX4_pay 60 = .ok (.aload_n 0, 1) := by decide +kernel
theorem dX4_pay_61 : decode cX4_pay 61 = .ok (.aload_n 0, 1) := by decide +kernel
theorem dX4_pay_62 : decode cX4_pay 62 = .ok (.getfield 30, 3) := by decide +kernel
theorem dX4_pay_65 : decode cX4_pay 65 = .ok (.iload_n 1, 1) := by decide +kernel
theorem dX4_pay_66 : decode cX4_pay 66 = .ok (.baload, 1) := by decide +kernel
theorem dX4_pay_67 : decode cX4_pay 67 = .ok (.ifCond .ne 18, 3) := by decide +kernel
theorem dX4_pay_70 : decode cX4_pay 70 = .ok (.aload_n 0, 1) := by decide +kernel
theorem dX4_pay_71 : decode cX4_pay 71 = .ok (.getfield 26, 3) := by decide +kernel
theorem dX4_pay_74 : decode cX4_pay 74 = .ok (.iload_n 1, 1) := by decide +kernel
theorem dX4_pay_75 : decode cX4_pay 75 = .ok (.laload, 1) := by decide +kernel
theorem dX4_pay_76 : decode cX4_pay 76 = .ok (.lload_n 3, 1) := by decide +kernel
theorem dX4_pay_77 : decode cX4_pay 77 = .ok (.ladd, 1) := by decide +kernel
theorem dX4_pay_78 : decode cX4_pay 78 = .ok (.ldc2_w 104, 3) := by decide +kernel
theorem dX4_pay_81 : decode cX4_pay 81 = .ok (.lcmp, 1) := by decide +kernel
theorem dX4_pay_82 : decode cX4_pay 82 = .ok (.ifCond .le 7, 3) := by decide +kernel
theorem dX4_pay_85 : decode cX4_pay 85 = .ok (.iconst 3, 1) := by decide +kernel
theorem dX4_pay_86 : decode cX4_pay 86 = .ok (.goto 4, 3) := by decide +kernel
theorem dX4_pay_89 : decode cX4_pay 89 = .ok (.iconst 0, 1) := by decide +kernel
theorem dX4_pay_90 : decode cX4_pay 90 = .ok (.putfield 70, 3) := by decide +kernel
theorem dX4_pay_93 : decode cX4_pay 93 = .ok (.aload_n 0, 1) := by decide +kernel
theorem dX4_pay_94 : decode cX4_pay 94 = .ok (.getfield 70, 3) := by decide +kernel
theorem dX4_pay_97 : decode cX4_pay 97 = .ok (.ifCond .le 5, 3) := by decide +kernel
theorem dX4_pay_100 : decode cX4_pay 100 = .ok (.iconst 0, 1) := by decide +kernel
theorem dX4_pay_101 : decode cX4_pay 101 = .ok (.ireturn, 1) := by decide +kernel
theorem dX4_pay_102 : decode cX4_pay 102 = .ok (.aload_n 0, 1) := by decide +kernel
theorem dX4_pay_103 : decode cX4_pay 103 = .ok (.getfield 26, 3) := by decide +kernel
theorem dX4_pay_106 : decode cX4_pay 106 = .ok (.iload_n 1, 1) := by decide +kernel
theorem dX4_pay_107 : decode cX4_pay 107 = .ok (.dup2, 1) := by decide +kernel
theorem dX4_pay_108 : decode cX4_pay 108 = .ok (.laload, 1) := by decide +kernel
theorem dX4_pay_109 : decode cX4_pay 109 = .ok (.lload_n 3, 1) := by decide +kernel
theorem dX4_pay_110 : decode cX4_pay 110 = .ok (.ladd, 1) := by decide +kernel
theorem dX4_pay_111 : decode cX4_pay 111 = .ok (.lastore, 1) := by decide +kernel
theorem dX4_pay_112 : decode cX4_pay 112 = .ok (.lload_n 3, 1) := by decide +kernel
theorem dX4_pay_113 : decode cX4_pay 113 = .ok (.l2i, 1) := by decide +kernel
theorem dX4_pay_114 : decode cX4_pay 114 = .ok (.ireturn, 1) := by decide +kernel
set_option maxRecDepth 20000 in
theorem ggX4_units_X4_isSaver : GoodIn wsX4_units wsX4_isSaver := goodIn_r _ [7, 8, 9, 10, 6, 11, 12, 13, 14, 15, 16, 17, 18, 19, 20, 21, 22, 23, 24, 25, 26, 27, 28, 29, 30, 31, 32, 33, 34] (by decide +kernel) (by decide +kernel)
set_option maxRecDepth 20000 in
theorem gX4_units_X4_isSaver : GoodIn wsX4_units (wsV RX4 101 RX4 yX4_isSaver wsX4_isSaver) := goodIn_app (goodIn_of _ (by decide +kernel)) ggX4_units_X4_isSaver
theorem dX4_units_0 : decode cX4_units 0 = .ok (.aload_n 0, 1) := by decide +kernel
theorem dX4_units_1 : decode cX4_units 1 = .ok (.aload_n 0, 1) := by decide +kernel
theorem dX4_units_2 : decode cX4_units 2 = .ok (.iload_n 1, 1) := by decide +kernel
theorem dX4_units_3 : decode cX4_units 3 = .ok (.invokevirtual 101, 3) := by decide +kernel
theorem dX4_units_6 : decode cX4_units 6 = .ok (.ifCond .eq 7, 3) := by decide +kernel
theorem dX4_units_9 : decode cX4_units 9 = .ok (.iconst 0, 1) := by decide +kernel
theorem dX4_units_10 : decode cX4_units 10 = .ok (.goto 4, 3) := by decide +kernel
theorem dX4_units_13 : decode cX4_units 13 = .ok (.iconst 1, 1) := by decide +kernel
theorem dX4_units_14 : decode cX4_units 14 = .ok (.putfield 70, 3) := by decide +kernel
theorem dX4_units_17 : decode cX4_units 17 = .ok (.aload_n 0, 1) := by decide +kernel
theorem dX4_units_18 : decode cX4_units 18 = .ok (.getfield 70, 3) := by decide +kernel
theorem dX4_units_21 : decode cX4_units 21 = .ok (.ifCond .le 7, 3) := by decide +kernel
theorem dX4_units_24 : decode cX4_units 24 = .ok (.lconst 0, 1) := by decide +kernel
theorem dX4_units_25 : decode cX4_units 25 = .ok (.goto 9, 3) := by decide +kernel
theorem dX4_units_28 : decode cX4_units 28 = .ok (.aload_n 0, 1) := by decide +kernel
theorem dX4_units_29 : decode cX4_units 29 = .ok (.getfield 26, 3) := by decide +kernel
theorem dX4_units_32 : decode cX4_units 32 = .ok (.iload_n 1, 1) := by decide +kernel
theorem dX4_units_33 : decode cX4_units 33 = .ok (.laload, 1) := by decide +kernel
theorem dX4_units_34 : decode cX4_units 34 = .ok (.lreturn, 1) := by decide +kernel
set_option maxRecDepth 20000 in
theorem ggX4_provider_X4_isSaver : GoodIn wsX4_provider wsX4_isSaver := goodIn_r _ [7, 8, 9, 10, 6, 11, 12, 13, 14, 15, 16, 17, 18, 19, 20, 21, 22, 23, 24, 25, 26, 27, 28, 29, 30, 31, 32, 33, 34] (by decide +kernel) (by decide +kernel)
set_option maxRecDepth 20000 in
theorem gX4_provider_X4_isSaver : GoodIn wsX4_provider (wsV RX4 101 RX4 yX4_isSaver wsX4_isSaver) := goodIn_app (goodIn_of _ (by decide +kernel)) ggX4_provider_X4_isSaver
theorem dX4_provider_0 : decode cX4_provider 0 = .ok (.aload_n 0, 1) := by decide +kernel
theorem dX4_provider_1 : decode cX4_provider 1 = .ok (.aload_n 0, 1) := by decide +kernel
theorem dX4_provider_2 : decode cX4_provider 2 = .ok (.iload_n 1, 1) := by decide +kernel
theorem dX4_provider_3 : decode cX4_provider 3 = .ok (.invokevirtual 101, 3) := by decide +kernel
theorem dX4_provider_6 : decode cX4_provider 6 = .ok (.ifCond .eq 7, 3) := by decide +kernel
theorem dX4_provider_9 : decode cX4_provider 9 = .ok (.iconst 0, 1) := by decide +kernel
theorem dX4_provider_10 : decode cX4_provider 10 = .ok (.goto 4, 3) := by decide +kernel
theorem dX4_provider_13 : decode cX4_provider 13 = .ok (.iconst 1, 1) := by decide +kernel
theorem dX4_provider_14 : decode cX4_provider 14 = .ok (.putfield 70, 3) := by decide +kernel
theorem dX4_provider_17 : decode cX4_provider 17 = .ok (.aload_n 0, 1) := by decide +kernel
theorem dX4_provider_18 : decode cX4_provider 18 = .ok (.getfield 70, 3) := by decide +kernel
theorem dX4_provider_21 : decode cX4_provider 21 = .ok (.ifCond .le 7, 3) := by decide +kernel
theorem dX4_provider_24 : decode cX4_provider 24 = .ok (.iconst 0, 1) := by decide +kernel
theorem dX4_provider_25 : decode cX4_provider 25 = .ok (.goto 9, 3) := by decide +kernel
theorem dX4_provider_28 : decode cX4_provider 28 = .ok (.aload_n 0, 1) := by decide +kernel
theorem dX4_provider_29 : decode cX4_provider 29 = .ok (.getfield 23, 3) := by decide +kernel
theorem dX4_provider_32 : decode cX4_provider 32 = .ok (.iload_n 1, 1) := by decide +kernel
theorem dX4_provider_33 : decode cX4_provider 33 = .ok (.iaload, 1) := by decide +kernel
theorem dX4_provider_34 : decode cX4_provider 34 = .ok (.ireturn, 1) := by decide +kernel
set_option maxRecDepth 20000 in
theorem ggX4_order_X4_isSaver : GoodIn wsX4_order wsX4_isSaver := goodIn_r _ [13, 14, 15, 16, 12, 17, 21, 22, 23, 24, 25, 26, 27, 28, 29, 30, 31, 32, 33, 34, 35, 36, 37, 38, 39, 40, 41, 42, 43] (by decide +kernel) (by decide +kernel)
set_option maxRecDepth 20000 in
theorem gX4_order_X4_isSaver : GoodIn wsX4_order (wsV RX4 101 RX4 yX4_isSaver wsX4_isSaver) := goodIn_app (goodIn_of _ (by decide +kernel)) ggX4_order_X4_isSaver
set_option maxRecDepth 20000 in
theorem ggX4_order_X4_isProvider : GoodIn wsX4_order wsX4_isProvider := goodIn_r _ [20, 15, 16, 12, 17] (by decide +kernel) (by decide +kernel)
set_option maxRecDepth 20000 in
theorem gX4_order_X4_isProvider : GoodIn wsX4_order (va_wsS RX4 86 yX4_isProvider wsX4_isProvider) := goodIn_app (goodIn_of _ (by decide +kernel)) ggX4_order_X4_isProvider
theorem dX4_order_0 : decode cX4_order 0 = .ok (.aload_n 0, 1) := by decide +kernel
theorem dX4_order_1 : decode cX4_order 1 = .ok (.aload_n 0, 1) := by decide +kernel
theorem dX4_order_2 : decode cX4_order 2 = .ok (.iload_n 1, 1) := by decide +kernel
theorem dX4_order_3 : decode cX4_order 3 = .ok (.invokevirtual 101, 3) := by decide +kernel
theorem dX4_order_6 : decode cX4_order 6 = .ok (.ifCond .eq 7, 3) := by decide +kernel
theorem dX4_order_9 : decode cX4_order 9 = .ok (.iconst 0, 1) := by decide +kernel
theorem dX4_order_10 : decode cX4_order 10 = .ok (.goto 4, 3) := by decide +kernel
theorem dX4_order_13 : decode cX4_order 13 = .ok (.iconst 1, 1) := by decide +kernel
theorem dX4_order_14 : decode cX4_order 14 = .ok (.putfield 70, 3) := by decide +kernel
theorem dX4_order_17 : decode cX4_order 17 = .ok (.aload_n 0, 1) := by decide +kernel
theorem dX4_order_18 : decode cX4_order 18 = .ok (.getfield 70, 3) := by decide +kernel
theorem dX4_order_21 : decode cX4_order 21 = .ok (.ifCond .le 5, 3) := by decide +kernel
theorem dX4_order_24 : decode cX4_order 24 = .ok (.iconst 0, 1) := by decide +kernel
theorem dX4_order_25 : decode cX4_order 25 = .ok (.ireturn, 1) := by decide +kernel
theorem dX4_order_26 : decode cX4_order 26 = .ok (.aload_n 0, 1) := by decide +kernel
theorem dX4_order_27 : decode cX4_order 27 = .ok (.iload_n 2, 1) := by decide +kernel
theorem dX4_order_28 : decode cX4_order 28 = .ok (.invokestatic 86, 3) := by decide +kernel
theorem dX4_order_31 : decode cX4_order 31 = .ok (.ifCond .eq 13, 3) := by decide +kernel
theorem dX4_order_34 : decode cX4_order 34 = .ok (.iload_n 2, 1) := by decide +kernel
theorem dX4_order_35 : decode cX4_order 35 = .ok (.aload_n 0, 1) := by decide +kernel
theorem dX4_order_36 : decode cX4_order 36 = .ok (.getfield 23, 3) := by decide +kernel
theorem dX4_order_39 : decode cX4_order 39 = .ok (.iload_n 1, 1) := by decide +kernel
theorem dX4_order_40 : decode cX4_order 40 = .ok (.iaload, 1) := by decide +kernel
theorem dX4_order_41 : decode cX4_order 41 = .ok (.if_icmp .ne 7, 3) := by decide +kernel
theorem dX4_order_44 : decode cX4_order 44 = .ok (.iconst 2, 1) := by decide +kernel
theorem dX4_order_45 : decode cX4_order 45 = .ok (.goto 26, 3) := by decide +kernel
theorem dX4_order_48 : decode cX4_order 48 = .ok (.aload_n 0, 1) := by decide +kernel
theorem dX4_order_49 : decode cX4_order 49 = .ok (.getfield 30, 3) := by decide +kernel
theorem dX4_order_52 : decode cX4_order 52 = .ok (.iload_n 1, 1) := by decide +kernel
theorem dX4_order_53 : decode cX4_order 53 = .ok (.baload, 1) := by decide +kernel
theorem dX4_order_54 : decode cX4_order 54 = .ok (.ifCond .ne 12, 3) := by decide +kernel
theorem dX4_order_57 : decode cX4_order 57 = .ok (.aload_n 0, 1) := by decide +kernel
theorem dX4_order_58 : decode cX4_order 58 = .ok (.getfield 80, 3) := by decide +kernel
theorem dX4_order_61 : decode cX4_order 61 = .ok (.bipush 30, 2) := by decide +kernel
theorem dX4_order_63 : decode cX4_order 63 = .ok (.if_icmp .ne 7, 3) := by decide +kernel
theorem dX4_order_66 : decode cX4_order 66 = .ok (.iconst 3, 1) := by decide +kernel
theorem dX4_order_67 : decode cX4_order 67 = .ok (.goto 4, 3) := by decide +kernel
theorem dX4_order_70 : decode cX4_order 70 = .ok (.iconst 0, 1) := by decide +kernel
theorem dX4_order_71 : decode cX4_order 71 = .ok (.putfield 70, 3) := by decide +kernel
theorem dX4_order_74 : decode cX4_order 74 = .ok (.aload_n 0, 1) := by decide +kernel
theorem dX4_order_75 : decode cX4_order 75 = .ok (.getfield 70, 3) := by decide +kernel
theorem dX4_order_78 : decode cX4_order 78 = .ok (.ifCond .le 5, 3) := by decide +kernel
theorem dX4_order_81 : decode cX4_order 81 = .ok (.iconst 0, 1) := by decide +kernel
theorem dX4_order_82 : decode cX4_order 82 = .ok (.ireturn, 1) := by decide +kernel
theorem dX4_order_83 : decode cX4_order 83 = .ok (.aload_n 0, 1) := by decide +kernel
theorem dX4_order_84 : decode cX4_order 84 = .ok (.getfield 34, 3) := by decide +kernel
theorem dX4_order_87 : decode cX4_order 87 = .ok (.aload_n 0, 1) := by decide +kernel
theorem dX4_order_88 : decode cX4_order 88 = .ok (.getfield 80, 3) := by decide +kernel
theorem dX4_order_91 : decode cX4_order 91 = .ok (.iload_n 1, 1) := by decide +kernel
theorem dX4_order_92 : decode cX4_order 92 = .ok (.iastore, 1) := by decide +kernel
theorem dX4_order_93 : decode cX4_order 93 = .ok (.aload_n 0, 1) := by decide +kernel
theorem dX4_order_94 : decode cX4_order 94 = .ok (.getfield 37, 3) := by decide +kernel
theorem dX4_order_97 : decode cX4_order 97 = .ok (.aload_n 0, 1) := by decide +kernel
theorem dX4_order_98 : decode cX4_order 98 = .ok (.getfield 80, 3) := by decide +kernel
theorem dX4_order_101 : decode cX4_order 101 = .ok (.iload_n 2, 1) := by decide +kernel
theorem dX4_order_102 : decode cX4_order 102 = .ok (.iastore, 1) := by decide +kernel
theorem dX4_order_103 : decode cX4_order 103 = .ok (.aload_n 0, 1) := by decide +kernel
theorem dX4_order_104 : decode cX4_order 104 = .ok (.getfield 43, 3) := by decide +kernel
theorem dX4_order_107 : decode cX4_order 107 = .ok (.aload_n 0, 1) := by decide +kernel
theorem dX4_order_108 : decode cX4_order 108 = .ok (.getfield 80, 3) := by decide +kernel
theorem dX4_order_111 : decode cX4_order 111 = .ok (.aload_n 0, 1) := by decide +kernel
theorem dX4_order_112 : decode cX4_order 112 = .ok (.getfield 83, 3) := by decide +kernel
theorem dX4_order_115 : decode cX4_order 115 = .ok (.iastore, 1) := by decide +kernel
theorem dX4_order_116 : decode cX4_order 116 = .ok (.aload_n 0, 1) := by decide +kernel
theorem dX4_order_117 : decode cX4_order 117 = .ok (.getfield 30, 3) := by decide +kernel
theorem dX4_order_120 : decode cX4_order 120 = .ok (.iload_n 1, 1) := by decide +kernel
theorem dX4_order_121 : decode cX4_order 121 = .ok (.iconst 1, 1) := by decide +kernel
theorem dX4_order_122 : decode cX4_order 122 = .ok (.bastore, 1) := by decide +kernel
theorem dX4_order_123 : decode cX4_order 123 = .ok (.aload_n 0, 1) := by decide +kernel
theorem dX4_order_124 : decode cX4_order 124 = .ok (.dup, 1) := by decide +kernel
theorem dX4_order_125 : decode cX4_order 125 = .ok (.getfield 80, 3) := by decide +kernel
theorem dX4_order_128 : decode cX4_order 128 = .ok (.iconst 1, 1) := by decide +kernel
theorem dX4_order_129 : decode cX4_order 129 = .ok (.iadd, 1) := by decide +kernel
theorem dX4_order_130 : decode cX4_order 130 = .ok (.putfield 80, 3) := by decide +kernel
theorem dX4_order_133 : decode cX4_order 133 = .ok (.aload_n 0, 1) := by decide +kernel
theorem dX4_order_134 : decode cX4_order 134 = .ok (.getfield 80, 3) := by decide +kernel
theorem dX4_order_137 : decode cX4_order 137 = .ok (.iconst 1, 1) := by decide +kernel
theorem dX4_order_138 : decode cX4_order 138 = .ok (.isub, 1) := by decide +kernel
theorem dX4_order_139 : decode cX4_order 139 = .ok (.ireturn, 1) := by decide +kernel
theorem dX4_dueOf_0 : decode cX4_dueOf 0 = .ok (.aload_n 0, 1) := by decide +kernel
theorem dX4_dueOf_1 : decode cX4_dueOf 1 = .ok (.getfield 43, 3) := by decide +kernel
theorem dX4_dueOf_4 : decode cX4_dueOf 4 = .ok (.iload_n 1, 1) := by decide +kernel
theorem dX4_dueOf_5 : decode cX4_dueOf 5 = .ok (.iaload, 1) := by decide +kernel
theorem dX4_dueOf_6 : decode cX4_dueOf 6 = .ok (.aload_n 0, 1) := by decide +kernel
theorem dX4_dueOf_7 : decode cX4_dueOf 7 = .ok (.getfield 40, 3) := by decide +kernel
theorem dX4_dueOf_10 : decode cX4_dueOf 10 = .ok (.iload_n 1, 1) := by decide +kernel
theorem dX4_dueOf_11 : decode cX4_dueOf 11 = .ok (.iaload, 1) := by decide +kernel
theorem dX4_dueOf_12 : decode cX4_dueOf 12 = .ok (.ifCond .ne 7, 3) := by decide +kernel
theorem dX4_dueOf_15 : decode cX4_dueOf 15 = .ok (.iconst 3, 1) := by decide +kernel
theorem dX4_dueOf_16 : decode cX4_dueOf 16 = .ok (.goto 4, 3) := by decide +kernel
theorem dX4_dueOf_19 : decode cX4_dueOf 19 = .ok (.iconst 2, 1) := by decide +kernel
theorem dX4_dueOf_20 : decode cX4_dueOf 20 = .ok (.iadd, 1) := by decide +kernel
theorem dX4_dueOf_21 : decode cX4_dueOf 21 = .ok (.ireturn, 1) := by decide +kernel
set_option maxRecDepth 20000 in
theorem ggX4_lateBy_X4_dueOf : GoodIn wsX4_lateBy wsX4_dueOf := goodIn_r _ [6, 7, 8, 9, 10, 11, 12, 13, 14, 15, 16, 17, 18, 19, 20, 21, 22, 23, 24, 25, 26, 27, 28, 29, 30, 31] (by decide +kernel) (by decide +kernel)
set_option maxRecDepth 20000 in
theorem gX4_lateBy_X4_dueOf : GoodIn wsX4_lateBy (wsV RX4 106 RX4 yX4_dueOf wsX4_dueOf) := goodIn_app (goodIn_of _ (by decide +kernel)) ggX4_lateBy_X4_dueOf
theorem dX4_lateBy_0 : decode cX4_lateBy 0 = .ok (.aload_n 0, 1) := by decide +kernel
theorem dX4_lateBy_1 : decode cX4_lateBy 1 = .ok (.getfield 83, 3) := by decide +kernel
theorem dX4_lateBy_4 : decode cX4_lateBy 4 = .ok (.aload_n 0, 1) := by decide +kernel
theorem dX4_lateBy_5 : decode cX4_lateBy 5 = .ok (.iload_n 1, 1) := by decide +kernel
theorem dX4_lateBy_6 : decode cX4_lateBy 6 = .ok (.invokevirtual 106, 3) := by decide +kernel
theorem dX4_lateBy_9 : decode cX4_lateBy 9 = .ok (.if_icmp .le 16, 3) := by decide +kernel
theorem dX4_lateBy_12 : decode cX4_lateBy 12 = .ok (.aload_n 0, 1) := by decide +kernel
theorem dX4_lateBy_13 : decode cX4_lateBy 13 = .ok (.getfield 83, 3) := by decide +kernel
theorem dX4_lateBy_16 : decode cX4_lateBy 16 = .ok (.aload_n 0, 1) := by decide +kernel
theorem dX4_lateBy_17 : decode cX4_lateBy 17 = .ok (.iload_n 1, 1) := by decide +kernel
theorem dX4_lateBy_18 : decode cX4_lateBy 18 = .ok (.invokevirtual 106, 3) := by decide +kernel
theorem dX4_lateBy_21 : decode cX4_lateBy 21 = .ok (.isub, 1) := by decide +kernel
theorem dX4_lateBy_22 : decode cX4_lateBy 22 = .ok (.goto 4, 3) := by decide +kernel
theorem dX4_lateBy_25 : decode cX4_lateBy 25 = .ok (.iconst 0, 1) := by decide +kernel
theorem dX4_lateBy_26 : decode cX4_lateBy 26 = .ok (.ireturn, 1) := by decide +kernel
set_option maxRecDepth 20000 in
theorem ggX4_timely_X4_priceOf : GoodIn wsX4_timely wsX4_priceOf := goodIn_r _ [14, 15, 19, 20, 21, 22, 23, 24, 25, 26, 27, 28, 29, 30, 31, 32, 33, 34, 35, 36, 37, 38, 39, 40, 41] (by decide +kernel) (by decide +kernel)
set_option maxRecDepth 20000 in
theorem gX4_timely_X4_priceOf : GoodIn wsX4_timely (wsV RX4 90 RX4 yX4_priceOf wsX4_priceOf) := goodIn_app (goodIn_of _ (by decide +kernel)) ggX4_timely_X4_priceOf
set_option maxRecDepth 20000 in
theorem ggX4_timely_X4_unitsFor : GoodIn wsX4_timely wsX4_unitsFor := goodIn_r _ [18, 7] (by decide +kernel) (by decide +kernel)
set_option maxRecDepth 20000 in
theorem gX4_timely_X4_unitsFor : GoodIn wsX4_timely (va_wsS RX4 97 yX4_unitsFor wsX4_unitsFor) := goodIn_app (goodIn_of _ (by decide +kernel)) ggX4_timely_X4_unitsFor
theorem dX4_timely_0 : decode cX4_timely 0 = .ok (.aload_n 0, 1) := by decide +kernel
theorem dX4_timely_1 : decode cX4_timely 1 = .ok (.getfield 52, 3) := by decide +kernel
theorem dX4_timely_4 : decode cX4_timely 4 = .ok (.iload_n 1, 1) := by decide +kernel
theorem dX4_timely_5 : decode cX4_timely 5 = .ok (.iaload, 1) := by decide +kernel
theorem dX4_timely_6 : decode cX4_timely 6 = .ok (.iload_n 2, 1) := by decide +kernel
theorem dX4_timely_7 : decode cX4_timely 7 = .ok (.iadd, 1) := by decide +kernel
theorem dX4_timely_8 : decode cX4_timely 8 = .ok (.istore_n 3, 1) := by decide +kernel
theorem dX4_timely_9 : decode cX4_timely 9 = .ok (.iload_n 3, 1) := by decide +kernel
theorem dX4_timely_10 : decode cX4_timely 10 = .ok (.ifCond .ne 5, 3) := by decide +kernel
theorem dX4_timely_13 : decode cX4_timely 13 = .ok (.lconst 0, 1) := by decide +kernel
theorem dX4_timely_14 : decode cX4_timely 14 = .ok (.lreturn, 1) := by decide +kernel
theorem dX4_timely_15 : decode cX4_timely 15 = .ok (.aload_n 0, 1) := by decide +kernel
theorem dX4_timely_16 : decode cX4_timely 16 = .ok (.getfield 23, 3) := by decide +kernel
theorem dX4_timely_19 : decode cX4_timely 19 = .ok (.aload_n 0, 1) := by decide +kernel
theorem dX4_timely_20 : decode cX4_timely 20 = .ok (.getfield 34, 3) := by decide +kernel
theorem dX4_timely_23 : decode cX4_timely 23 = .ok (.iload_n 1, 1) := by decide +kernel
theorem dX4_timely_24 : decode cX4_timely 24 = .ok (.iaload, 1) := by decide +kernel
theorem dX4_timely_25 : decode cX4_timely 25 = .ok (.iaload, 1) := by decide +kernel
theorem dX4_timely_26 : decode cX4_timely 26 = .ok (.istore 4, 2) := by decide +kernel
theorem dX4_timely_28 : decode cX4_timely 28 = .ok (.aload_n 0, 1) := by decide +kernel
theorem dX4_timely_29 : decode cX4_timely 29 = .ok (.getfield 55, 3) := by decide +kernel
theorem dX4_timely_32 : decode cX4_timely 32 = .ok (.iload_n 1, 1) := by decide +kernel
theorem dX4_timely_33 : decode cX4_timely 33 = .ok (.laload, 1) := by decide +kernel
theorem dX4_timely_34 : decode cX4_timely 34 = .ok (.aload_n 0, 1) := by decide +kernel
theorem dX4_timely_35 : decode cX4_timely 35 = .ok (.iload 4, 2) := by decide +kernel
theorem dX4_timely_37 : decode cX4_timely 37 = .ok (.aload_n 0, 1) := by decide +kernel
theorem dX4_timely_38 : decode cX4_timely 38 = .ok (.getfield 46, 3) := by decide +kernel
theorem dX4_timely_41 : decode cX4_timely 41 = .ok (.iload_n 1, 1) := by decide +kernel
theorem dX4_timely_42 : decode cX4_timely 42 = .ok (.iaload, 1) := by decide +kernel
theorem dX4_timely_43 : decode cX4_timely 43 = .ok (.aload_n 0, 1) := by decide +kernel
theorem dX4_timely_44 : decode cX4_timely 44 = .ok (.getfield 49, 3) := by decide +kernel
theorem dX4_timely_47 : decode cX4_timely 47 = .ok (.iload_n 1, 1) := by decide +kernel
theorem dX4_timely_48 : decode cX4_timely 48 = .ok (.iaload, 1) := by decide +kernel
theorem dX4_timely_49 : decode cX4_timely 49 = .ok (.isub, 1) := by decide +kernel
theorem dX4_timely_50 : decode cX4_timely 50 = .ok (.invokevirtual 90, 3) := by decide +kernel
theorem dX4_timely_53 : decode cX4_timely 53 = .ok (.i2l, 1) := by decide +kernel
theorem dX4_timely_54 : decode cX4_timely 54 = .ok (.lmul, 1) := by decide +kernel
theorem dX4_timely_55 : decode cX4_timely 55 = .ok (.ldc2_w 94, 3) := by decide +kernel
theorem dX4_timely_58 : decode cX4_timely 58 = .ok (.ldiv, 1) := by decide +kernel
theorem dX4_timely_59 : decode cX4_timely 59 = .ok (.lstore 5, 2) := by decide +kernel
theorem dX4_timely_61 : decode cX4_timely 61 = .ok (.lload 5, 2) := by decide +kernel
theorem dX4_timely_63 : decode cX4_timely 63 = .ok (.aload_n 0, 1) := by decide +kernel
theorem dX4_timely_64 : decode cX4_timely 64 = .ok (.aload_n 0, 1) := by decide +kernel
theorem dX4_timely_65 : decode cX4_timely 65 = .ok (.getfield 37, 3) := by decide +kernel
theorem dX4_timely_68 : decode cX4_timely 68 = .ok (.iload_n 1, 1) := by decide +kernel
theorem dX4_timely_69 : decode cX4_timely 69 = .ok (.iaload, 1) := by decide +kernel
theorem dX4_timely_70 : decode cX4_timely 70 = .ok (.aload_n 0, 1) := by decide +kernel
theorem dX4_timely_71 : decode cX4_timely 71 = .ok (.getfield 83, 3) := by decide +kernel
theorem dX4_timely_74 : decode cX4_timely 74 = .ok (.iload_n 3, 1) := by decide +kernel
theorem dX4_timely_75 : decode cX4_timely 75 = .ok (.isub, 1) := by decide +kernel
theorem dX4_timely_76 : decode cX4_timely 76 = .ok (.invokevirtual 90, 3) := by decide +kernel
theorem dX4_timely_79 : decode cX4_timely 79 = .ok (.invokestatic 97, 3) := by decide +kernel
theorem dX4_timely_82 : decode cX4_timely 82 = .ok (.lreturn, 1) := by decide +kernel
set_option maxRecDepth 20000 in
theorem ggX4_isTooMuch_X4_unitsFor : GoodIn wsX4_isTooMuch wsX4_unitsFor := goodIn_r _ [7, 8] (by decide +kernel) (by decide +kernel)
set_option maxRecDepth 20000 in
theorem gX4_isTooMuch_X4_unitsFor : GoodIn wsX4_isTooMuch (va_wsS RX4 97 yX4_unitsFor wsX4_unitsFor) := goodIn_app (goodIn_of _ (by decide +kernel)) ggX4_isTooMuch_X4_unitsFor
set_option maxRecDepth 20000 in
theorem ggX4_isTooMuch_X4_timely : GoodIn wsX4_isTooMuch wsX4_timely := goodIn_r _ [12, 13, 14, 15, 16, 17, 18, 8, 19, 20, 21, 22, 23, 6, 24, 25, 4, 5, 7, 26, 27, 28, 29, 30, 31, 32, 33, 34, 35, 36, 37, 38, 39, 40, 41, 42, 43, 44, 45, 46, 47, 48] (by decide +kernel) (by decide +kernel)
set_option maxRecDepth 20000 in
theorem gX4_isTooMuch_X4_timely : GoodIn wsX4_isTooMuch (wsV RX4 110 RX4 yX4_timely wsX4_timely) := goodIn_app (goodIn_of _ (by decide +kernel)) ggX4_isTooMuch_X4_timely
theorem dX4_isTooMuch_0 : decode cX4_isTooMuch 0 = .ok (.aload_n 0, 1) := by decide +kernel
theorem dX4_isTooMuch_1 : decode cX4_isTooMuch 1 = .ok (.getfield 40, 3) := by decide +kernel
theorem dX4_isTooMuch_4 : decode cX4_isTooMuch 4 = .ok (.iload_n 1, 1) := by decide +kernel
theorem dX4_isTooMuch_5 : decode cX4_isTooMuch 5 = .ok (.iaload, 1) := by decide +kernel
theorem dX4_isTooMuch_6 : decode cX4_isTooMuch 6 = .ok (.iconst 2, 1) := by decide +kernel
theorem dX4_isTooMuch_7 : decode cX4_isTooMuch 7 = .ok (.if_icmp .eq 5, 3) := by decide +kernel
theorem dX4_isTooMuch_10 : decode cX4_isTooMuch 10 = .ok (.iconst 0, 1) := by decide +kernel
theorem dX4_isTooMuch_11 : decode cX4_isTooMuch 11 = .ok (.ireturn, 1) := by decide +kernel
theorem dX4_isTooMuch_12 : decode cX4_isTooMuch 12 = .ok (.aload_n 0, 1) := by decide +kernel
theorem dX4_isTooMuch_13 : decode cX4_isTooMuch 13 = .ok (.getfield 58, 3) := by decide +kernel
theorem dX4_isTooMuch_16 : decode cX4_isTooMuch 16 = .ok (.iload_n 1, 1) := by decide +kernel
theorem dX4_isTooMuch_17 : decode cX4_isTooMuch 17 = .ok (.laload, 1) := by decide +kernel
theorem dX4_isTooMuch_18 : decode cX4_isTooMuch 18 = .ok (.iload_n 2, 1) := by decide +kernel
theorem dX4_isTooMuch_19 : decode cX4_isTooMuch 19 = .ok (.invokestatic 97, 3) := by decide +kernel
theorem dX4_isTooMuch_22 : decode cX4_isTooMuch 22 = .ok (.ldc2_w 104, 3) := by decide +kernel
theorem dX4_isTooMuch_25 : decode cX4_isTooMuch 25 = .ok (.lcmp, 1) := by decide +kernel
theorem dX4_isTooMuch_26 : decode cX4_isTooMuch 26 = .ok (.ifCond .gt 16, 3) := by decide +kernel
theorem dX4_isTooMuch_29 : decode cX4_isTooMuch 29 = .ok (.aload_n 0, 1) := by decide +kernel
theorem dX4_isTooMuch_30 : decode cX4_isTooMuch 30 = .ok (.iload_n 1, 1) := by decide +kernel
theorem dX4_isTooMuch_31 : decode cX4_isTooMuch 31 = .ok (.iload_n 3, 1) := by decide +kernel
theorem dX4_isTooMuch_32 : decode cX4_isTooMuch 32 = .ok (.invokevirtual 110, 3) := by decide +kernel
theorem dX4_isTooMuch_35 : decode cX4_isTooMuch 35 = .ok (.ldc2_w 104, 3) := by decide +kernel
theorem dX4_isTooMuch_38 : decode cX4_isTooMuch 38 = .ok (.lcmp, 1) := by decide +kernel
theorem dX4_isTooMuch_39 : decode cX4_isTooMuch 39 = .ok (.ifCond .le 7, 3) := by decide +kernel
theorem dX4_isTooMuch_42 : decode cX4_isTooMuch 42 = .ok (.iconst 1, 1) := by decide +kernel
theorem dX4_isTooMuch_43 : decode cX4_isTooMuch 43 = .ok (.goto 4, 3) := by decide +kernel
theorem dX4_isTooMuch_46 : decode cX4_isTooMuch 46 = .ok (.iconst 0, 1) := by decide +kernel
theorem dX4_isTooMuch_47 : decode cX4_isTooMuch 47 = .ok (.ireturn, 1) := by decide +kernel
set_option maxRecDepth 20000 in
theorem ggX4_buys_X4_unitsFor : GoodIn wsX4_buys wsX4_unitsFor := goodIn_r _ [17, 5] (by decide +kernel) (by decide +kernel)
set_option maxRecDepth 20000 in
theorem gX4_buys_X4_unitsFor : GoodIn wsX4_buys (va_wsS RX4 97 yX4_unitsFor wsX4_unitsFor) := goodIn_app (goodIn_of _ (by decide +kernel)) ggX4_buys_X4_unitsFor
set_option maxRecDepth 20000 in
theorem ggX4_buys_X4_timely : GoodIn wsX4_buys wsX4_timely := goodIn_r _ [21, 6, 9, 1, 22, 23, 7, 5, 3, 4, 24, 25, 26, 16, 27, 28, 14, 15, 17, 29, 30, 31, 32, 33, 34, 35, 36, 37, 38, 39, 40, 41, 42, 43, 44, 45, 46, 47, 48, 49, 50, 51] (by decide +kernel) (by decide +kernel)
set_option maxRecDepth 20000 in
theorem gX4_buys_X4_timely : GoodIn wsX4_buys (wsV RX4 110 RX4 yX4_timely wsX4_timely) := goodIn_app (goodIn_of _ (by decide +kernel)) ggX4_buys_X4_timely
set_option maxRecDepth 20000 in
theorem ggX4_buys_X4_priceOf : GoodIn wsX4_buys wsX4_priceOf := goodIn_r _ [27, 28, 29, 30, 31, 32, 33, 34, 35, 36, 37, 38, 39, 40, 41, 42, 43, 44, 45, 46, 47, 48, 49, 50, 51] (by decide +kernel) (by decide +kernel)
set_option maxRecDepth 20000 in
theorem gX4_buys_X4_priceOf : GoodIn wsX4_buys (wsV RX4 90 RX4 yX4_priceOf wsX4_priceOf) := goodIn_app (goodIn_of _ (by decide +kernel)) ggX4_buys_X4_priceOf
theorem dX4_buys_0 : decode cX4_buys 0 = .ok (.aload_n 0, 1) := by decide +kernel
theorem dX4_buys_1 : decode cX4_buys 1 = .ok (.getfield 34, 3) := by decide +kernel
theorem dX4_buys_4 : decode cX4_buys 4 = .ok (.iload_n 1, 1) := by decide +kernel
theorem dX4_buys_5 : decode cX4_buys 5 = .ok (.iaload, 1) := by decide +kernel
theorem dX4_buys_6 : decode cX4_buys 6 = .ok (.istore 4, 2) := by decide +kernel
theorem dX4_buys_8 : decode cX4_buys 8 = .ok (.aload_n 0, 1) := by decide +kernel
theorem dX4_buys_9 : decode cX4_buys 9 = .ok (.getfield 58, 3) := by decide +kernel
theorem dX4_buys_12 : decode cX4_buys 12 = .ok (.iload_n 1, 1) := by decide +kernel
theorem dX4_buys_13 : decode cX4_buys 13 = .ok (.laload, 1) := by decide +kernel
theorem dX4_buys_14 : decode cX4_buys 14 = .ok (.iload_n 2, 1) := by decide +kernel
theorem dX4_buys_15 : decode cX4_buys 15 = .ok (.invokestatic 97, 3) := by decide +kernel
theorem dX4_buys_18 : decode cX4_buys 18 = .ok (.lstore 5, 2) := by decide +kernel
theorem dX4_buys_20 : decode cX4_buys 20 = .ok (.aload_n 0, 1) := by decide +kernel
theorem dX4_buys_21 : decode cX4_buys 21 = .ok (.iload_n 1, 1) := by decide +kernel
theorem dX4_buys_22 : decode cX4_buys 22 = .ok (.iload_n 3, 1) := by decide +kernel
theorem dX4_buys_23 : decode cX4_buys 23 = .ok (.invokevirtual 110, 3) := by decide +kernel
theorem dX4_buys_26 : decode cX4_buys 26 = .ok (.lload 5, 2) := by decide +kernel
theorem dX4_buys_28 : decode cX4_buys 28 = .ok (.lsub, 1) := by decide +kernel
theorem dX4_buys_29 : decode cX4_buys 29 = .ok (.lstore 7, 2) := by decide +kernel
theorem dX4_buys_31 : decode cX4_buys 31 = .ok (.lload 7, 2) := by decide +kernel
theorem dX4_buys_33 : decode cX4_buys 33 = .ok (.lconst 0, 1) := by decide +kernel
theorem dX4_buys_34 : decode cX4_buys 34 = .ok (.lcmp, 1) := by decide +kernel
theorem dX4_buys_35 : decode cX4_buys 35 = .ok (.ifCond .le 8, 3) := by decide +kernel
theorem dX4_buys_38 : decode cX4_buys 38 = .ok (.lload 7, 2) := by decide +kernel
theorem dX4_buys_40 : decode cX4_buys 40 = .ok (.goto 4, 3) := by decide +kernel
theorem dX4_buys_43 : decode cX4_buys 43 = .ok (.lconst 0, 1) := by decide +kernel
theorem dX4_buys_44 : decode cX4_buys 44 = .ok (.lstore 7, 2) := by decide +kernel
theorem dX4_buys_46 : decode cX4_buys 46 = .ok (.lload 7, 2) := by decide +kernel
theorem dX4_buys_48 : decode cX4_buys 48 = .ok (.aload_n 0, 1) := by decide +kernel
theorem dX4_buys_49 : decode cX4_buys 49 = .ok (.aload_n 0, 1) := by decide +kernel
theorem dX4_buys_50 : decode cX4_buys 50 = .ok (.getfield 37, 3) := by decide +kernel
theorem dX4_buys_53 : decode cX4_buys 53 = .ok (.iload_n 1, 1) := by decide +kernel
theorem dX4_buys_54 : decode cX4_buys 54 = .ok (.iaload, 1) := by decide +kernel
theorem dX4_buys_55 : decode cX4_buys 55 = .ok (.aload_n 0, 1) := by decide +kernel
theorem dX4_buys_56 : decode cX4_buys 56 = .ok (.getfield 83, 3) := by decide +kernel
theorem dX4_buys_59 : decode cX4_buys 59 = .ok (.invokevirtual 90, 3) := by decide +kernel
theorem dX4_buys_62 : decode cX4_buys 62 = .ok (.i2l, 1) := by decide +kernel
theorem dX4_buys_63 : decode cX4_buys 63 = .ok (.lmul, 1) := by decide +kernel
theorem dX4_buys_64 : decode cX4_buys 64 = .ok (.ldc2_w 94, 3) := by decide +kernel
theorem dX4_buys_67 : decode cX4_buys 67 = .ok (.ladd, 1) := by decide +kernel
theorem dX4_buys_68 : decode cX4_buys 68 = .ok (.lconst 1, 1) := by decide +kernel
theorem dX4_buys_69 : decode cX4_buys 69 = .ok (.lsub, 1) := by decide +kernel
theorem dX4_buys_70 : decode cX4_buys 70 = .ok (.ldc2_w 94, 3) := by decide +kernel
theorem dX4_buys_73 : decode cX4_buys 73 = .ok (.ldiv, 1) := by decide +kernel
theorem dX4_buys_74 : decode cX4_buys 74 = .ok (.lstore 9, 2) := by decide +kernel
theorem dX4_buys_76 : decode cX4_buys 76 = .ok (.aload_n 0, 1) := by decide +kernel
theorem dX4_buys_77 : decode cX4_buys 77 = .ok (.getfield 52, 3) := by decide +kernel
theorem dX4_buys_80 : decode cX4_buys 80 = .ok (.iload_n 1, 1) := by decide +kernel
theorem dX4_buys_81 : decode cX4_buys 81 = .ok (.iaload, 1) := by decide +kernel
theorem dX4_buys_82 : decode cX4_buys 82 = .ok (.iload_n 3, 1) := by decide +kernel
theorem dX4_buys_83 : decode cX4_buys 83 = .ok (.iadd, 1) := by decide +kernel
theorem dX4_buys_84 : decode cX4_buys 84 = .ok (.istore 11, 2) := by decide +kernel
theorem dX4_buys_86 : decode cX4_buys 86 = .ok (.iload 11, 2) := by decide +kernel
theorem dX4_buys_88 : decode cX4_buys 88 = .ok (.ifCond .ne 7, 3) := by decide +kernel
theorem dX4_buys_91 : decode cX4_buys 91 = .ok (.lconst 0, 1) := by decide +kernel
theorem dX4_buys_92 : decode cX4_buys 92 = .ok (.goto 17, 3) := by decide +kernel
theorem dX4_buys_95 : decode cX4_buys 95 = .ok (.lload 9, 2) := by decide +kernel
theorem dX4_buys_97 : decode cX4_buys 97 = .ok (.aload_n 0, 1) := by decide +kernel
theorem dX4_buys_98 : decode cX4_buys 98 = .ok (.getfield 49, 3) := by decide +kernel
theorem dX4_buys_101 : decode cX4_buys 101 = .ok (.iload_n 1, 1) := by decide +kernel
theorem dX4_buys_102 : decode cX4_buys 102 = .ok (.iaload, 1) := by decide +kernel
theorem dX4_buys_103 : decode cX4_buys 103 = .ok (.i2l, 1) := by decide +kernel
theorem dX4_buys_104 : decode cX4_buys 104 = .ok (.lmul, 1) := by decide +kernel
theorem dX4_buys_105 : decode cX4_buys 105 = .ok (.iload 11, 2) := by decide +kernel
theorem dX4_buys_107 : decode cX4_buys 107 = .ok (.i2l, 1) := by decide +kernel
theorem dX4_buys_108 : decode cX4_buys 108 = .ok (.ldiv, 1) := by decide +kernel
theorem dX4_buys_109 : decode cX4_buys 109 = .ok (.lstore 12, 2) := by decide +kernel
theorem dX4_buys_111 : decode cX4_buys 111 = .ok (.aload_n 0, 1) := by decide +kernel
theorem dX4_buys_112 : decode cX4_buys 112 = .ok (.getfield 64, 3) := by decide +kernel
theorem dX4_buys_115 : decode cX4_buys 115 = .ok (.iconst 5, 1) := by decide +kernel
theorem dX4_buys_116 : decode cX4_buys 116 = .ok (.aload_n 0, 1) := by decide +kernel
theorem dX4_buys_117 : decode cX4_buys 117 = .ok (.getfield 23, 3) := by decide +kernel
theorem dX4_buys_120 : decode cX4_buys 120 = .ok (.iload 4, 2) := by decide +kernel
theorem dX4_buys_122 : decode cX4_buys 122 = .ok (.iaload, 1) := by decide +kernel
theorem dX4_buys_123 : decode cX4_buys 123 = .ok (.imul, 1) := by decide +kernel
theorem dX4_buys_124 : decode cX4_buys 124 = .ok (.aload_n 0, 1) := by decide +kernel
theorem dX4_buys_125 : decode cX4_buys 125 = .ok (.getfield 37, 3) := by decide +kernel
theorem dX4_buys_128 : decode cX4_buys 128 = .ok (.iload_n 1, 1) := by decide +kernel
theorem dX4_buys_129 : decode cX4_buys 129 = .ok (.iaload, 1) := by decide +kernel
theorem dX4_buys_130 : decode cX4_buys 130 = .ok (.iadd, 1) := by decide +kernel
theorem dX4_buys_131 : decode cX4_buys 131 = .ok (.dup2, 1) := by decide +kernel
theorem dX4_buys_132 : decode cX4_buys 132 = .ok (.laload, 1) := by decide +kernel
theorem dX4_buys_133 : decode cX4_buys 133 = .ok (.lload 12, 2) := by decide +kernel
theorem dX4_buys_135 : decode cX4_buys 135 = .ok (.ladd, 1) := by decide +kernel
theorem dX4_buys_136 : decode cX4_buys 136 = .ok (.lastore, 1) := by decide +kernel
theorem dX4_buys_137 : decode cX4_buys 137 = .ok (.aload_n 0, 1) := by decide +kernel
theorem dX4_buys_138 : decode cX4_buys 138 = .ok (.getfield 67, 3) := by decide +kernel
theorem dX4_buys_141 : decode cX4_buys 141 = .ok (.aload_n 0, 1) := by decide +kernel
theorem dX4_buys_142 : decode cX4_buys 142 = .ok (.getfield 37, 3) := by decide +kernel
theorem dX4_buys_145 : decode cX4_buys 145 = .ok (.iload_n 1, 1) := by decide +kernel
theorem dX4_buys_146 : decode cX4_buys 146 = .ok (.iaload, 1) := by decide +kernel
theorem dX4_buys_147 : decode cX4_buys 147 = .ok (.dup2, 1) := by decide +kernel
theorem dX4_buys_148 : decode cX4_buys 148 = .ok (.laload, 1) := by decide +kernel
theorem dX4_buys_149 : decode cX4_buys 149 = .ok (.lload 9, 2) := by decide +kernel
theorem dX4_buys_151 : decode cX4_buys 151 = .ok (.lload 12, 2) := by decide +kernel
theorem dX4_buys_153 : decode cX4_buys 153 = .ok (.lsub, 1) := by decide +kernel
theorem dX4_buys_154 : decode cX4_buys 154 = .ok (.ladd, 1) := by decide +kernel
theorem dX4_buys_155 : decode cX4_buys 155 = .ok (.lastore, 1) := by decide +kernel
theorem dX4_buys_156 : decode cX4_buys 156 = .ok (.aload_n 0, 1) := by decide +kernel
theorem dX4_buys_157 : decode cX4_buys 157 = .ok (.getfield 61, 3) := by decide +kernel
theorem dX4_buys_160 : decode cX4_buys 160 = .ok (.iload_n 1, 1) := by decide +kernel
theorem dX4_buys_161 : decode cX4_buys 161 = .ok (.lload 7, 2) := by decide +kernel
theorem dX4_buys_163 : decode cX4_buys 163 = .ok (.lastore, 1) := by decide +kernel
theorem dX4_buys_164 : decode cX4_buys 164 = .ok (.aload_n 0, 1) := by decide +kernel
theorem dX4_buys_165 : decode cX4_buys 165 = .ok (.getfield 26, 3) := by decide +kernel
theorem dX4_buys_168 : decode cX4_buys 168 = .ok (.iload 4, 2) := by decide +kernel
theorem dX4_buys_170 : decode cX4_buys 170 = .ok (.lload 5, 2) := by decide +kernel
theorem dX4_buys_172 : decode cX4_buys 172 = .ok (.lload 7, 2) := by decide +kernel
theorem dX4_buys_174 : decode cX4_buys 174 = .ok (.ladd, 1) := by decide +kernel
theorem dX4_buys_175 : decode cX4_buys 175 = .ok (.lastore, 1) := by decide +kernel
theorem dX4_buys_176 : decode cX4_buys 176 = .ok (.aload_n 0, 1) := by decide +kernel
theorem dX4_buys_177 : decode cX4_buys 177 = .ok (.getfield 23, 3) := by decide +kernel
theorem dX4_buys_180 : decode cX4_buys 180 = .ok (.iload 4, 2) := by decide +kernel
theorem dX4_buys_182 : decode cX4_buys 182 = .ok (.aload_n 0, 1) := by decide +kernel
theorem dX4_buys_183 : decode cX4_buys 183 = .ok (.getfield 37, 3) := by decide +kernel
theorem dX4_buys_186 : decode cX4_buys 186 = .ok (.iload_n 1, 1) := by decide +kernel
theorem dX4_buys_187 : decode cX4_buys 187 = .ok (.iaload, 1) := by decide +kernel
theorem dX4_buys_188 : decode cX4_buys 188 = .ok (.iastore, 1) := by decide +kernel
theorem dX4_buys_189 : decode cX4_buys 189 = .ok (.aload_n 0, 1) := by decide +kernel
theorem dX4_buys_190 : decode cX4_buys 190 = .ok (.getfield 30, 3) := by decide +kernel
theorem dX4_buys_193 : decode cX4_buys 193 = .ok (.iload 4, 2) := by decide +kernel
theorem dX4_buys_195 : decode cX4_buys 195 = .ok (.iconst 0, 1) := by decide +kernel
theorem dX4_buys_196 : decode cX4_buys 196 = .ok (.bastore, 1) := by decide +kernel
theorem dX4_buys_197 : decode cX4_buys 197 = .ok (.return_, 1) := by decide +kernel
set_option maxRecDepth 20000 in
theorem ggX4_does_X4_lateBy : GoodIn wsX4_does wsX4_lateBy := goodIn_r _ [19, 5, 20, 21, 22, 18, 23, 14, 2, 44, 45, 46, 47, 48, 49, 50, 51, 52, 53, 54, 55, 56, 57, 58, 59, 60, 61, 62, 63, 64, 65, 66] (by decide +kernel) (by decide +kernel)
set_option maxRecDepth 20000 in
theorem gX4_does_X4_lateBy : GoodIn wsX4_does (wsV RX4 114 RX4 yX4_lateBy wsX4_lateBy) := goodIn_app (goodIn_of _ (by decide +kernel)) ggX4_does_X4_lateBy
set_option maxRecDepth 20000 in
theorem ggX4_does_X4_priceOf : GoodIn wsX4_does wsX4_priceOf := goodIn_r _ [27, 28, 44, 45, 46, 47, 48, 49, 50, 51, 52, 53, 54, 55, 56, 57, 58, 59, 60, 61, 62, 63, 64, 65, 66] (by decide +kernel) (by decide +kernel)
set_option maxRecDepth 20000 in
theorem gX4_does_X4_priceOf : GoodIn wsX4_does (wsV RX4 90 RX4 yX4_priceOf wsX4_priceOf) := goodIn_app (goodIn_of _ (by decide +kernel)) ggX4_does_X4_priceOf
set_option maxRecDepth 20000 in
theorem ggX4_does_X4_buys : GoodIn wsX4_does wsX4_buys := goodIn_r _ [32, 1, 8, 11, 5, 9, 13, 12, 33, 4, 34, 35, 7, 36, 37, 38, 18, 39, 40, 41, 42, 43, 6, 10, 24, 25, 26, 27, 28, 44, 45, 46, 47, 48, 49, 50, 51, 52, 53, 54, 55, 56, 57, 58, 59, 60, 61, 62, 63, 64, 65, 66] (by decide +kernel) (by decide +kernel)
set_option maxRecDepth 20000 in
theorem gX4_does_X4_buys : GoodIn wsX4_does (wsV RX4 117 RX4 yX4_buys wsX4_buys) := goodIn_app (goodIn_of _ (by decide +kernel)) ggX4_does_X4_buys
theorem dX4_does_0 : decode cX4_does 0 = .ok (.aload_n 0, 1) := by decide +kernel
theorem dX4_does_1 : decode cX4_does 1 = .ok (.getfield 34, 3) := by decide +kernel
theorem dX4_does_4 : decode cX4_does 4 = .ok (.iload_n 1, 1) := by decide +kernel
theorem dX4_does_5 : decode cX4_does 5 = .ok (.iaload, 1) := by decide +kernel
theorem dX4_does_6 : decode cX4_does 6 = .ok (.istore_n 3, 1) := by decide +kernel
theorem dX4_does_7 : decode cX4_does 7 = .ok (.aload_n 0, 1) := by decide +kernel
theorem dX4_does_8 : decode cX4_does 8 = .ok (.iload_n 1, 1) := by decide +kernel
theorem dX4_does_9 : decode cX4_does 9 = .ok (.invokevirtual 114, 3) := by decide +kernel
theorem dX4_does_12 : decode cX4_does 12 = .ok (.istore 4, 2) := by decide +kernel
theorem dX4_does_14 : decode cX4_does 14 = .ok (.aload_n 0, 1) := by decide +kernel
theorem dX4_does_15 : decode cX4_does 15 = .ok (.getfield 40, 3) := by decide +kernel
theorem dX4_does_18 : decode cX4_does 18 = .ok (.iload_n 1, 1) := by decide +kernel
theorem dX4_does_19 : decode cX4_does 19 = .ok (.iaload, 1) := by decide +kernel
theorem dX4_does_20 : decode cX4_does 20 = .ok (.iconst 1, 1) := by decide +kernel
theorem dX4_does_21 : decode cX4_does 21 = .ok (.if_icmp .ne 82, 3) := by decide +kernel
theorem dX4_does_24 : decode cX4_does 24 = .ok (.iload_n 2, 1) := by decide +kernel
theorem dX4_does_25 : decode cX4_does 25 = .ok (.ifCond .eq 10, 3) := by decide +kernel
theorem dX4_does_28 : decode cX4_does 28 = .ok (.aload_n 0, 1) := by decide +kernel
theorem dX4_does_29 : decode cX4_does 29 = .ok (.getfield 19, 3) := by decide +kernel
theorem dX4_does_32 : decode cX4_does 32 = .ok (.goto 17, 3) := by decide +kernel
theorem dX4_does_35 : decode cX4_does 35 = .ok (.aload_n 0, 1) := by decide +kernel
theorem dX4_does_36 : decode cX4_does 36 = .ok (.aload_n 0, 1) := by decide +kernel
theorem dX4_does_37 : decode cX4_does 37 = .ok (.getfield 23, 3) := by decide +kernel
theorem dX4_does_40 : decode cX4_does 40 = .ok (.iload_n 3, 1) := by decide +kernel
theorem dX4_does_41 : decode cX4_does 41 = .ok (.iaload, 1) := by decide +kernel
theorem dX4_does_42 : decode cX4_does 42 = .ok (.aload_n 0, 1) := by decide +kernel
theorem dX4_does_43 : decode cX4_does 43 = .ok (.getfield 83, 3) := by decide +kernel
theorem dX4_does_46 : decode cX4_does 46 = .ok (.invokevirtual 90, 3) := by decide +kernel
theorem dX4_does_49 : decode cX4_does 49 = .ok (.istore 5, 2) := by decide +kernel
theorem dX4_does_51 : decode cX4_does 51 = .ok (.aload_n 0, 1) := by decide +kernel
theorem dX4_does_52 : decode cX4_does 52 = .ok (.getfield 55, 3) := by decide +kernel
theorem dX4_does_55 : decode cX4_does 55 = .ok (.iload_n 1, 1) := by decide +kernel
theorem dX4_does_56 : decode cX4_does 56 = .ok (.aload_n 0, 1) := by decide +kernel
theorem dX4_does_57 : decode cX4_does 57 = .ok (.getfield 26, 3) := by decide +kernel
theorem dX4_does_60 : decode cX4_does 60 = .ok (.iload_n 3, 1) := by decide +kernel
theorem dX4_does_61 : decode cX4_does 61 = .ok (.laload, 1) := by decide +kernel
theorem dX4_does_62 : decode cX4_does 62 = .ok (.lastore, 1) := by decide +kernel
theorem dX4_does_63 : decode cX4_does 63 = .ok (.aload_n 0, 1) := by decide +kernel
theorem dX4_does_64 : decode cX4_does 64 = .ok (.getfield 58, 3) := by decide +kernel
theorem dX4_does_67 : decode cX4_does 67 = .ok (.iload_n 1, 1) := by decide +kernel
theorem dX4_does_68 : decode cX4_does 68 = .ok (.aload_n 0, 1) := by decide +kernel
theorem dX4_does_69 : decode cX4_does 69 = .ok (.getfield 26, 3) := by decide +kernel
theorem dX4_does_72 : decode cX4_does 72 = .ok (.iload_n 3, 1) := by decide +kernel
theorem dX4_does_73 : decode cX4_does 73 = .ok (.laload, 1) := by decide +kernel
theorem dX4_does_74 : decode cX4_does 74 = .ok (.iload 5, 2) := by decide +kernel
theorem dX4_does_76 : decode cX4_does 76 = .ok (.i2l, 1) := by decide +kernel
theorem dX4_does_77 : decode cX4_does 77 = .ok (.lmul, 1) := by decide +kernel
theorem dX4_does_78 : decode cX4_does 78 = .ok (.ldc2_w 94, 3) := by decide +kernel
theorem dX4_does_81 : decode cX4_does 81 = .ok (.ldiv, 1) := by decide +kernel
theorem dX4_does_82 : decode cX4_does 82 = .ok (.lastore, 1) := by decide +kernel
theorem dX4_does_83 : decode cX4_does 83 = .ok (.aload_n 0, 1) := by decide +kernel
theorem dX4_does_84 : decode cX4_does 84 = .ok (.getfield 26, 3) := by decide +kernel
theorem dX4_does_87 : decode cX4_does 87 = .ok (.iload_n 3, 1) := by decide +kernel
theorem dX4_does_88 : decode cX4_does 88 = .ok (.lconst 0, 1) := by decide +kernel
theorem dX4_does_89 : decode cX4_does 89 = .ok (.lastore, 1) := by decide +kernel
theorem dX4_does_90 : decode cX4_does 90 = .ok (.aload_n 0, 1) := by decide +kernel
theorem dX4_does_91 : decode cX4_does 91 = .ok (.getfield 46, 3) := by decide +kernel
theorem dX4_does_94 : decode cX4_does 94 = .ok (.iload_n 1, 1) := by decide +kernel
theorem dX4_does_95 : decode cX4_does 95 = .ok (.aload_n 0, 1) := by decide +kernel
theorem dX4_does_96 : decode cX4_does 96 = .ok (.getfield 83, 3) := by decide +kernel
theorem dX4_does_99 : decode cX4_does 99 = .ok (.iastore, 1) := by decide +kernel
theorem dX4_does_100 : decode cX4_does 100 = .ok (.goto 45, 3) := by decide +kernel
theorem dX4_does_103 : decode cX4_does 103 = .ok (.aload_n 0, 1) := by decide +kernel
theorem dX4_does_104 : decode cX4_does 104 = .ok (.getfield 40, 3) := by decide +kernel
theorem dX4_does_107 : decode cX4_does 107 = .ok (.iload_n 1, 1) := by decide +kernel
theorem dX4_does_108 : decode cX4_does 108 = .ok (.iaload, 1) := by decide +kernel
theorem dX4_does_109 : decode cX4_does 109 = .ok (.iconst 2, 1) := by decide +kernel
theorem dX4_does_110 : decode cX4_does 110 = .ok (.if_icmp .ne 35, 3) := by decide +kernel
theorem dX4_does_113 : decode cX4_does 113 = .ok (.aload_n 0, 1) := by decide +kernel
theorem dX4_does_114 : decode cX4_does 114 = .ok (.iload_n 1, 1) := by decide +kernel
theorem dX4_does_115 : decode cX4_does 115 = .ok (.iload_n 2, 1) := by decide +kernel
theorem dX4_does_116 : decode cX4_does 116 = .ok (.ifCond .eq 10, 3) := by decide +kernel
theorem dX4_does_119 : decode cX4_does 119 = .ok (.aload_n 0, 1) := by decide +kernel
theorem dX4_does_120 : decode cX4_does 120 = .ok (.getfield 19, 3) := by decide +kernel
theorem dX4_does_123 : decode cX4_does 123 = .ok (.goto 17, 3) := by decide +kernel
theorem dX4_does_126 : decode cX4_does 126 = .ok (.aload_n 0, 1) := by decide +kernel
theorem dX4_does_127 : decode cX4_does 127 = .ok (.aload_n 0, 1) := by decide +kernel
theorem dX4_does_128 : decode cX4_does 128 = .ok (.getfield 37, 3) := by decide +kernel
theorem dX4_does_131 : decode cX4_does 131 = .ok (.iload_n 1, 1) := by decide +kernel
theorem dX4_does_132 : decode cX4_does 132 = .ok (.iaload, 1) := by decide +kernel
theorem dX4_does_133 : decode cX4_does 133 = .ok (.aload_n 0, 1) := by decide +kernel
theorem dX4_does_134 : decode cX4_does 134 = .ok (.getfield 83, 3) := by decide +kernel
theorem dX4_does_137 : decode cX4_does 137 = .ok (.invokevirtual 90, 3) := by decide +kernel
theorem dX4_does_140 : decode cX4_does 140 = .ok (.iload 4, 2) := by decide +kernel
theorem dX4_does_142 : decode cX4_does 142 = .ok (.invokevirtual 117, 3) := by decide +kernel
theorem dX4_does_145 : decode cX4_does 145 = .ok (.aload_n 0, 1) := by decide +kernel
theorem dX4_does_146 : decode cX4_does 146 = .ok (.getfield 49, 3) := by decide +kernel
theorem dX4_does_149 : decode cX4_does 149 = .ok (.iload_n 1, 1) := by decide +kernel
theorem dX4_does_150 : decode cX4_does 150 = .ok (.dup2, 1) := by decide +kernel
theorem dX4_does_151 : decode cX4_does 151 = .ok (.iaload, 1) := by decide +kernel
theorem dX4_does_152 : decode cX4_does 152 = .ok (.aload_n 0, 1) := by decide +kernel
theorem dX4_does_153 : decode cX4_does 153 = .ok (.getfield 40, 3) := by decide +kernel
theorem dX4_does_156 : decode cX4_does 156 = .ok (.iload_n 1, 1) := by decide +kernel
theorem dX4_does_157 : decode cX4_does 157 = .ok (.iaload, 1) := by decide +kernel
theorem dX4_does_158 : decode cX4_does 158 = .ok (.iconst 2, 1) := by decide +kernel
theorem dX4_does_159 : decode cX4_does 159 = .ok (.if_icmp .ne 7, 3) := by decide +kernel
theorem dX4_does_162 : decode cX4_does 162 = .ok (.iconst 0, 1) := by decide +kernel
theorem dX4_does_163 : decode cX4_does 163 = .ok (.goto 5, 3) := by decide +kernel
theorem dX4_does_166 : decode cX4_does 166 = .ok (.iload 4, 2) := by decide +kernel
theorem dX4_does_168 : decode cX4_does 168 = .ok (.iadd, 1) := by decide +kernel
theorem dX4_does_169 : decode cX4_does 169 = .ok (.iastore, 1) := by decide +kernel
theorem dX4_does_170 : decode cX4_does 170 = .ok (.aload_n 0, 1) := by decide +kernel
theorem dX4_does_171 : decode cX4_does 171 = .ok (.getfield 52, 3) := by decide +kernel
theorem dX4_does_174 : decode cX4_does 174 = .ok (.iload_n 1, 1) := by decide +kernel
theorem dX4_does_175 : decode cX4_does 175 = .ok (.dup2, 1) := by decide +kernel
theorem dX4_does_176 : decode cX4_does 176 = .ok (.iaload, 1) := by decide +kernel
theorem dX4_does_177 : decode cX4_does 177 = .ok (.iload 4, 2) := by decide +kernel
theorem dX4_does_179 : decode cX4_does 179 = .ok (.iadd, 1) := by decide +kernel
theorem dX4_does_180 : decode cX4_does 180 = .ok (.iastore, 1) := by decide +kernel
theorem dX4_does_181 : decode cX4_does 181 = .ok (.aload_n 0, 1) := by decide +kernel
theorem dX4_does_182 : decode cX4_does 182 = .ok (.getfield 43, 3) := by decide +kernel
theorem dX4_does_185 : decode cX4_does 185 = .ok (.iload_n 1, 1) := by decide +kernel
theorem dX4_does_186 : decode cX4_does 186 = .ok (.aload_n 0, 1) := by decide +kernel
theorem dX4_does_187 : decode cX4_does 187 = .ok (.getfield 83, 3) := by decide +kernel
theorem dX4_does_190 : decode cX4_does 190 = .ok (.iastore, 1) := by decide +kernel
theorem dX4_does_191 : decode cX4_does 191 = .ok (.aload_n 0, 1) := by decide +kernel
theorem dX4_does_192 : decode cX4_does 192 = .ok (.getfield 40, 3) := by decide +kernel
theorem dX4_does_195 : decode cX4_does 195 = .ok (.iload_n 1, 1) := by decide +kernel
theorem dX4_does_196 : decode cX4_does 196 = .ok (.dup2, 1) := by decide +kernel
theorem dX4_does_197 : decode cX4_does 197 = .ok (.iaload, 1) := by decide +kernel
theorem dX4_does_198 : decode cX4_does 198 = .ok (.iconst 1, 1) := by decide +kernel
theorem dX4_does_199 : decode cX4_does 199 = .ok (.iadd, 1) := by decide +kernel
theorem dX4_does_200 : decode cX4_does 200 = .ok (.iastore, 1) := by decide +kernel
theorem dX4_does_201 : decode cX4_does 201 = .ok (.iload 4, 2) := by decide +kernel
theorem dX4_does_203 : decode cX4_does 203 = .ok (.ireturn, 1) := by decide +kernel
set_option maxRecDepth 20000 in
theorem ggX4_step_X4_isOrder : GoodIn wsX4_step wsX4_isOrder := goodIn_r _ [9, 10, 11, 12, 8, 13, 62, 63, 64, 65, 66, 67, 68, 69, 70, 71, 72, 73, 74, 75, 76, 77, 78, 79, 80, 81, 82, 83, 84] (by decide +kernel) (by decide +kernel)
set_option maxRecDepth 20000 in
theorem gX4_step_X4_isOrder : GoodIn wsX4_step (wsV RX4 121 RX4 yX4_isOrder wsX4_isOrder) := goodIn_app (goodIn_of _ (by decide +kernel)) ggX4_step_X4_isOrder
set_option maxRecDepth 20000 in
theorem ggX4_step_X4_priceOf : GoodIn wsX4_step wsX4_priceOf := goodIn_r _ [17, 18, 62, 63, 64, 65, 66, 67, 68, 69, 70, 71, 72, 73, 74, 75, 76, 77, 78, 79, 80, 81, 82, 83, 84] (by decide +kernel) (by decide +kernel)
set_option maxRecDepth 20000 in
theorem gX4_step_X4_priceOf : GoodIn wsX4_step (wsV RX4 90 RX4 yX4_priceOf wsX4_priceOf) := goodIn_app (goodIn_of _ (by decide +kernel)) ggX4_step_X4_priceOf
set_option maxRecDepth 20000 in
theorem ggX4_step_X4_lateBy : GoodIn wsX4_step wsX4_lateBy := goodIn_r _ [22, 4, 23, 24, 25, 8, 26, 27, 2, 62, 63, 64, 65, 66, 67, 68, 69, 70, 71, 72, 73, 74, 75, 76, 77, 78, 79, 80, 81, 82, 83, 84] (by decide +kernel) (by decide +kernel)
set_option maxRecDepth 20000 in
theorem gX4_step_X4_lateBy : GoodIn wsX4_step (wsV RX4 114 RX4 yX4_lateBy wsX4_lateBy) := goodIn_app (goodIn_of _ (by decide +kernel)) ggX4_step_X4_lateBy
set_option maxRecDepth 20000 in
theorem ggX4_step_X4_isTooMuch : GoodIn wsX4_step wsX4_isTooMuch := goodIn_r _ [31, 2, 32, 33, 34, 35, 8, 36, 37, 38, 39, 40, 41, 42, 43, 44, 45, 46, 47, 3, 4, 14, 15, 16, 17, 18, 62, 63, 64, 65, 66, 67, 68, 69, 70, 71, 72, 73, 74, 75, 76, 77, 78, 79, 80, 81, 82, 83, 84] (by decide +kernel) (by decide +kernel)
set_option maxRecDepth 20000 in
theorem gX4_step_X4_isTooMuch : GoodIn wsX4_step (wsV RX4 124 RX4 yX4_isTooMuch wsX4_isTooMuch) := goodIn_app (goodIn_of _ (by decide +kernel)) ggX4_step_X4_isTooMuch
set_option maxRecDepth 20000 in
theorem ggX4_step_X4_does : GoodIn wsX4_step wsX4_does := goodIn_r _ [51, 44, 2, 52, 43, 4, 45, 53, 32, 37, 46, 3, 47, 42, 27, 19, 20, 21, 8, 22, 23, 24, 25, 26, 14, 15, 16, 17, 18, 54, 55, 56, 57, 58, 59, 60, 61, 34, 35, 36, 38, 39, 40, 41, 62, 63, 64, 65, 66, 67, 68, 69, 70, 71, 72, 73, 74, 75, 76, 77, 78, 79, 80, 81, 82, 83, 84] (by decide +kernel) (by decide +kernel)
set_option maxRecDepth 20000 in
theorem gX4_step_X4_does : GoodIn wsX4_step (wsV RX4 127 RX4 yX4_does wsX4_does) := goodIn_app (goodIn_of _ (by decide +kernel)) ggX4_step_X4_does
theorem dX4_step_0 : decode cX4_step 0 = .ok (.aload_n 0, 1) := by decide +kernel
theorem dX4_step_1 : decode cX4_step 1 = .ok (.aload_n 0, 1) := by decide +kernel
theorem dX4_step_2 : decode cX4_step 2 = .ok (.iload_n 1, 1) := by decide +kernel
theorem dX4_step_3 : decode cX4_step 3 = .ok (.invokevirtual 121, 3) := by decide +kernel
theorem dX4_step_6 : decode cX4_step 6 = .ok (.ifCond .eq 7, 3) := by decide +kernel
theorem dX4_step_9 : decode cX4_step 9 = .ok (.iconst 0, 1) := by decide +kernel
theorem dX4_step_10 : decode cX4_step 10 = .ok (.goto 4, 3) := by decide +kernel
theorem dX4_step_13 : decode cX4_step 13 = .ok (.iconst 1, 1) := by decide +kernel
theorem dX4_step_14 : decode cX4_step 14 = .ok (.putfield 70, 3) := by decide +kernel
theorem dX4_step_17 : decode cX4_step 17 = .ok (.aload_n 0, 1) := by decide +kernel
theorem dX4_step_18 : decode cX4_step 18 = .ok (.getfield 70, 3) := by decide +kernel
theorem dX4_step_21 : decode cX4_step 21 = .ok (.ifCond .le 5, 3) := by decide +kernel
theorem dX4_step_24 : decode cX4_step 24 = .ok (.iconst 0, 1) := by decide +kernel
theorem dX4_step_25 : decode cX4_step 25 = .ok (.ireturn, 1) := by decide +kernel
theorem dX4_step_26 : decode cX4_step 26 = .ok (.aload_n 0, 1) := by decide +kernel
theorem dX4_step_27 : decode cX4_step 27 = .ok (.aload_n 0, 1) := by decide +kernel
theorem dX4_step_28 : decode cX4_step 28 = .ok (.getfield 40, 3) := by decide +kernel
theorem dX4_step_31 : decode cX4_step 31 = .ok (.iload_n 1, 1) := by decide +kernel
theorem dX4_step_32 : decode cX4_step 32 = .ok (.iaload, 1) := by decide +kernel
theorem dX4_step_33 : decode cX4_step 33 = .ok (.iconst 3, 1) := by decide +kernel
theorem dX4_step_34 : decode cX4_step 34 = .ok (.if_icmp .eq 30, 3) := by decide +kernel
theorem dX4_step_37 : decode cX4_step 37 = .ok (.aload_n 0, 1) := by decide +kernel
theorem dX4_step_38 : decode cX4_step 38 = .ok (.iload_n 1, 1) := by decide +kernel
theorem dX4_step_39 : decode cX4_step 39 = .ok (.aload_n 0, 1) := by decide +kernel
theorem dX4_step_40 : decode cX4_step 40 = .ok (.aload_n 0, 1) := by decide +kernel
theorem dX4_step_41 : decode cX4_step 41 = .ok (.getfield 37, 3) := by decide +kernel
theorem dX4_step_44 : decode cX4_step 44 = .ok (.iload_n 1, 1) := by decide +kernel
theorem dX4_step_45 : decode cX4_step 45 = .ok (.iaload, 1) := by decide +kernel
theorem dX4_step_46 : decode cX4_step 46 = .ok (.aload_n 0, 1) := by decide +kernel
theorem dX4_step_47 : decode cX4_step 47 = .ok (.getfield 83, 3) := by decide +kernel
theorem dX4_step_50 : decode cX4_step 50 = .ok (.invokevirtual 90, 3) := by decide +kernel
theorem dX4_step_53 : decode cX4_step 53 = .ok (.aload_n 0, 1) := by decide +kernel
theorem dX4_step_54 : decode cX4_step 54 = .ok (.iload_n 1, 1) := by decide +kernel
theorem dX4_step_55 : decode cX4_step 55 = .ok (.invokevirtual 114, 3) := by decide +kernel
theorem dX4_step_58 : decode cX4_step 58 = .ok (.invokevirtual 124, 3) := by decide +kernel
theorem dX4_step_61 : decode cX4_step 61 = .ok (.ifCond .eq 7, 3) := by decide +kernel
theorem dX4_step_64 : decode cX4_step 64 = .ok (.iconst 2, 1) := by decide +kernel
theorem dX4_step_65 : decode cX4_step 65 = .ok (.goto 4, 3) := by decide +kernel
theorem dX4_step_68 : decode cX4_step 68 = .ok (.iconst 0, 1) := by decide +kernel
theorem dX4_step_69 : decode cX4_step 69 = .ok (.putfield 70, 3) := by decide +kernel
theorem dX4_step_72 : decode cX4_step 72 = .ok (.aload_n 0, 1) := by decide +kernel
theorem dX4_step_73 : decode cX4_step 73 = .ok (.getfield 70, 3) := by decide +kernel
theorem dX4_step_76 : decode cX4_step 76 = .ok (.ifCond .le 7, 3) := by decide +kernel
theorem dX4_step_79 : decode cX4_step 79 = .ok (.iconst 0, 1) := by decide +kernel
theorem dX4_step_80 : decode cX4_step 80 = .ok (.goto 9, 3) := by decide +kernel
theorem dX4_step_83 : decode cX4_step 83 = .ok (.aload_n 0, 1) := by decide +kernel
theorem dX4_step_84 : decode cX4_step 84 = .ok (.iload_n 1, 1) := by decide +kernel
theorem dX4_step_85 : decode cX4_step 85 = .ok (.iconst 0, 1) := by decide +kernel
theorem dX4_step_86 : decode cX4_step 86 = .ok (.invokevirtual 127, 3) := by decide +kernel
theorem dX4_step_89 : decode cX4_step 89 = .ok (.ireturn, 1) := by decide +kernel
set_option maxRecDepth 20000 in
theorem ggX4_force_X4_isOrder : GoodIn wsX4_force wsX4_isOrder := goodIn_r _ [8, 9, 10, 11, 7, 12, 62, 63, 64, 65, 66, 67, 68, 69, 70, 71, 72, 73, 74, 75, 76, 77, 78, 79, 80, 81, 82, 83, 84] (by decide +kernel) (by decide +kernel)
set_option maxRecDepth 20000 in
theorem gX4_force_X4_isOrder : GoodIn wsX4_force (wsV RX4 121 RX4 yX4_isOrder wsX4_isOrder) := goodIn_app (goodIn_of _ (by decide +kernel)) ggX4_force_X4_isOrder
set_option maxRecDepth 20000 in
theorem ggX4_force_X4_lateBy : GoodIn wsX4_force wsX4_lateBy := goodIn_r _ [16, 17, 18, 19, 20, 7, 21, 22, 2, 62, 63, 64, 65, 66, 67, 68, 69, 70, 71, 72, 73, 74, 75, 76, 77, 78, 79, 80, 81, 82, 83, 84] (by decide +kernel) (by decide +kernel)
set_option maxRecDepth 20000 in
theorem gX4_force_X4_lateBy : GoodIn wsX4_force (wsV RX4 114 RX4 yX4_lateBy wsX4_lateBy) := goodIn_app (goodIn_of _ (by decide +kernel)) ggX4_force_X4_lateBy
set_option maxRecDepth 20000 in
theorem ggX4_force_X4_isTooMuch : GoodIn wsX4_force wsX4_isTooMuch := goodIn_r _ [26, 2, 27, 28, 29, 30, 7, 31, 32, 33, 34, 35, 36, 37, 38, 39, 40, 41, 42, 43, 17, 44, 45, 46, 47, 48, 62, 63, 64, 65, 66, 67, 68, 69, 70, 71, 72, 73, 74, 75, 76, 77, 78, 79, 80, 81, 82, 83, 84] (by decide +kernel) (by decide +kernel)
set_option maxRecDepth 20000 in
theorem gX4_force_X4_isTooMuch : GoodIn wsX4_force (wsV RX4 124 RX4 yX4_isTooMuch wsX4_isTooMuch) := goodIn_app (goodIn_of _ (by decide +kernel)) ggX4_force_X4_isTooMuch
set_option maxRecDepth 20000 in
theorem ggX4_force_X4_does : GoodIn wsX4_force wsX4_does := goodIn_r _ [52, 39, 2, 3, 38, 17, 40, 53, 27, 32, 41, 43, 42, 37, 22, 13, 14, 15, 7, 16, 18, 19, 20, 21, 44, 45, 46, 47, 48, 54, 55, 56, 57, 58, 59, 60, 61, 29, 30, 31, 33, 34, 35, 36, 62, 63, 64, 65, 66, 67, 68, 69, 70, 71, 72, 73, 74, 75, 76, 77, 78, 79, 80, 81, 82, 83, 84] (by decide +kernel) (by decide +kernel)
set_option maxRecDepth 20000 in
theorem gX4_force_X4_does : GoodIn wsX4_force (wsV RX4 127 RX4 yX4_does wsX4_does) := goodIn_app (goodIn_of _ (by decide +kernel)) ggX4_force_X4_does
theorem dX4_force_0 : decode cX4_force 0 = .ok (.aload_n 0, 1) := by decide +kernel
theorem dX4_force_1 : decode cX4_force 1 = .ok (.aload_n 0, 1) := by decide +kernel
theorem dX4_force_2 : decode cX4_force 2 = .ok (.iload_n 1, 1) := by decide +kernel
theorem dX4_force_3 : decode cX4_force 3 = .ok (.invokevirtual 121, 3) := by decide +kernel
theorem dX4_force_6 : decode cX4_force 6 = .ok (.ifCond .eq 7, 3) := by decide +kernel
theorem dX4_force_9 : decode cX4_force 9 = .ok (.iconst 0, 1) := by decide +kernel
theorem dX4_force_10 : decode cX4_force 10 = .ok (.goto 4, 3) := by decide +kernel
theorem dX4_force_13 : decode cX4_force 13 = .ok (.iconst 1, 1) := by decide +kernel
theorem dX4_force_14 : decode cX4_force 14 = .ok (.putfield 70, 3) := by decide +kernel
theorem dX4_force_17 : decode cX4_force 17 = .ok (.aload_n 0, 1) := by decide +kernel
theorem dX4_force_18 : decode cX4_force 18 = .ok (.getfield 70, 3) := by decide +kernel
theorem dX4_force_21 : decode cX4_force 21 = .ok (.ifCond .le 5, 3) := by decide +kernel
theorem dX4_force_24 : decode cX4_force 24 = .ok (.iconst 0, 1) := by decide +kernel
theorem dX4_force_25 : decode cX4_force 25 = .ok (.ireturn, 1) := by decide +kernel
theorem dX4_force_26 : decode cX4_force 26 = .ok (.aload_n 0, 1) := by decide +kernel
theorem dX4_force_27 : decode cX4_force 27 = .ok (.aload_n 0, 1) := by decide +kernel
theorem dX4_force_28 : decode cX4_force 28 = .ok (.getfield 40, 3) := by decide +kernel
theorem dX4_force_31 : decode cX4_force 31 = .ok (.iload_n 1, 1) := by decide +kernel
theorem dX4_force_32 : decode cX4_force 32 = .ok (.iaload, 1) := by decide +kernel
theorem dX4_force_33 : decode cX4_force 33 = .ok (.iconst 3, 1) := by decide +kernel
theorem dX4_force_34 : decode cX4_force 34 = .ok (.if_icmp .eq 30, 3) := by decide +kernel
theorem dX4_force_37 : decode cX4_force 37 = .ok (.aload_n 0, 1) := by decide +kernel
theorem dX4_force_38 : decode cX4_force 38 = .ok (.iload_n 1, 1) := by decide +kernel
theorem dX4_force_39 : decode cX4_force 39 = .ok (.invokevirtual 114, 3) := by decide +kernel
theorem dX4_force_42 : decode cX4_force 42 = .ok (.bipush 10, 2) := by decide +kernel
theorem dX4_force_44 : decode cX4_force 44 = .ok (.if_icmp .le 20, 3) := by decide +kernel
theorem dX4_force_47 : decode cX4_force 47 = .ok (.aload_n 0, 1) := by decide +kernel
theorem dX4_force_48 : decode cX4_force 48 = .ok (.iload_n 1, 1) := by decide +kernel
theorem dX4_force_49 : decode cX4_force 49 = .ok (.aload_n 0, 1) := by decide +kernel
theorem dX4_force_50 : decode cX4_force 50 = .ok (.getfield 19, 3) := by decide +kernel
theorem dX4_force_53 : decode cX4_force 53 = .ok (.aload_n 0, 1) := by decide +kernel
theorem dX4_force_54 : decode cX4_force 54 = .ok (.iload_n 1, 1) := by decide +kernel
theorem dX4_force_55 : decode cX4_force 55 = .ok (.invokevirtual 114, 3) := by decide +kernel
theorem dX4_force_58 : decode cX4_force 58 = .ok (.invokevirtual 124, 3) := by decide +kernel
theorem dX4_force_61 : decode cX4_force 61 = .ok (.ifCond .eq 7, 3) := by decide +kernel
theorem dX4_force_64 : decode cX4_force 64 = .ok (.iconst 2, 1) := by decide +kernel
theorem dX4_force_65 : decode cX4_force 65 = .ok (.goto 4, 3) := by decide +kernel
theorem dX4_force_68 : decode cX4_force 68 = .ok (.iconst 0, 1) := by decide +kernel
theorem dX4_force_69 : decode cX4_force 69 = .ok (.putfield 70, 3) := by decide +kernel
theorem dX4_force_72 : decode cX4_force 72 = .ok (.aload_n 0, 1) := by decide +kernel
theorem dX4_force_73 : decode cX4_force 73 = .ok (.getfield 70, 3) := by decide +kernel
theorem dX4_force_76 : decode cX4_force 76 = .ok (.ifCond .le 7, 3) := by decide +kernel
theorem dX4_force_79 : decode cX4_force 79 = .ok (.iconst 0, 1) := by decide +kernel
theorem dX4_force_80 : decode cX4_force 80 = .ok (.goto 9, 3) := by decide +kernel
theorem dX4_force_83 : decode cX4_force 83 = .ok (.aload_n 0, 1) := by decide +kernel
theorem dX4_force_84 : decode cX4_force 84 = .ok (.iload_n 1, 1) := by decide +kernel
theorem dX4_force_85 : decode cX4_force 85 = .ok (.iconst 1, 1) := by decide +kernel
theorem dX4_force_86 : decode cX4_force 86 = .ok (.invokevirtual 127, 3) := by decide +kernel
theorem dX4_force_89 : decode cX4_force 89 = .ok (.ireturn, 1) := by decide +kernel
set_option maxRecDepth 20000 in
theorem ggX4_asks_X4_isOrder : GoodIn wsX4_asks wsX4_isOrder := goodIn_r _ [6, 7, 8, 9, 5, 10, 11, 12, 13, 14, 15, 16, 17, 18, 19, 20, 21, 22, 23, 24, 25, 26, 27, 28, 29, 30, 31, 32, 33] (by decide +kernel) (by decide +kernel)
set_option maxRecDepth 20000 in
theorem gX4_asks_X4_isOrder : GoodIn wsX4_asks (wsV RX4 121 RX4 yX4_isOrder wsX4_isOrder) := goodIn_app (goodIn_of _ (by decide +kernel)) ggX4_asks_X4_isOrder
theorem dX4_asks_0 : decode cX4_asks 0 = .ok (.aload_n 0, 1) := by decide +kernel
theorem dX4_asks_1 : decode cX4_asks 1 = .ok (.aload_n 0, 1) := by decide +kernel
theorem dX4_asks_2 : decode cX4_asks 2 = .ok (.iload_n 1, 1) := by decide +kernel
theorem dX4_asks_3 : decode cX4_asks 3 = .ok (.invokevirtual 121, 3) := by decide +kernel
theorem dX4_asks_6 : decode cX4_asks 6 = .ok (.ifCond .eq 7, 3) := by decide +kernel
theorem dX4_asks_9 : decode cX4_asks 9 = .ok (.iconst 0, 1) := by decide +kernel
theorem dX4_asks_10 : decode cX4_asks 10 = .ok (.goto 4, 3) := by decide +kernel
theorem dX4_asks_13 : decode cX4_asks 13 = .ok (.iconst 1, 1) := by decide +kernel
theorem dX4_asks_14 : decode cX4_asks 14 = .ok (.putfield 70, 3) := by decide +kernel
theorem dX4_asks_17 : decode cX4_asks 17 = .ok (.aload_n 0, 1) := by decide +kernel
theorem dX4_asks_18 : decode cX4_asks 18 = .ok (.getfield 70, 3) := by decide +kernel
theorem dX4_asks_21 : decode cX4_asks 21 = .ok (.ifCond .ne 7, 3) := by decide +kernel
theorem dX4_asks_24 : decode cX4_asks 24 = .ok (.iconst 1, 1) := by decide +kernel
theorem dX4_asks_25 : decode cX4_asks 25 = .ok (.goto 4, 3) := by decide +kernel
theorem dX4_asks_28 : decode cX4_asks 28 = .ok (.iconst 0, 1) := by decide +kernel
theorem dX4_asks_29 : decode cX4_asks 29 = .ok (.ireturn, 1) := by decide +kernel
set_option maxRecDepth 20000 in
theorem ggX4_stage_X4_asks : GoodIn wsX4_stage wsX4_asks := goodIn_r _ [6, 7, 8, 9, 10, 5, 11, 12, 13, 14, 15, 16, 17, 18, 19, 20, 21, 22, 23, 24, 25, 26, 27, 28, 29, 30, 31, 32, 33, 34, 35, 36, 37, 38] (by decide +kernel) (by decide +kernel)
set_option maxRecDepth 20000 in
theorem gX4_stage_X4_asks : GoodIn wsX4_stage (wsV RX4 131 RX4 yX4_asks wsX4_asks) := goodIn_app (goodIn_of _ (by decide +kernel)) ggX4_stage_X4_asks
theorem dX4_stage_0 : decode cX4_stage 0 = .ok (.aload_n 0, 1) := by decide +kernel
theorem dX4_stage_1 : decode cX4_stage 1 = .ok (.iload_n 1, 1) := by decide +kernel
theorem dX4_stage_2 : decode cX4_stage 2 = .ok (.invokevirtual 131, 3) := by decide +kernel
theorem dX4_stage_5 : decode cX4_stage 5 = .ok (.ifCond .eq 12, 3) := by decide +kernel
theorem dX4_stage_8 : decode cX4_stage 8 = .ok (.aload_n 0, 1) := by decide +kernel
theorem dX4_stage_9 : decode cX4_stage 9 = .ok (.getfield 40, 3) := by decide +kernel
theorem dX4_stage_12 : decode cX4_stage 12 = .ok (.iload_n 1, 1) := by decide +kernel
theorem dX4_stage_13 : decode cX4_stage 13 = .ok (.iaload, 1) := by decide +kernel
theorem dX4_stage_14 : decode cX4_stage 14 = .ok (.goto 4, 3) := by decide +kernel
theorem dX4_stage_17 : decode cX4_stage 17 = .ok (.iconst 0, 1) := by decide +kernel
theorem dX4_stage_18 : decode cX4_stage 18 = .ok (.ireturn, 1) := by decide +kernel
set_option maxRecDepth 20000 in
theorem ggX4_due_X4_isOrder : GoodIn wsX4_due wsX4_isOrder := goodIn_r _ [7, 8, 9, 10, 6, 11, 17, 18, 19, 20, 21, 22, 23, 24, 25, 26, 27, 28, 29, 30, 31, 32, 33, 34, 35, 36, 37, 38, 39] (by decide +kernel) (by decide +kernel)
set_option maxRecDepth 20000 in
theorem gX4_due_X4_isOrder : GoodIn wsX4_due (wsV RX4 121 RX4 yX4_isOrder wsX4_isOrder) := goodIn_app (goodIn_of _ (by decide +kernel)) ggX4_due_X4_isOrder
set_option maxRecDepth 20000 in
theorem ggX4_due_X4_dueOf : GoodIn wsX4_due wsX4_dueOf := goodIn_r _ [15, 16, 1, 17, 18, 19, 20, 21, 22, 23, 24, 25, 26, 27, 28, 29, 30, 31, 32, 33, 34, 35, 36, 37, 38, 39] (by decide +kernel) (by decide +kernel)
set_option maxRecDepth 20000 in
theorem gX4_due_X4_dueOf : GoodIn wsX4_due (wsV RX4 106 RX4 yX4_dueOf wsX4_dueOf) := goodIn_app (goodIn_of _ (by decide +kernel)) ggX4_due_X4_dueOf
theorem dX4_due_0 : decode cX4_due 0 = .ok (.aload_n 0, 1) := by decide +kernel
theorem dX4_due_1 : decode cX4_due 1 = .ok (.aload_n 0, 1) := by decide +kernel
theorem dX4_due_2 : decode cX4_due 2 = .ok (.iload_n 1, 1) := by decide +kernel
theorem dX4_due_3 : decode cX4_due 3 = .ok (.invokevirtual 121, 3) := by decide +kernel
theorem dX4_due_6 : decode cX4_due 6 = .ok (.ifCond .ne 7, 3) := by decide +kernel
theorem dX4_due_9 : decode cX4_due 9 = .ok (.iconst 1, 1) := by decide +kernel
theorem dX4_due_10 : decode cX4_due 10 = .ok (.goto 18, 3) := by decide +kernel
theorem dX4_due_13 : decode cX4_due 13 = .ok (.aload_n 0, 1) := by decide +kernel
theorem dX4_due_14 : decode cX4_due 14 = .ok (.getfield 40, 3) := by decide +kernel
theorem dX4_due_17 : decode cX4_due 17 = .ok (.iload_n 1, 1) := by decide +kernel
theorem dX4_due_18 : decode cX4_due 18 = .ok (.iaload, 1) := by decide +kernel
theorem dX4_due_19 : decode cX4_due 19 = .ok (.iconst 3, 1) := by decide +kernel
theorem dX4_due_20 : decode cX4_due 20 = .ok (.if_icmp .ne 7, 3) := by decide +kernel
theorem dX4_due_23 : decode cX4_due 23 = .ok (.iconst 2, 1) := by decide +kernel
theorem dX4_due_24 : decode cX4_due 24 = .ok (.goto 4, 3) := by decide +kernel
theorem dX4_due_27 : decode cX4_due 27 = .ok (.iconst 0, 1) := by decide +kernel
theorem dX4_due_28 : decode cX4_due 28 = .ok (.putfield 70, 3) := by decide +kernel
theorem dX4_due_31 : decode cX4_due 31 = .ok (.aload_n 0, 1) := by decide +kernel
theorem dX4_due_32 : decode cX4_due 32 = .ok (.getfield 70, 3) := by decide +kernel
theorem dX4_due_35 : decode cX4_due 35 = .ok (.ifCond .le 7, 3) := by decide +kernel
theorem dX4_due_38 : decode cX4_due 38 = .ok (.iconst 0, 1) := by decide +kernel
theorem dX4_due_39 : decode cX4_due 39 = .ok (.goto 8, 3) := by decide +kernel
theorem dX4_due_42 : decode cX4_due 42 = .ok (.aload_n 0, 1) := by decide +kernel
theorem dX4_due_43 : decode cX4_due 43 = .ok (.iload_n 1, 1) := by decide +kernel
theorem dX4_due_44 : decode cX4_due 44 = .ok (.invokevirtual 106, 3) := by decide +kernel
theorem dX4_due_47 : decode cX4_due 47 = .ok (.ireturn, 1) := by decide +kernel
set_option maxRecDepth 20000 in
theorem ggX4_late_X4_asks : GoodIn wsX4_late wsX4_asks := goodIn_r _ [6, 7, 8, 9, 10, 5, 11, 12, 13, 14, 15, 16, 17, 18, 19, 20, 21, 22, 23, 24, 25, 26, 27, 28, 29, 30, 31, 32, 33, 34, 35, 36, 37, 38] (by decide +kernel) (by decide +kernel)
set_option maxRecDepth 20000 in
theorem gX4_late_X4_asks : GoodIn wsX4_late (wsV RX4 131 RX4 yX4_asks wsX4_asks) := goodIn_app (goodIn_of _ (by decide +kernel)) ggX4_late_X4_asks
theorem dX4_late_0 : decode cX4_late 0 = .ok (.aload_n 0, 1) := by decide +kernel
theorem dX4_late_1 : decode cX4_late 1 = .ok (.iload_n 1, 1) := by decide +kernel
theorem dX4_late_2 : decode cX4_late 2 = .ok (.invokevirtual 131, 3) := by decide +kernel
theorem dX4_late_5 : decode cX4_late 5 = .ok (.ifCond .eq 12, 3) := by decide +kernel
theorem dX4_late_8 : decode cX4_late 8 = .ok (.aload_n 0, 1) := by decide +kernel
theorem dX4_late_9 : decode cX4_late 9 = .ok (.getfield 52, 3) := by decide +kernel
theorem dX4_late_12 : decode cX4_late 12 = .ok (.iload_n 1, 1) := by decide +kernel
theorem dX4_late_13 : decode cX4_late 13 = .ok (.iaload, 1) := by decide +kernel
theorem dX4_late_14 : decode cX4_late 14 = .ok (.goto 4, 3) := by decide +kernel
theorem dX4_late_17 : decode cX4_late 17 = .ok (.iconst 0, 1) := by decide +kernel
theorem dX4_late_18 : decode cX4_late 18 = .ok (.ireturn, 1) := by decide +kernel
set_option maxRecDepth 20000 in
theorem ggX4_money_X4_asks : GoodIn wsX4_money wsX4_asks := goodIn_r _ [6, 7, 8, 9, 10, 5, 11, 12, 13, 14, 15, 16, 17, 18, 19, 20, 21, 22, 23, 24, 25, 26, 27, 28, 29, 30, 31, 32, 33, 34, 35, 36, 37, 38] (by decide +kernel) (by decide +kernel)
set_option maxRecDepth 20000 in
theorem gX4_money_X4_asks : GoodIn wsX4_money (wsV RX4 131 RX4 yX4_asks wsX4_asks) := goodIn_app (goodIn_of _ (by decide +kernel)) ggX4_money_X4_asks
theorem dX4_money_0 : decode cX4_money 0 = .ok (.aload_n 0, 1) := by decide +kernel
theorem dX4_money_1 : decode cX4_money 1 = .ok (.iload_n 1, 1) := by decide +kernel
theorem dX4_money_2 : decode cX4_money 2 = .ok (.invokevirtual 131, 3) := by decide +kernel
theorem dX4_money_5 : decode cX4_money 5 = .ok (.ifCond .eq 12, 3) := by decide +kernel
theorem dX4_money_8 : decode cX4_money 8 = .ok (.aload_n 0, 1) := by decide +kernel
theorem dX4_money_9 : decode cX4_money 9 = .ok (.getfield 58, 3) := by decide +kernel
theorem dX4_money_12 : decode cX4_money 12 = .ok (.iload_n 1, 1) := by decide +kernel
theorem dX4_money_13 : decode cX4_money 13 = .ok (.laload, 1) := by decide +kernel
theorem dX4_money_14 : decode cX4_money 14 = .ok (.goto 4, 3) := by decide +kernel
theorem dX4_money_17 : decode cX4_money 17 = .ok (.lconst 0, 1) := by decide +kernel
theorem dX4_money_18 : decode cX4_money 18 = .ok (.lreturn, 1) := by decide +kernel
set_option maxRecDepth 20000 in
theorem ggX4_madeGood_X4_asks : GoodIn wsX4_madeGood wsX4_asks := goodIn_r _ [6, 7, 8, 9, 10, 5, 11, 12, 13, 14, 15, 16, 17, 18, 19, 20, 21, 22, 23, 24, 25, 26, 27, 28, 29, 30, 31, 32, 33, 34, 35, 36, 37, 38] (by decide +kernel) (by decide +kernel)
set_option maxRecDepth 20000 in
theorem gX4_madeGood_X4_asks : GoodIn wsX4_madeGood (wsV RX4 131 RX4 yX4_asks wsX4_asks) := goodIn_app (goodIn_of _ (by decide +kernel)) ggX4_madeGood_X4_asks
theorem dX4_madeGood_0 : decode cX4_madeGood 0 = .ok (.aload_n 0, 1) := by decide +kernel
theorem dX4_madeGood_1 : decode cX4_madeGood 1 = .ok (.iload_n 1, 1) := by decide +kernel
theorem dX4_madeGood_2 : decode cX4_madeGood 2 = .ok (.invokevirtual 131, 3) := by decide +kernel
theorem dX4_madeGood_5 : decode cX4_madeGood 5 = .ok (.ifCond .eq 12, 3) := by decide +kernel
theorem dX4_madeGood_8 : decode cX4_madeGood 8 = .ok (.aload_n 0, 1) := by decide +kernel
theorem dX4_madeGood_9 : decode cX4_madeGood 9 = .ok (.getfield 61, 3) := by decide +kernel
theorem dX4_madeGood_12 : decode cX4_madeGood 12 = .ok (.iload_n 1, 1) := by decide +kernel
theorem dX4_madeGood_13 : decode cX4_madeGood 13 = .ok (.laload, 1) := by decide +kernel
theorem dX4_madeGood_14 : decode cX4_madeGood 14 = .ok (.goto 4, 3) := by decide +kernel
theorem dX4_madeGood_17 : decode cX4_madeGood 17 = .ok (.lconst 0, 1) := by decide +kernel
theorem dX4_madeGood_18 : decode cX4_madeGood 18 = .ok (.lreturn, 1) := by decide +kernel
set_option maxRecDepth 20000 in
theorem ggX4_owes_X4_isProvider : GoodIn wsX4_owes wsX4_isProvider := goodIn_r _ [6, 7, 8, 5, 9] (by decide +kernel) (by decide +kernel)
set_option maxRecDepth 20000 in
theorem gX4_owes_X4_isProvider : GoodIn wsX4_owes (va_wsS RX4 86 yX4_isProvider wsX4_isProvider) := goodIn_app (goodIn_of _ (by decide +kernel)) ggX4_owes_X4_isProvider
theorem dX4_owes_0 : decode cX4_owes 0 = .ok (.aload_n 0, 1) := by decide +kernel
theorem dX4_owes_1 : decode cX4_owes 1 = .ok (.iload_n 1, 1) := by decide +kernel
theorem dX4_owes_2 : decode cX4_owes 2 = .ok (.invokestatic 86, 3) := by decide +kernel
theorem dX4_owes_5 : decode cX4_owes 5 = .ok (.ifCond .eq 14, 3) := by decide +kernel
theorem dX4_owes_8 : decode cX4_owes 8 = .ok (.iload_n 2, 1) := by decide +kernel
theorem dX4_owes_9 : decode cX4_owes 9 = .ok (.invokestatic 86, 3) := by decide +kernel
theorem dX4_owes_12 : decode cX4_owes 12 = .ok (.ifCond .eq 7, 3) := by decide +kernel
theorem dX4_owes_15 : decode cX4_owes 15 = .ok (.iconst 0, 1) := by decide +kernel
theorem dX4_owes_16 : decode cX4_owes 16 = .ok (.goto 4, 3) := by decide +kernel
theorem dX4_owes_19 : decode cX4_owes 19 = .ok (.iconst 1, 1) := by decide +kernel
theorem dX4_owes_20 : decode cX4_owes 20 = .ok (.putfield 70, 3) := by decide +kernel
theorem dX4_owes_23 : decode cX4_owes 23 = .ok (.aload_n 0, 1) := by decide +kernel
theorem dX4_owes_24 : decode cX4_owes 24 = .ok (.getfield 70, 3) := by decide +kernel
theorem dX4_owes_27 : decode cX4_owes 27 = .ok (.ifCond .le 7, 3) := by decide +kernel
theorem dX4_owes_30 : decode cX4_owes 30 = .ok (.lconst 0, 1) := by decide +kernel
theorem dX4_owes_31 : decode cX4_owes 31 = .ok (.goto 24, 3) := by decide +kernel
theorem dX4_owes_34 : decode cX4_owes 34 = .ok (.aload_n 0, 1) := by decide +kernel
theorem dX4_owes_35 : decode cX4_owes 35 = .ok (.getfield 64, 3) := by decide +kernel
theorem dX4_owes_38 : decode cX4_owes 38 = .ok (.iconst 5, 1) := by decide +kernel
theorem dX4_owes_39 : decode cX4_owes 39 = .ok (.iload_n 1, 1) := by decide +kernel
theorem dX4_owes_40 : decode cX4_owes 40 = .ok (.imul, 1) := by decide +kernel
theorem dX4_owes_41 : decode cX4_owes 41 = .ok (.iload_n 2, 1) := by decide +kernel
theorem dX4_owes_42 : decode cX4_owes 42 = .ok (.iadd, 1) := by decide +kernel
theorem dX4_owes_43 : decode cX4_owes 43 = .ok (.laload, 1) := by decide +kernel
theorem dX4_owes_44 : decode cX4_owes 44 = .ok (.aload_n 0, 1) := by decide +kernel
theorem dX4_owes_45 : decode cX4_owes 45 = .ok (.getfield 64, 3) := by decide +kernel
theorem dX4_owes_48 : decode cX4_owes 48 = .ok (.iconst 5, 1) := by decide +kernel
theorem dX4_owes_49 : decode cX4_owes 49 = .ok (.iload_n 2, 1) := by decide +kernel
theorem dX4_owes_50 : decode cX4_owes 50 = .ok (.imul, 1) := by decide +kernel
theorem dX4_owes_51 : decode cX4_owes 51 = .ok (.iload_n 1, 1) := by decide +kernel
theorem dX4_owes_52 : decode cX4_owes 52 = .ok (.iadd, 1) := by decide +kernel
theorem dX4_owes_53 : decode cX4_owes 53 = .ok (.laload, 1) := by decide +kernel
theorem dX4_owes_54 : decode cX4_owes 54 = .ok (.lsub, 1) := by decide +kernel
theorem dX4_owes_55 : decode cX4_owes 55 = .ok (.lreturn, 1) := by decide +kernel
set_option maxRecDepth 20000 in
theorem ggX4_losses_X4_isProvider : GoodIn wsX4_losses wsX4_isProvider := goodIn_r _ [6, 7, 8, 5, 9] (by decide +kernel) (by decide +kernel)
set_option maxRecDepth 20000 in
theorem gX4_losses_X4_isProvider : GoodIn wsX4_losses (va_wsS RX4 86 yX4_isProvider wsX4_isProvider) := goodIn_app (goodIn_of _ (by decide +kernel)) ggX4_losses_X4_isProvider
theorem dX4_losses_0 : decode cX4_losses 0 = .ok (.aload_n 0, 1) := by decide +kernel
theorem dX4_losses_1 : decode cX4_losses 1 = .ok (.iload_n 1, 1) := by decide +kernel
theorem dX4_losses_2 : decode cX4_losses 2 = .ok (.invokestatic 86, 3) := by decide +kernel
theorem dX4_losses_5 : decode cX4_losses 5 = .ok (.ifCond .eq 7, 3) := by decide +kernel
theorem dX4_losses_8 : decode cX4_losses 8 = .ok (.iconst 0, 1) := by decide +kernel
theorem dX4_losses_9 : decode cX4_losses 9 = .ok (.goto 4, 3) := by decide +kernel
theorem dX4_losses_12 : decode cX4_losses 12 = .ok (.iconst 1, 1) := by decide +kernel
theorem dX4_losses_13 : decode cX4_losses 13 = .ok (.putfield 70, 3) := by decide +kernel
theorem dX4_losses_16 : decode cX4_losses 16 = .ok (.aload_n 0, 1) := by decide +kernel
theorem dX4_losses_17 : decode cX4_losses 17 = .ok (.getfield 70, 3) := by decide +kernel
theorem dX4_losses_20 : decode cX4_losses 20 = .ok (.ifCond .le 7, 3) := by decide +kernel
theorem dX4_losses_23 : decode cX4_losses 23 = .ok (.lconst 0, 1) := by decide +kernel
theorem dX4_losses_24 : decode cX4_losses 24 = .ok (.goto 9, 3) := by decide +kernel
theorem dX4_losses_27 : decode cX4_losses 27 = .ok (.aload_n 0, 1) := by decide +kernel
theorem dX4_losses_28 : decode cX4_losses 28 = .ok (.getfield 67, 3) := by decide +kernel
theorem dX4_losses_31 : decode cX4_losses 31 = .ok (.iload_n 1, 1) := by decide +kernel
theorem dX4_losses_32 : decode cX4_losses 32 = .ok (.laload, 1) := by decide +kernel
theorem dX4_losses_33 : decode cX4_losses 33 = .ok (.lreturn, 1) := by decide +kernel
theorem dJ9_max_7cf53_0 : decode cJ9_max_7cf53 0 = .ok (.iload_n 0, 1) := by decide +kernel
theorem dJ9_max_7cf53_1 : decode cJ9_max_7cf53 1 = .ok (.iload_n 1, 1) := by decide +kernel
theorem dJ9_max_7cf53_2 : decode cJ9_max_7cf53 2 = .ok (.if_icmp .lt 7, 3) := by decide +kernel
theorem dJ9_max_7cf53_5 : decode cJ9_max_7cf53 5 = .ok (.iload_n 0, 1) := by decide +kernel
theorem dJ9_max_7cf53_6 : decode cJ9_max_7cf53 6 = .ok (.goto 4, 3) := by decide +kernel
theorem dJ9_max_7cf53_9 : decode cJ9_max_7cf53 9 = .ok (.iload_n 1, 1) := by decide +kernel
theorem dJ9_max_7cf53_10 : decode cJ9_max_7cf53 10 = .ok (.ireturn, 1) := by decide +kernel
theorem dJ9_max_f86c9_0 : decode cJ9_max_f86c9 0 = .ok (.lload_n 0, 1) := by decide +kernel
theorem dJ9_max_f86c9_1 : decode cJ9_max_f86c9 1 = .ok (.lload_n 2, 1) := by decide +kernel
theorem dJ9_max_f86c9_2 : decode cJ9_max_f86c9 2 = .ok (.lcmp, 1) := by decide +kernel
theorem dJ9_max_f86c9_3 : decode cJ9_max_f86c9 3 = .ok (.ifCond .lt 7, 3) := by decide +kernel
theorem dJ9_max_f86c9_6 : decode cJ9_max_f86c9 6 = .ok (.lload_n 0, 1) := by decide +kernel
theorem dJ9_max_f86c9_7 : decode cJ9_max_f86c9 7 = .ok (.goto 4, 3) := by decide +kernel
theorem dJ9_max_f86c9_10 : decode cJ9_max_f86c9 10 = .ok (.lload_n 2, 1) := by decide +kernel
theorem dJ9_max_f86c9_11 : decode cJ9_max_f86c9 11 = .ok (.lreturn, 1) := by decide +kernel
set_option maxRecDepth 20000 in
theorem ggL_pass_X3_pass : GoodIn wsL_pass wsX3_pass := goodIn_ca (goodIn_ca (goodIn_r _ [7, 8, 9, 10, 11, 12, 13, 14, 6, 15, 16, 17, 18, 19, 20, 21, 22, 23, 24] (by decide +kernel) (by decide +kernel)) (goodIn_sub (fun _ h => List.mem_cons_of_mem _ (List.mem_append_left _ (List.mem_append_right _ h))) (by decide +kernel))) (goodIn_sub (fun _ h => List.mem_cons_of_mem _ (List.mem_append_right _ h)) (by decide +kernel))
set_option maxRecDepth 20000 in
theorem gL_pass_X3_pass : GoodIn wsL_pass (wsV RL 7 RX3 yX3_pass wsX3_pass) := goodIn_app (goodIn_of _ (by decide +kernel)) ggL_pass_X3_pass
end
section
theorem dL_pass_0 : decode cL_pass 0 = .ok (.aload_n 2, 1) := by decide +kernel
theorem dL_pass_1 : decode cL_pass 1 = .ok (.iconst 0, 1) := by decide +kernel
theorem dL_pass_2 : decode cL_pass 2 = .ok (.aload_n 0, 1) := by decide +kernel
theorem dL_pass_3 : decode cL_pass 3 = .ok (.iload_n 1, 1) := by decide +kernel
theorem dL_pass_4 : decode cL_pass 4 = .ok (.invokevirtual 7, 3) := by decide +kernel
theorem dL_pass_7 : decode cL_pass 7 = .ok (.i2l, 1) := by decide +kernel
theorem dL_pass_8 : decode cL_pass 8 = .ok (.lastore, 1) := by decide +kernel
theorem dL_pass_9 : decode cL_pass 9 = .ok (.goto 9, 3) := by decide +kernel
theorem dL_pass_12 : decode cL_pass 12 = .ok (.astore_n 3, 1) := by decide +kernel
theorem dL_pass_13 : decode cL_pass 13 = .ok (.iconst 1, 1) := by decide +kernel
theorem dL_pass_14 : decode cL_pass 14 = .ok (.ireturn, 1) := by decide +kernel
theorem dL_pass_15 : decode cL_pass 15 = .ok (.astore_n 3, 1) := by decide +kernel
theorem dL_pass_16 : decode cL_pass 16 = .ok (.iconst 2, 1) := by decide +kernel
theorem dL_pass_17 : decode cL_pass 17 = .ok (.ireturn, 1) := by decide +kernel
theorem dL_pass_18 : decode cL_pass 18 = .ok (.iconst 0, 1) := by decide +kernel
theorem dL_pass_19 : decode cL_pass 19 = .ok (.ireturn, 1) := by decide +kernel
set_option maxRecDepth 20000 in
theorem ggL_setPrice_X3_setPrice : GoodIn wsL_setPrice wsX3_setPrice := goodIn_ca (goodIn_ca (goodIn_r _ [7, 8, 9, 10, 11, 12, 13, 6, 14, 15, 16, 17, 18, 19, 20, 21, 22, 23, 24, 25, 26, 27, 28, 29, 30, 31, 32, 33, 34, 35, 36, 37, 38, 39, 40, 41, 42, 43, 44, 45, 46, 47, 48, 49, 50] (by decide +kernel) (by decide +kernel)) (goodIn_sub (fun _ h => List.mem_cons_of_mem _ (List.mem_append_left _ (List.mem_append_right _ h))) (by decide +kernel))) (goodIn_sub (fun _ h => List.mem_cons_of_mem _ (List.mem_append_right _ h)) (by decide +kernel))
set_option maxRecDepth 20000 in
theorem gL_setPrice_X3_setPrice : GoodIn wsL_setPrice (wsV RL 17 RX3 yX3_setPrice wsX3_setPrice) := goodIn_app (goodIn_of _ (by decide +kernel)) ggL_setPrice_X3_setPrice
theorem dL_setPrice_0 : decode cL_setPrice 0 = .ok (.aload_n 3, 1) := by decide +kernel
theorem dL_setPrice_1 : decode cL_setPrice 1 = .ok (.iconst 0, 1) := by decide +kernel
theorem dL_setPrice_2 : decode cL_setPrice 2 = .ok (.aload_n 0, 1) := by decide +kernel
theorem dL_setPrice_3 : decode cL_setPrice 3 = .ok (.iload_n 1, 1) := by decide +kernel
theorem dL_setPrice_4 : decode cL_setPrice 4 = .ok (.iload_n 2, 1) := by decide +kernel
theorem dL_setPrice_5 : decode cL_setPrice 5 = .ok (.invokevirtual 17, 3) := by decide +kernel
theorem dL_setPrice_8 : decode cL_setPrice 8 = .ok (.i2l, 1) := by decide +kernel
theorem dL_setPrice_9 : decode cL_setPrice 9 = .ok (.lastore, 1) := by decide +kernel
theorem dL_setPrice_10 : decode cL_setPrice 10 = .ok (.goto 11, 3) := by decide +kernel
theorem dL_setPrice_13 : decode cL_setPrice 13 = .ok (.astore 4, 2) := by decide +kernel
theorem dL_setPrice_15 : decode cL_setPrice 15 = .ok (.iconst 1, 1) := by decide +kernel
theorem dL_setPrice_16 : decode cL_setPrice 16 = .ok (.ireturn, 1) := by decide +kernel
theorem dL_setPrice_17 : decode cL_setPrice 17 = .ok (.astore 4, 2) := by decide +kernel
theorem dL_setPrice_19 : decode cL_setPrice 19 = .ok (.iconst 2, 1) := by decide +kernel
theorem dL_setPrice_20 : decode cL_setPrice 20 = .ok (.ireturn, 1) := by decide +kernel
theorem dL_setPrice_21 : decode cL_setPrice 21 = .ok (.iconst 0, 1) := by decide +kernel
theorem dL_setPrice_22 : decode cL_setPrice 22 = .ok (.ireturn, 1) := by decide +kernel
set_option maxRecDepth 20000 in
theorem ggL_price_X3_price : GoodIn wsL_price wsX3_price := goodIn_ca (goodIn_r _ [6, 7, 8, 9, 10, 11, 12, 5, 13, 14, 15, 16, 17, 18, 19, 20, 21, 22, 23, 24, 25, 26, 27, 28, 29, 30, 31, 32, 33, 34, 35, 36, 37, 38, 39, 40] (by decide +kernel) (by decide +kernel)) (goodIn_sub (fun _ h => List.mem_cons_of_mem _ (List.mem_append_right _ h)) (by decide +kernel))
set_option maxRecDepth 20000 in
theorem gL_price_X3_price : GoodIn wsL_price (wsV RL 21 RX3 yX3_price wsX3_price) := goodIn_app (goodIn_of _ (by decide +kernel)) ggL_price_X3_price
theorem dL_price_0 : decode cL_price 0 = .ok (.aload_n 3, 1) := by decide +kernel
theorem dL_price_1 : decode cL_price 1 = .ok (.iconst 0, 1) := by decide +kernel
theorem dL_price_2 : decode cL_price 2 = .ok (.aload_n 0, 1) := by decide +kernel
theorem dL_price_3 : decode cL_price 3 = .ok (.iload_n 1, 1) := by decide +kernel
theorem dL_price_4 : decode cL_price 4 = .ok (.iload_n 2, 1) := by decide +kernel
theorem dL_price_5 : decode cL_price 5 = .ok (.invokevirtual 21, 3) := by decide +kernel
theorem dL_price_8 : decode cL_price 8 = .ok (.i2l, 1) := by decide +kernel
theorem dL_price_9 : decode cL_price 9 = .ok (.lastore, 1) := by decide +kernel
theorem dL_price_10 : decode cL_price 10 = .ok (.goto 7, 3) := by decide +kernel
theorem dL_price_13 : decode cL_price 13 = .ok (.astore 4, 2) := by decide +kernel
theorem dL_price_15 : decode cL_price 15 = .ok (.iconst 1, 1) := by decide +kernel
theorem dL_price_16 : decode cL_price 16 = .ok (.ireturn, 1) := by decide +kernel
theorem dL_price_17 : decode cL_price 17 = .ok (.iconst 0, 1) := by decide +kernel
theorem dL_price_18 : decode cL_price 18 = .ok (.ireturn, 1) := by decide +kernel
set_option maxRecDepth 20000 in
theorem ggL_setDefault_X3_setDefault : GoodIn wsL_setDefault wsX3_setDefault := goodIn_ca (goodIn_r _ [6, 7, 8, 9, 5, 10, 11, 12, 13, 14, 15, 16, 17, 18, 19, 20, 21, 22, 23, 24] (by decide +kernel) (by decide +kernel)) (goodIn_sub (fun _ h => List.mem_cons_of_mem _ (List.mem_append_right _ h)) (by decide +kernel))
set_option maxRecDepth 20000 in
theorem gL_setDefault_X3_setDefault : GoodIn wsL_setDefault (wsV RL 24 RX3 yX3_setDefault wsX3_setDefault) := goodIn_app (goodIn_of _ (by decide +kernel)) ggL_setDefault_X3_setDefault
theorem dL_setDefault_0 : decode cL_setDefault 0 = .ok (.aload_n 2, 1) := by decide +kernel
theorem dL_setDefault_1 : decode cL_setDefault 1 = .ok (.iconst 0, 1) := by decide +kernel
theorem dL_setDefault_2 : decode cL_setDefault 2 = .ok (.aload_n 0, 1) := by decide +kernel
theorem dL_setDefault_3 : decode cL_setDefault 3 = .ok (.iload_n 1, 1) := by decide +kernel
theorem dL_setDefault_4 : decode cL_setDefault 4 = .ok (.invokevirtual 24, 3) := by decide +kernel
theorem dL_setDefault_7 : decode cL_setDefault 7 = .ok (.i2l, 1) := by decide +kernel
theorem dL_setDefault_8 : decode cL_setDefault 8 = .ok (.lastore, 1) := by decide +kernel
theorem dL_setDefault_9 : decode cL_setDefault 9 = .ok (.goto 6, 3) := by decide +kernel
theorem dL_setDefault_12 : decode cL_setDefault 12 = .ok (.astore_n 3, 1) := by decide +kernel
theorem dL_setDefault_13 : decode cL_setDefault 13 = .ok (.iconst 1, 1) := by decide +kernel
theorem dL_setDefault_14 : decode cL_setDefault 14 = .ok (.ireturn, 1) := by decide +kernel
theorem dL_setDefault_15 : decode cL_setDefault 15 = .ok (.iconst 0, 1) := by decide +kernel
theorem dL_setDefault_16 : decode cL_setDefault 16 = .ok (.ireturn, 1) := by decide +kernel
set_option maxRecDepth 20000 in
theorem ggL_begin_X3_begin : GoodIn wsL_begin wsX3_begin := goodIn_ca (goodIn_ca (goodIn_r _ [7, 8, 9, 10, 11, 12, 13, 14, 15, 16, 17, 18, 19, 20, 21, 6, 22, 23, 24, 25, 26, 27, 28, 29, 30, 31, 32, 33, 34, 35, 36, 37, 38, 39, 40, 41, 42, 43, 44, 45, 46, 47, 48, 49, 50, 51, 52, 53, 54, 55, 56, 57, 58, 59, 60, 61, 62, 63, 64, 65] (by decide +kernel) (by decide +kernel)) (goodIn_sub (fun _ h => List.mem_cons_of_mem _ (List.mem_append_left _ (List.mem_append_right _ h))) (by decide +kernel))) (goodIn_sub (fun _ h => List.mem_cons_of_mem _ (List.mem_append_right _ h)) (by decide +kernel))
set_option maxRecDepth 20000 in
theorem gL_begin_X3_begin : GoodIn wsL_begin (wsV RL 27 RX3 yX3_begin wsX3_begin) := goodIn_app (goodIn_of _ (by decide +kernel)) ggL_begin_X3_begin
theorem dL_begin_0 : decode cL_begin 0 = .ok (.aload_n 3, 1) := by decide +kernel
theorem dL_begin_1 : decode cL_begin 1 = .ok (.iconst 0, 1) := by decide +kernel
theorem dL_begin_2 : decode cL_begin 2 = .ok (.aload_n 0, 1) := by decide +kernel
theorem dL_begin_3 : decode cL_begin 3 = .ok (.iload_n 1, 1) := by decide +kernel
theorem dL_begin_4 : decode cL_begin 4 = .ok (.iload_n 2, 1) := by decide +kernel
theorem dL_begin_5 : decode cL_begin 5 = .ok (.invokevirtual 27, 3) := by decide +kernel
theorem dL_begin_8 : decode cL_begin 8 = .ok (.i2l, 1) := by decide +kernel
theorem dL_begin_9 : decode cL_begin 9 = .ok (.lastore, 1) := by decide +kernel
theorem dL_begin_10 : decode cL_begin 10 = .ok (.goto 11, 3) := by decide +kernel
theorem dL_begin_13 : decode cL_begin 13 = .ok (.astore 4, 2) := by decide +kernel
theorem dL_begin_15 : decode cL_begin 15 = .ok (.iconst 1, 1) := by decide +kernel
theorem dL_begin_16 : decode cL_begin 16 = .ok (.ireturn, 1) := by decide +kernel
theorem dL_begin_17 : decode cL_begin 17 = .ok (.astore 4, 2) := by decide +kernel
theorem dL_begin_19 : decode cL_begin 19 = .ok (.iconst 2, 1) := by decide +kernel
theorem dL_begin_20 : decode cL_begin 20 = .ok (.ireturn, 1) := by decide +kernel
theorem dL_begin_21 : decode cL_begin 21 = .ok (.iconst 0, 1) := by decide +kernel
theorem dL_begin_22 : decode cL_begin 22 = .ok (.ireturn, 1) := by decide +kernel
set_option maxRecDepth 20000 in
theorem ggL_pay_X3_pay : GoodIn wsL_pay wsX3_pay := goodIn_ca (goodIn_ca (goodIn_ca (goodIn_r _ [8, 9, 10, 11, 12, 13, 14, 15, 16, 7, 17, 18, 19, 20, 21, 22, 23, 24, 25, 26, 27, 28, 29, 30, 31, 32, 33, 34, 35, 36, 37, 38, 39, 40, 41, 42, 43, 44, 45, 46, 47, 48, 49, 50, 51, 52, 53, 54, 55, 56, 57, 58, 59, 60, 61, 62, 63, 64, 65, 66, 67] (by decide +kernel) (by decide +kernel)) (goodIn_sub (fun _ h => List.mem_cons_of_mem _ (List.mem_append_left _ (List.mem_append_left _ (List.mem_append_right _ h)))) (by decide +kernel))) (goodIn_sub (fun _ h => List.mem_cons_of_mem _ (List.mem_append_left _ (List.mem_append_right _ h))) (by decide +kernel))) (goodIn_sub (fun _ h => List.mem_cons_of_mem _ (List.mem_append_right _ h)) (by decide +kernel))
set_option maxRecDepth 20000 in
theorem gL_pay_X3_pay : GoodIn wsL_pay (wsV RL 30 RX3 yX3_pay wsX3_pay) := goodIn_app (goodIn_of _ (by decide +kernel)) ggL_pay_X3_pay
theorem dL_pay_0 : decode cL_pay 0 = .ok (.aload_n 3, 1) := by decide +kernel
theorem dL_pay_1 : decode cL_pay 1 = .ok (.iconst 0, 1) := by decide +kernel
theorem dL_pay_2 : decode cL_pay 2 = .ok (.aload_n 0, 1) := by decide +kernel
theorem dL_pay_3 : decode cL_pay 3 = .ok (.iload_n 1, 1) := by decide +kernel
theorem dL_pay_4 : decode cL_pay 4 = .ok (.iload_n 2, 1) := by decide +kernel
theorem dL_pay_5 : decode cL_pay 5 = .ok (.invokevirtual 30, 3) := by decide +kernel
theorem dL_pay_8 : decode cL_pay 8 = .ok (.i2l, 1) := by decide +kernel
theorem dL_pay_9 : decode cL_pay 9 = .ok (.lastore, 1) := by decide +kernel
theorem dL_pay_10 : decode cL_pay 10 = .ok (.goto 15, 3) := by decide +kernel
theorem dL_pay_13 : decode cL_pay 13 = .ok (.astore 4, 2) := by decide +kernel
theorem dL_pay_15 : decode cL_pay 15 = .ok (.iconst 1, 1) := by decide +kernel
theorem dL_pay_16 : decode cL_pay 16 = .ok (.ireturn, 1) := by decide +kernel
theorem dL_pay_17 : decode cL_pay 17 = .ok (.astore 4, 2) := by decide +kernel
theorem dL_pay_19 : decode cL_pay 19 = .ok (.iconst 2, 1) := by decide +kernel
theorem dL_pay_20 : decode cL_pay 20 = .ok (.ireturn, 1) := by decide +kernel
theorem dL_pay_21 : decode cL_pay 21 = .ok (.astore 4, 2) := by decide +kernel
theorem dL_pay_23 : decode cL_pay 23 = .ok (.iconst 3, 1) := by decide +kernel
theorem dL_pay_24 : decode cL_pay 24 = .ok (.ireturn, 1) := by decide +kernel
theorem dL_pay_25 : decode cL_pay 25 = .ok (.iconst 0, 1) := by decide +kernel
theorem dL_pay_26 : decode cL_pay 26 = .ok (.ireturn, 1) := by decide +kernel
set_option maxRecDepth 20000 in
theorem ggL_units_X3_units : GoodIn wsL_units wsX3_units := goodIn_ca (goodIn_r _ [6, 7, 8, 9, 5, 10, 11, 12, 13, 14, 15, 16, 17, 18, 19, 20, 21, 22, 23, 24, 25, 26, 27, 28] (by decide +kernel) (by decide +kernel)) (goodIn_sub (fun _ h => List.mem_cons_of_mem _ (List.mem_append_right _ h)) (by decide +kernel))
set_option maxRecDepth 20000 in
theorem gL_units_X3_units : GoodIn wsL_units (wsV RL 35 RX3 yX3_units wsX3_units) := goodIn_app (goodIn_of _ (by decide +kernel)) ggL_units_X3_units
theorem dL_units_0 : decode cL_units 0 = .ok (.aload_n 2, 1) := by decide +kernel
theorem dL_units_1 : decode cL_units 1 = .ok (.iconst 0, 1) := by decide +kernel
theorem dL_units_2 : decode cL_units 2 = .ok (.aload_n 0, 1) := by decide +kernel
theorem dL_units_3 : decode cL_units 3 = .ok (.iload_n 1, 1) := by decide +kernel
theorem dL_units_4 : decode cL_units 4 = .ok (.invokevirtual 35, 3) := by decide +kernel
theorem dL_units_7 : decode cL_units 7 = .ok (.lastore, 1) := by decide +kernel
theorem dL_units_8 : decode cL_units 8 = .ok (.goto 6, 3) := by decide +kernel
theorem dL_units_11 : decode cL_units 11 = .ok (.astore_n 3, 1) := by decide +kernel
theorem dL_units_12 : decode cL_units 12 = .ok (.iconst 1, 1) := by decide +kernel
theorem dL_units_13 : decode cL_units 13 = .ok (.ireturn, 1) := by decide +kernel
theorem dL_units_14 : decode cL_units 14 = .ok (.iconst 0, 1) := by decide +kernel
theorem dL_units_15 : decode cL_units 15 = .ok (.ireturn, 1) := by decide +kernel
set_option maxRecDepth 20000 in
theorem ggL_provider_X3_provider : GoodIn wsL_provider wsX3_provider := goodIn_ca (goodIn_r _ [6, 7, 8, 9, 5, 10, 11, 12, 13, 14, 15, 16, 17, 18, 19, 20, 21, 22, 23, 24, 25, 26, 27, 28] (by decide +kernel) (by decide +kernel)) (goodIn_sub (fun _ h => List.mem_cons_of_mem _ (List.mem_append_right _ h)) (by decide +kernel))
set_option maxRecDepth 20000 in
theorem gL_provider_X3_provider : GoodIn wsL_provider (wsV RL 39 RX3 yX3_provider wsX3_provider) := goodIn_app (goodIn_of _ (by decide +kernel)) ggL_provider_X3_provider
theorem dL_provider_0 : decode cL_provider 0 = .ok (.aload_n 2, 1) := by decide +kernel
theorem dL_provider_1 : decode cL_provider 1 = .ok (.iconst 0, 1) := by decide +kernel
theorem dL_provider_2 : decode cL_provider 2 = .ok (.aload_n 0, 1) := by decide +kernel
theorem dL_provider_3 : decode cL_provider 3 = .ok (.iload_n 1, 1) := by decide +kernel
theorem dL_provider_4 : decode cL_provider 4 = .ok (.invokevirtual 39, 3) := by decide +kernel
theorem dL_provider_7 : decode cL_provider 7 = .ok (.i2l, 1) := by decide +kernel
theorem dL_provider_8 : decode cL_provider 8 = .ok (.lastore, 1) := by decide +kernel
theorem dL_provider_9 : decode cL_provider 9 = .ok (.goto 6, 3) := by decide +kernel
theorem dL_provider_12 : decode cL_provider 12 = .ok (.astore_n 3, 1) := by decide +kernel
theorem dL_provider_13 : decode cL_provider 13 = .ok (.iconst 1, 1) := by decide +kernel
theorem dL_provider_14 : decode cL_provider 14 = .ok (.ireturn, 1) := by decide +kernel
theorem dL_provider_15 : decode cL_provider 15 = .ok (.iconst 0, 1) := by decide +kernel
theorem dL_provider_16 : decode cL_provider 16 = .ok (.ireturn, 1) := by decide +kernel
set_option maxRecDepth 20000 in
theorem ggL_order_X3_order : GoodIn wsL_order wsX3_order := goodIn_ca (goodIn_ca (goodIn_ca (goodIn_r _ [8, 9, 10, 11, 12, 13, 14, 15, 16, 17, 18, 19, 20, 21, 7, 22, 23, 24, 25, 26, 27, 28, 29, 30, 31, 32, 33, 34, 35, 36, 37, 38, 39, 40, 41, 42, 43, 44, 45, 46, 47, 48, 49, 50, 51, 52, 53, 54, 55, 56, 57, 58, 59, 60, 61, 62, 63, 64, 65, 66, 67, 68, 69, 70, 71, 72] (by decide +kernel) (by decide +kernel)) (goodIn_sub (fun _ h => List.mem_cons_of_mem _ (List.mem_append_left _ (List.mem_append_left _ (List.mem_append_right _ h)))) (by decide +kernel))) (goodIn_sub (fun _ h => List.mem_cons_of_mem _ (List.mem_append_left _ (List.mem_append_right _ h))) (by decide +kernel))) (goodIn_sub (fun _ h => List.mem_cons_of_mem _ (List.mem_append_right _ h)) (by decide +kernel))
set_option maxRecDepth 20000 in
theorem gL_order_X3_order : GoodIn wsL_order (wsV RL 42 RX3 yX3_order wsX3_order) := goodIn_app (goodIn_of _ (by decide +kernel)) ggL_order_X3_order
theorem dL_order_0 : decode cL_order 0 = .ok (.aload_n 3, 1) := by decide +kernel
theorem dL_order_1 : decode cL_order 1 = .ok (.iconst 0, 1) := by decide +kernel
theorem dL_order_2 : decode cL_order 2 = .ok (.aload_n 0, 1) := by decide +kernel
theorem dL_order_3 : decode cL_order 3 = .ok (.iload_n 1, 1) := by decide +kernel
theorem dL_order_4 : decode cL_order 4 = .ok (.iload_n 2, 1) := by decide +kernel
theorem dL_order_5 : decode cL_order 5 = .ok (.invokevirtual 42, 3) := by decide +kernel
theorem dL_order_8 : decode cL_order 8 = .ok (.i2l, 1) := by decide +kernel
theorem dL_order_9 : decode cL_order 9 = .ok (.lastore, 1) := by decide +kernel
theorem dL_order_10 : decode cL_order 10 = .ok (.goto 15, 3) := by decide +kernel
theorem dL_order_13 : decode cL_order 13 = .ok (.astore 4, 2) := by decide +kernel
theorem dL_order_15 : decode cL_order 15 = .ok (.iconst 1, 1) := by decide +kernel
theorem dL_order_16 : decode cL_order 16 = .ok (.ireturn, 1) := by decide +kernel
theorem dL_order_17 : decode cL_order 17 = .ok (.astore 4, 2) := by decide +kernel
theorem dL_order_19 : decode cL_order 19 = .ok (.iconst 2, 1) := by decide +kernel
theorem dL_order_20 : decode cL_order 20 = .ok (.ireturn, 1) := by decide +kernel
theorem dL_order_21 : decode cL_order 21 = .ok (.astore 4, 2) := by decide +kernel
theorem dL_order_23 : decode cL_order 23 = .ok (.iconst 3, 1) := by decide +kernel
theorem dL_order_24 : decode cL_order 24 = .ok (.ireturn, 1) := by decide +kernel
theorem dL_order_25 : decode cL_order 25 = .ok (.iconst 0, 1) := by decide +kernel
theorem dL_order_26 : decode cL_order 26 = .ok (.ireturn, 1) := by decide +kernel
set_option maxRecDepth 20000 in
theorem ggL_step_X3_step : GoodIn wsL_step wsX3_step := goodIn_ca (goodIn_ca (goodIn_ca (goodIn_r _ [7, 8, 9, 10, 6, 11, 12, 13, 14, 15, 16, 17, 18, 19, 20, 21, 22, 23, 24, 25, 26, 27, 28, 29, 30, 31, 32, 33, 34, 35, 36, 37, 38, 39, 40, 41, 42, 43, 44, 45, 46, 47, 48, 49, 50, 51, 52, 53, 54, 55, 56, 57, 58, 59, 60, 61, 62, 63, 64, 65, 66, 67, 68, 69, 70, 71, 72, 73, 74, 75, 76, 77, 78, 79, 80, 81, 82, 83, 84, 85, 86, 87, 88, 89, 90, 91, 92, 93, 94, 95, 96, 97, 98, 99, 100, 101, 102, 103, 104, 105, 106, 107, 108, 109, 110, 111, 112, 113, 114, 115, 116, 117, 118, 119, 120, 121, 122, 123, 124, 125, 126, 127, 128, 129, 130, 131, 132, 133, 134, 135, 136, 137, 138, 139, 140] (by decide +kernel) (by decide +kernel)) (goodIn_sub (fun _ h => List.mem_cons_of_mem _ (List.mem_append_left _ (List.mem_append_left _ (List.mem_append_right _ h)))) (by decide +kernel))) (goodIn_sub (fun _ h => List.mem_cons_of_mem _ (List.mem_append_left _ (List.mem_append_right _ h))) (by decide +kernel))) (goodIn_sub (fun _ h => List.mem_cons_of_mem _ (List.mem_append_right _ h)) (by decide +kernel))
set_option maxRecDepth 20000 in
theorem gL_step_X3_step : GoodIn wsL_step (wsV RL 45 RX3 yX3_step wsX3_step) := goodIn_app (goodIn_of _ (by decide +kernel)) ggL_step_X3_step
theorem dL_step_0 : decode cL_step 0 = .ok (.aload_n 2, 1) := by decide +kernel
theorem dL_step_1 : decode cL_step 1 = .ok (.iconst 0, 1) := by decide +kernel
theorem dL_step_2 : decode cL_step 2 = .ok (.aload_n 0, 1) := by decide +kernel
theorem dL_step_3 : decode cL_step 3 = .ok (.iload_n 1, 1) := by decide +kernel
theorem dL_step_4 : decode cL_step 4 = .ok (.invokevirtual 45, 3) := by decide +kernel
theorem dL_step_7 : decode cL_step 7 = .ok (.i2l, 1) := by decide +kernel
theorem dL_step_8 : decode cL_step 8 = .ok (.lastore, 1) := by decide +kernel
theorem dL_step_9 : decode cL_step 9 = .ok (.goto 9, 3) := by decide +kernel
theorem dL_step_12 : decode cL_step 12 = .ok (.astore_n 3, 1) := by decide +kernel
theorem dL_step_13 : decode cL_step 13 = .ok (.iconst 1, 1) := by decide +kernel
theorem dL_step_14 : decode cL_step 14 = .ok (.ireturn, 1) := by decide +kernel
theorem dL_step_15 : decode cL_step 15 = .ok (.astore_n 3, 1) := by decide +kernel
theorem dL_step_16 : decode cL_step 16 = .ok (.iconst 2, 1) := by decide +kernel
theorem dL_step_17 : decode cL_step 17 = .ok (.ireturn, 1) := by decide +kernel
theorem dL_step_18 : decode cL_step 18 = .ok (.iconst 0, 1) := by decide +kernel
theorem dL_step_19 : decode cL_step 19 = .ok (.ireturn, 1) := by decide +kernel
set_option maxRecDepth 20000 in
theorem ggL_force_X3_force : GoodIn wsL_force wsX3_force := goodIn_ca (goodIn_ca (goodIn_ca (goodIn_r _ [7, 8, 9, 10, 11, 12, 13, 6, 14, 15, 16, 17, 18, 19, 20, 21, 22, 23, 24, 25, 26, 27, 28, 29, 30, 31, 32, 33, 34, 35, 36, 37, 38, 39, 40, 41, 42, 43, 44, 45, 46, 47, 48, 49, 50, 51, 52, 53, 54, 55, 56, 57, 58, 59, 60, 61, 62, 63, 64, 65, 66, 67, 68, 69, 70, 71, 72, 73, 74, 75, 76, 77, 78, 79, 80, 81, 82, 83, 84, 85, 86, 87, 88, 89, 90, 91, 92, 93, 94, 95, 96, 97, 98, 99, 100, 101, 102, 103, 104, 105, 106, 107, 108, 109, 110, 111, 112, 113, 114, 115, 116, 117, 118, 119, 120, 121, 122, 123, 124, 125, 126, 127, 128, 129, 130, 131, 132, 133, 134, 135, 136, 137, 138, 139, 140] (by decide +kernel) (by decide +kernel)) (goodIn_sub (fun _ h => List.mem_cons_of_mem _ (List.mem_append_left _ (List.mem_append_left _ (List.mem_append_right _ h)))) (by decide +kernel))) (goodIn_sub (fun _ h => List.mem_cons_of_mem _ (List.mem_append_left _ (List.mem_append_right _ h))) (by decide +kernel))) (goodIn_sub (fun _ h => List.mem_cons_of_mem _ (List.mem_append_right _ h)) (by decide +kernel))
set_option maxRecDepth 20000 in
theorem gL_force_X3_force : GoodIn wsL_force (wsV RL 48 RX3 yX3_force wsX3_force) := goodIn_app (goodIn_of _ (by decide +kernel)) ggL_force_X3_force
theorem dL_force_0 : decode cL_force 0 = .ok (.aload_n 2, 1) := by decide +kernel
theorem dL_force_1 : decode cL_force 1 = .ok (.iconst 0, 1) := by decide +kernel
theorem dL_force_2 : decode cL_force 2 = .ok (.aload_n 0, 1) := by decide +kernel
theorem dL_force_3 : decode cL_force 3 = .ok (.iload_n 1, 1) := by decide +kernel
theorem dL_force_4 : decode cL_force 4 = .ok (.invokevirtual 48, 3) := by decide +kernel
theorem dL_force_7 : decode cL_force 7 = .ok (.i2l, 1) := by decide +kernel
theorem dL_force_8 : decode cL_force 8 = .ok (.lastore, 1) := by decide +kernel
theorem dL_force_9 : decode cL_force 9 = .ok (.goto 9, 3) := by decide +kernel
theorem dL_force_12 : decode cL_force 12 = .ok (.astore_n 3, 1) := by decide +kernel
theorem dL_force_13 : decode cL_force 13 = .ok (.iconst 1, 1) := by decide +kernel
theorem dL_force_14 : decode cL_force 14 = .ok (.ireturn, 1) := by decide +kernel
theorem dL_force_15 : decode cL_force 15 = .ok (.astore_n 3, 1) := by decide +kernel
theorem dL_force_16 : decode cL_force 16 = .ok (.iconst 2, 1) := by decide +kernel
theorem dL_force_17 : decode cL_force 17 = .ok (.ireturn, 1) := by decide +kernel
theorem dL_force_18 : decode cL_force 18 = .ok (.iconst 0, 1) := by decide +kernel
theorem dL_force_19 : decode cL_force 19 = .ok (.ireturn, 1) := by decide +kernel
set_option maxRecDepth 20000 in
theorem ggL_stage_X3_stage : GoodIn wsL_stage wsX3_stage := goodIn_ca (goodIn_r _ [6, 7, 8, 9, 5, 10, 11, 12, 13, 14, 15, 16, 17, 18, 19, 20, 21, 22, 23, 24, 25, 26, 27, 28, 29, 30, 31, 32, 33, 34, 35] (by decide +kernel) (by decide +kernel)) (goodIn_sub (fun _ h => List.mem_cons_of_mem _ (List.mem_append_right _ h)) (by decide +kernel))
set_option maxRecDepth 20000 in
theorem gL_stage_X3_stage : GoodIn wsL_stage (wsV RL 51 RX3 yX3_stage wsX3_stage) := goodIn_app (goodIn_of _ (by decide +kernel)) ggL_stage_X3_stage
theorem dL_stage_0 : decode cL_stage 0 = .ok (.aload_n 2, 1) := by decide +kernel
theorem dL_stage_1 : decode cL_stage 1 = .ok (.iconst 0, 1) := by decide +kernel
theorem dL_stage_2 : decode cL_stage 2 = .ok (.aload_n 0, 1) := by decide +kernel
theorem dL_stage_3 : decode cL_stage 3 = .ok (.iload_n 1, 1) := by decide +kernel
theorem dL_stage_4 : decode cL_stage 4 = .ok (.invokevirtual 51, 3) := by decide +kernel
theorem dL_stage_7 : decode cL_stage 7 = .ok (.i2l, 1) := by decide +kernel
theorem dL_stage_8 : decode cL_stage 8 = .ok (.lastore, 1) := by decide +kernel
theorem dL_stage_9 : decode cL_stage 9 = .ok (.goto 6, 3) := by decide +kernel
theorem dL_stage_12 : decode cL_stage 12 = .ok (.astore_n 3, 1) := by decide +kernel
theorem dL_stage_13 : decode cL_stage 13 = .ok (.iconst 1, 1) := by decide +kernel
theorem dL_stage_14 : decode cL_stage 14 = .ok (.ireturn, 1) := by decide +kernel
theorem dL_stage_15 : decode cL_stage 15 = .ok (.iconst 0, 1) := by decide +kernel
theorem dL_stage_16 : decode cL_stage 16 = .ok (.ireturn, 1) := by decide +kernel
set_option maxRecDepth 20000 in
theorem ggL_due_X3_due : GoodIn wsL_due wsX3_due := goodIn_ca (goodIn_ca (goodIn_r _ [7, 8, 9, 10, 6, 11, 12, 13, 14, 15, 16, 17, 18, 19, 20, 21, 22, 23, 24, 25, 26, 27, 28, 29, 30, 31, 32, 33, 34, 35, 36, 37, 38, 39, 40, 41, 42, 43, 44, 45, 46, 47, 48, 49] (by decide +kernel) (by decide +kernel)) (goodIn_sub (fun _ h => List.mem_cons_of_mem _ (List.mem_append_left _ (List.mem_append_right _ h))) (by decide +kernel))) (goodIn_sub (fun _ h => List.mem_cons_of_mem _ (List.mem_append_right _ h)) (by decide +kernel))
set_option maxRecDepth 20000 in
theorem gL_due_X3_due : GoodIn wsL_due (wsV RL 54 RX3 yX3_due wsX3_due) := goodIn_app (goodIn_of _ (by decide +kernel)) ggL_due_X3_due
theorem dL_due_0 : decode cL_due 0 = .ok (.aload_n 2, 1) := by decide +kernel
theorem dL_due_1 : decode cL_due 1 = .ok (.iconst 0, 1) := by decide +kernel
theorem dL_due_2 : decode cL_due 2 = .ok (.aload_n 0, 1) := by decide +kernel
theorem dL_due_3 : decode cL_due 3 = .ok (.iload_n 1, 1) := by decide +kernel
theorem dL_due_4 : decode cL_due 4 = .ok (.invokevirtual 54, 3) := by decide +kernel
theorem dL_due_7 : decode cL_due 7 = .ok (.i2l, 1) := by decide +kernel
theorem dL_due_8 : decode cL_due 8 = .ok (.lastore, 1) := by decide +kernel
theorem dL_due_9 : decode cL_due 9 = .ok (.goto 9, 3) := by decide +kernel
theorem dL_due_12 : decode cL_due 12 = .ok (.astore_n 3, 1) := by decide +kernel
theorem dL_due_13 : decode cL_due 13 = .ok (.iconst 1, 1) := by decide +kernel
theorem dL_due_14 : decode cL_due 14 = .ok (.ireturn, 1) := by decide +kernel
theorem dL_due_15 : decode cL_due 15 = .ok (.astore_n 3, 1) := by decide +kernel
theorem dL_due_16 : decode cL_due 16 = .ok (.iconst 2, 1) := by decide +kernel
theorem dL_due_17 : decode cL_due 17 = .ok (.ireturn, 1) := by decide +kernel
theorem dL_due_18 : decode cL_due 18 = .ok (.iconst 0, 1) := by decide +kernel
theorem dL_due_19 : decode cL_due 19 = .ok (.ireturn, 1) := by decide +kernel
set_option maxRecDepth 20000 in
theorem ggL_late_X3_late : GoodIn wsL_late wsX3_late := goodIn_ca (goodIn_r _ [6, 7, 8, 9, 5, 10, 11, 12, 13, 14, 15, 16, 17, 18, 19, 20, 21, 22, 23, 24, 25, 26, 27, 28, 29, 30, 31, 32, 33, 34, 35] (by decide +kernel) (by decide +kernel)) (goodIn_sub (fun _ h => List.mem_cons_of_mem _ (List.mem_append_right _ h)) (by decide +kernel))
set_option maxRecDepth 20000 in
theorem gL_late_X3_late : GoodIn wsL_late (wsV RL 57 RX3 yX3_late wsX3_late) := goodIn_app (goodIn_of _ (by decide +kernel)) ggL_late_X3_late
theorem dL_late_0 : decode cL_late 0 = .ok (.aload_n 2, 1) := by decide +kernel
theorem dL_late_1 : decode cL_late 1 = .ok (.iconst 0, 1) := by decide +kernel
theorem dL_late_2 : decode cL_late 2 = .ok (.aload_n 0, 1) := by decide +kernel
theorem dL_late_3 : decode cL_late 3 = .ok (.iload_n 1, 1) := by decide +kernel
theorem dL_late_4 : decode cL_late 4 = .ok (.invokevirtual 57, 3) := by decide +kernel
theorem dL_late_7 : decode cL_late 7 = .ok (.i2l, 1) := by decide +kernel
theorem dL_late_8 : decode cL_late 8 = .ok (.lastore, 1) := by decide +kernel
theorem dL_late_9 : decode cL_late 9 = .ok (.goto 6, 3) := by decide +kernel
theorem dL_late_12 : decode cL_late 12 = .ok (.astore_n 3, 1) := by decide +kernel
theorem dL_late_13 : decode cL_late 13 = .ok (.iconst 1, 1) := by decide +kernel
theorem dL_late_14 : decode cL_late 14 = .ok (.ireturn, 1) := by decide +kernel
theorem dL_late_15 : decode cL_late 15 = .ok (.iconst 0, 1) := by decide +kernel
theorem dL_late_16 : decode cL_late 16 = .ok (.ireturn, 1) := by decide +kernel
set_option maxRecDepth 20000 in
theorem ggL_money_X3_money : GoodIn wsL_money wsX3_money := goodIn_ca (goodIn_r _ [6, 7, 8, 9, 5, 10, 11, 12, 13, 14, 15, 16, 17, 18, 19, 20, 21, 22, 23, 24, 25, 26, 27, 28, 29, 30, 31, 32, 33, 34, 35] (by decide +kernel) (by decide +kernel)) (goodIn_sub (fun _ h => List.mem_cons_of_mem _ (List.mem_append_right _ h)) (by decide +kernel))
set_option maxRecDepth 20000 in
theorem gL_money_X3_money : GoodIn wsL_money (wsV RL 60 RX3 yX3_money wsX3_money) := goodIn_app (goodIn_of _ (by decide +kernel)) ggL_money_X3_money
theorem dL_money_0 : decode cL_money 0 = .ok (.aload_n 2, 1) := by decide +kernel
theorem dL_money_1 : decode cL_money 1 = .ok (.iconst 0, 1) := by decide +kernel
theorem dL_money_2 : decode cL_money 2 = .ok (.aload_n 0, 1) := by decide +kernel
theorem dL_money_3 : decode cL_money 3 = .ok (.iload_n 1, 1) := by decide +kernel
theorem dL_money_4 : decode cL_money 4 = .ok (.invokevirtual 60, 3) := by decide +kernel
theorem dL_money_7 : decode cL_money 7 = .ok (.lastore, 1) := by decide +kernel
theorem dL_money_8 : decode cL_money 8 = .ok (.goto 6, 3) := by decide +kernel
theorem dL_money_11 : decode cL_money 11 = .ok (.astore_n 3, 1) := by decide +kernel
theorem dL_money_12 : decode cL_money 12 = .ok (.iconst 1, 1) := by decide +kernel
theorem dL_money_13 : decode cL_money 13 = .ok (.ireturn, 1) := by decide +kernel
theorem dL_money_14 : decode cL_money 14 = .ok (.iconst 0, 1) := by decide +kernel
theorem dL_money_15 : decode cL_money 15 = .ok (.ireturn, 1) := by decide +kernel
set_option maxRecDepth 20000 in
theorem ggL_madeGood_X3_madeGood : GoodIn wsL_madeGood wsX3_madeGood := goodIn_ca (goodIn_r _ [6, 7, 8, 9, 5, 10, 11, 12, 13, 14, 15, 16, 17, 18, 19, 20, 21, 22, 23, 24, 25, 26, 27, 28, 29, 30, 31, 32, 33, 34, 35] (by decide +kernel) (by decide +kernel)) (goodIn_sub (fun _ h => List.mem_cons_of_mem _ (List.mem_append_right _ h)) (by decide +kernel))
set_option maxRecDepth 20000 in
theorem gL_madeGood_X3_madeGood : GoodIn wsL_madeGood (wsV RL 63 RX3 yX3_madeGood wsX3_madeGood) := goodIn_app (goodIn_of _ (by decide +kernel)) ggL_madeGood_X3_madeGood
theorem dL_madeGood_0 : decode cL_madeGood 0 = .ok (.aload_n 2, 1) := by decide +kernel
theorem dL_madeGood_1 : decode cL_madeGood 1 = .ok (.iconst 0, 1) := by decide +kernel
theorem dL_madeGood_2 : decode cL_madeGood 2 = .ok (.aload_n 0, 1) := by decide +kernel
theorem dL_madeGood_3 : decode cL_madeGood 3 = .ok (.iload_n 1, 1) := by decide +kernel
theorem dL_madeGood_4 : decode cL_madeGood 4 = .ok (.invokevirtual 63, 3) := by decide +kernel
theorem dL_madeGood_7 : decode cL_madeGood 7 = .ok (.lastore, 1) := by decide +kernel
theorem dL_madeGood_8 : decode cL_madeGood 8 = .ok (.goto 6, 3) := by decide +kernel
theorem dL_madeGood_11 : decode cL_madeGood 11 = .ok (.astore_n 3, 1) := by decide +kernel
theorem dL_madeGood_12 : decode cL_madeGood 12 = .ok (.iconst 1, 1) := by decide +kernel
theorem dL_madeGood_13 : decode cL_madeGood 13 = .ok (.ireturn, 1) := by decide +kernel
theorem dL_madeGood_14 : decode cL_madeGood 14 = .ok (.iconst 0, 1) := by decide +kernel
theorem dL_madeGood_15 : decode cL_madeGood 15 = .ok (.ireturn, 1) := by decide +kernel
set_option maxRecDepth 20000 in
theorem ggL_owes_X3_owes : GoodIn wsL_owes wsX3_owes := goodIn_ca (goodIn_r _ [6, 7, 8, 9, 5, 10, 11, 12, 13, 14, 15, 16, 17, 18, 19, 20, 21, 22, 23, 24, 25, 26, 27] (by decide +kernel) (by decide +kernel)) (goodIn_sub (fun _ h => List.mem_cons_of_mem _ (List.mem_append_right _ h)) (by decide +kernel))
set_option maxRecDepth 20000 in
theorem gL_owes_X3_owes : GoodIn wsL_owes (wsV RL 66 RX3 yX3_owes wsX3_owes) := goodIn_app (goodIn_of _ (by decide +kernel)) ggL_owes_X3_owes
theorem dL_owes_0 : decode cL_owes 0 = .ok (.aload_n 3, 1) := by decide +kernel
theorem dL_owes_1 : decode cL_owes 1 = .ok (.iconst 0, 1) := by decide +kernel
theorem dL_owes_2 : decode cL_owes 2 = .ok (.aload_n 0, 1) := by decide +kernel
theorem dL_owes_3 : decode cL_owes 3 = .ok (.iload_n 1, 1) := by decide +kernel
theorem dL_owes_4 : decode cL_owes 4 = .ok (.iload_n 2, 1) := by decide +kernel
theorem dL_owes_5 : decode cL_owes 5 = .ok (.invokevirtual 66, 3) := by decide +kernel
theorem dL_owes_8 : decode cL_owes 8 = .ok (.lastore, 1) := by decide +kernel
theorem dL_owes_9 : decode cL_owes 9 = .ok (.goto 7, 3) := by decide +kernel
theorem dL_owes_12 : decode cL_owes 12 = .ok (.astore 4, 2) := by decide +kernel
theorem dL_owes_14 : decode cL_owes 14 = .ok (.iconst 1, 1) := by decide +kernel
theorem dL_owes_15 : decode cL_owes 15 = .ok (.ireturn, 1) := by decide +kernel
theorem dL_owes_16 : decode cL_owes 16 = .ok (.iconst 0, 1) := by decide +kernel
theorem dL_owes_17 : decode cL_owes 17 = .ok (.ireturn, 1) := by decide +kernel
set_option maxRecDepth 20000 in
theorem ggL_losses_X3_losses : GoodIn wsL_losses wsX3_losses := goodIn_ca (goodIn_r _ [6, 7, 8, 9, 5, 10, 11, 12, 13, 14, 15, 16, 17, 18, 19, 20, 21, 22, 23, 24, 25, 26, 27] (by decide +kernel) (by decide +kernel)) (goodIn_sub (fun _ h => List.mem_cons_of_mem _ (List.mem_append_right _ h)) (by decide +kernel))
set_option maxRecDepth 20000 in
theorem gL_losses_X3_losses : GoodIn wsL_losses (wsV RL 70 RX3 yX3_losses wsX3_losses) := goodIn_app (goodIn_of _ (by decide +kernel)) ggL_losses_X3_losses
theorem dL_losses_0 : decode cL_losses 0 = .ok (.aload_n 2, 1) := by decide +kernel
theorem dL_losses_1 : decode cL_losses 1 = .ok (.iconst 0, 1) := by decide +kernel
theorem dL_losses_2 : decode cL_losses 2 = .ok (.aload_n 0, 1) := by decide +kernel
theorem dL_losses_3 : decode cL_losses 3 = .ok (.iload_n 1, 1) := by decide +kernel
theorem dL_losses_4 : decode cL_losses 4 = .ok (.invokevirtual 70, 3) := by decide +kernel
theorem dL_losses_7 : decode cL_losses 7 = .ok (.lastore, 1) := by decide +kernel
theorem dL_losses_8 : decode cL_losses 8 = .ok (.goto 6, 3) := by decide +kernel
theorem dL_losses_11 : decode cL_losses 11 = .ok (.astore_n 3, 1) := by decide +kernel
theorem dL_losses_12 : decode cL_losses 12 = .ok (.iconst 1, 1) := by decide +kernel
theorem dL_losses_13 : decode cL_losses 13 = .ok (.ireturn, 1) := by decide +kernel
theorem dL_losses_14 : decode cL_losses 14 = .ok (.iconst 0, 1) := by decide +kernel
theorem dL_losses_15 : decode cL_losses 15 = .ok (.ireturn, 1) := by decide +kernel
set_option maxRecDepth 20000 in
theorem ggL_law_X3_init : GoodIn wsL_law wsX3_init := goodIn_r _ [9, 10, 11, 12, 13, 14, 15, 6, 16, 17, 18, 19, 20, 21, 22, 23, 24, 25, 26, 27, 28, 29, 30, 31, 32, 33, 34, 35, 460, 461, 462, 463, 464, 465, 466, 467, 468, 492, 493, 494] (by decide +kernel) (by decide +kernel)
set_option maxRecDepth 20000 in
theorem gL_law_X3_init : GoodIn wsL_law (wsX3_init) := ggL_law_X3_init
set_option maxRecDepth 20000 in
theorem ggL_law_X4_init : GoodIn wsL_law wsX4_init := goodIn_r _ [38, 39, 11, 12, 32, 40, 41, 42, 43, 44, 6, 45, 46, 47, 48, 49, 50, 51, 52, 53, 54, 55, 56, 57, 58, 59, 469, 470, 471, 472, 473, 474, 475, 476, 477, 478, 479, 480, 481, 482, 483, 484, 485, 486, 487, 488, 489, 490, 491] (by decide +kernel) (by decide +kernel)
set_option maxRecDepth 20000 in
theorem gL_law_X4_init : GoodIn wsL_law (wsX4_init) := ggL_law_X4_init
set_option maxRecDepth 20000 in
theorem ggL_law_L_pass : GoodIn wsL_law wsL_pass := goodIn_ca (goodIn_ca (goodIn_r _ [63, 64, 65, 66, 67, 68, 2, 69, 70, 71, 72, 73, 22, 74, 75, 76, 460, 461, 462, 463, 464, 465, 466, 467, 468] (by decide +kernel) (by decide +kernel)) (goodIn_sub (fun _ h => List.mem_append_left _ (List.mem_append_left _ (List.mem_append_right _ h))) (by decide +kernel))) (goodIn_sub (fun _ h => List.mem_append_left _ (List.mem_append_right _ h)) (by decide +kernel))
set_option maxRecDepth 20000 in
theorem gL_law_L_pass : GoodIn wsL_law (va_wsS RL 77 yL_pass wsL_pass) := goodIn_app (goodIn_of _ (by decide +kernel)) ggL_law_L_pass
set_option maxRecDepth 20000 in
theorem ggL_law_X4_pass : GoodIn wsL_law wsX4_pass := goodIn_r _ [80, 81, 82, 40, 83, 84, 5, 85, 469, 470, 471, 472, 473, 474, 475, 476, 477, 478, 479, 480, 481, 482, 483, 484, 485, 486, 487, 488, 489, 490, 491] (by decide +kernel) (by decide +kernel)
set_option maxRecDepth 20000 in
theorem gL_law_X4_pass : GoodIn wsL_law (wsV RL 82 RX4 yX4_pass wsX4_pass) := goodIn_app (goodIn_of _ (by decide +kernel)) ggL_law_X4_pass
set_option maxRecDepth 20000 in
theorem ggL_law_X4_thrown : GoodIn wsL_law wsX4_thrown := goodIn_r _ [89, 82, 469, 470, 471, 472, 473, 474, 475, 476, 477, 478, 479, 480, 481, 482, 483, 484, 485, 486, 487, 488, 489, 490, 491] (by decide +kernel) (by decide +kernel)
set_option maxRecDepth 20000 in
theorem gL_law_X4_thrown : GoodIn wsL_law (wsV RL 83 RX4 yX4_thrown wsX4_thrown) := goodIn_app (goodIn_of _ (by decide +kernel)) ggL_law_X4_thrown
set_option maxRecDepth 20000 in
theorem ggL_law_X3_today : GoodIn wsL_law wsX3_today := goodIn_r _ [93, 22, 460, 461, 462, 463, 464, 465, 466, 467, 468] (by decide +kernel) (by decide +kernel)
set_option maxRecDepth 20000 in
theorem gL_law_X3_today : GoodIn wsL_law (wsV RL 87 RX3 yX3_today wsX3_today) := goodIn_app (goodIn_of _ (by decide +kernel)) ggL_law_X3_today
set_option maxRecDepth 20000 in
theorem ggL_law_X4_today : GoodIn wsL_law wsX4_today := goodIn_r _ [97, 82, 81, 469, 470, 471, 472, 473, 474, 475, 476, 477, 478, 479, 480, 481, 482, 483, 484, 485, 486, 487, 488, 489, 490, 491] (by decide +kernel) (by decide +kernel)
set_option maxRecDepth 20000 in
theorem gL_law_X4_today : GoodIn wsL_law (wsV RL 90 RX4 yX4_today wsX4_today) := goodIn_app (goodIn_of _ (by decide +kernel)) ggL_law_X4_today
set_option maxRecDepth 20000 in
theorem ggL_law_L_setPrice : GoodIn wsL_law wsL_setPrice := goodIn_ca (goodIn_ca (goodIn_r _ [100, 64, 65, 101, 102, 103, 2, 104, 72, 73, 22, 105, 106, 107, 108, 70, 71, 14, 109, 110, 111, 74, 75, 76, 112, 113, 114, 115, 116, 117, 27, 118, 35, 33, 34, 119, 120, 121, 122, 460, 461, 462, 463, 464, 465, 466, 467, 468, 492, 493, 494] (by decide +kernel) (by decide +kernel)) (goodIn_sub (fun _ h => List.mem_append_left _ (List.mem_append_right _ h)) (by decide +kernel))) (goodIn_sub (fun _ h => List.mem_append_left _ (List.mem_append_left _ (List.mem_append_right _ h))) (by decide +kernel))
set_option maxRecDepth 20000 in
theorem gL_law_L_setPrice : GoodIn wsL_law (va_wsS RL 91 yL_setPrice wsL_setPrice) := goodIn_app (goodIn_of _ (by decide +kernel)) ggL_law_L_setPrice
set_option maxRecDepth 20000 in
theorem ggL_law_X4_setPrice : GoodIn wsL_law wsX4_setPrice := goodIn_r _ [126, 82, 41, 42, 81, 40, 127, 128, 5, 129, 83, 84, 85, 130, 131, 132, 133, 469, 470, 471, 472, 473, 474, 475, 476, 477, 478, 479, 480, 481, 482, 483, 484, 485, 486, 487, 488, 489, 490, 491] (by decide +kernel) (by decide +kernel)
set_option maxRecDepth 20000 in
theorem gL_law_X4_setPrice : GoodIn wsL_law (wsV RL 94 RX4 yX4_setPrice wsX4_setPrice) := goodIn_app (goodIn_of _ (by decide +kernel)) ggL_law_X4_setPrice
set_option maxRecDepth 20000 in
theorem ggL_law_L_price : GoodIn wsL_law wsL_price := goodIn_ca (goodIn_r _ [136, 64, 137, 138, 139, 2, 140, 70, 71, 22, 105, 106, 107, 108, 14, 109, 110, 111, 74, 75, 76, 115, 116, 117, 27, 118, 35, 33, 34, 460, 461, 462, 463, 464, 465, 466, 467, 468, 492, 493, 494] (by decide +kernel) (by decide +kernel)) (goodIn_sub (fun _ h => List.mem_append_left _ (List.mem_append_left _ (List.mem_append_right _ h))) (by decide +kernel))
set_option maxRecDepth 20000 in
theorem gL_law_L_price : GoodIn wsL_law (va_wsS RL 95 yL_price wsL_price) := goodIn_app (goodIn_of _ (by decide +kernel)) ggL_law_L_price
set_option maxRecDepth 20000 in
theorem ggL_law_X4_price : GoodIn wsL_law wsX4_price := goodIn_r _ [144, 81, 82, 127, 128, 5, 129, 83, 84, 85, 130, 131, 132, 133, 40, 469, 470, 471, 472, 473, 474, 475, 476, 477, 478, 479, 480, 481, 482, 483, 484, 485, 486, 487, 488, 489, 490, 491] (by decide +kernel) (by decide +kernel)
set_option maxRecDepth 20000 in
theorem gL_law_X4_price : GoodIn wsL_law (wsV RL 97 RX4 yX4_price wsX4_price) := goodIn_app (goodIn_of _ (by decide +kernel)) ggL_law_X4_price
set_option maxRecDepth 20000 in
theorem ggL_law_L_setDefault : GoodIn wsL_law wsL_setDefault := goodIn_ca (goodIn_r _ [147, 64, 148, 149, 150, 2, 151, 23, 112, 113, 114, 70, 71, 74, 75, 76, 460, 461, 462, 463, 464, 465, 466, 467, 468] (by decide +kernel) (by decide +kernel)) (goodIn_sub (fun _ h => List.mem_append_left _ (List.mem_append_left _ (List.mem_append_right _ h))) (by decide +kernel))
set_option maxRecDepth 20000 in
theorem gL_law_L_setDefault : GoodIn wsL_law (va_wsS RL 98 yL_setDefault wsL_setDefault) := goodIn_app (goodIn_of _ (by decide +kernel)) ggL_law_L_setDefault
set_option maxRecDepth 20000 in
theorem ggL_law_X4_setDefault : GoodIn wsL_law wsX4_setDefault := goodIn_r _ [155, 82, 43, 83, 84, 5, 85, 469, 470, 471, 472, 473, 474, 475, 476, 477, 478, 479, 480, 481, 482, 483, 484, 485, 486, 487, 488, 489, 490, 491] (by decide +kernel) (by decide +kernel)
set_option maxRecDepth 20000 in
theorem gL_law_X4_setDefault : GoodIn wsL_law (wsV RL 100 RX4 yX4_setDefault wsX4_setDefault) := goodIn_app (goodIn_of _ (by decide +kernel)) ggL_law_X4_setDefault
set_option maxRecDepth 20000 in
theorem ggL_law_L_begin : GoodIn wsL_law wsL_begin := goodIn_ca (goodIn_ca (goodIn_r _ [158, 64, 65, 159, 160, 161, 2, 162, 70, 71, 72, 73, 163, 24, 19, 18, 164, 165, 22, 105, 106, 107, 108, 14, 109, 110, 111, 74, 75, 76, 115, 116, 117, 27, 118, 35, 33, 34, 166, 167, 168, 169, 170, 171, 172, 173, 11, 12, 174, 175, 176, 460, 461, 462, 463, 464, 465, 466, 467, 468, 495, 496, 497, 492, 493, 494] (by decide +kernel) (by decide +kernel)) (goodIn_sub (fun _ h => List.mem_append_left _ (List.mem_append_left _ (List.mem_append_right _ h))) (by decide +kernel))) (goodIn_sub (fun _ h => List.mem_append_left _ (List.mem_append_right _ h)) (by decide +kernel))
set_option maxRecDepth 20000 in
theorem gL_law_L_begin : GoodIn wsL_law (va_wsS RL 101 yL_begin wsL_begin) := goodIn_app (goodIn_of _ (by decide +kernel)) ggL_law_L_begin
set_option maxRecDepth 20000 in
theorem ggL_law_X4_begin : GoodIn wsL_law wsX4_begin := goodIn_r _ [180, 181, 182, 82, 44, 45, 81, 127, 128, 5, 129, 83, 84, 85, 130, 131, 132, 133, 40, 183, 184, 185, 186, 469, 470, 471, 472, 473, 474, 475, 476, 477, 478, 479, 480, 481, 482, 483, 484, 485, 486, 487, 488, 489, 490, 491] (by decide +kernel) (by decide +kernel)
set_option maxRecDepth 20000 in
theorem gL_law_X4_begin : GoodIn wsL_law (wsV RL 103 RX4 yX4_begin wsX4_begin) := goodIn_app (goodIn_of _ (by decide +kernel)) ggL_law_X4_begin
set_option maxRecDepth 20000 in
theorem ggL_law_L_pay : GoodIn wsL_law wsL_pay := goodIn_ca (goodIn_ca (goodIn_ca (goodIn_r _ [189, 190, 64, 65, 191, 192, 193, 2, 194, 70, 71, 72, 73, 163, 195, 196, 197, 198, 199, 200, 19, 74, 75, 76, 201, 202, 203, 204, 22, 105, 106, 107, 108, 14, 109, 110, 111, 115, 116, 117, 27, 118, 35, 33, 34, 166, 167, 168, 169, 205, 206, 207, 208, 495, 496, 497, 460, 461, 462, 463, 464, 465, 466, 467, 468, 492, 493, 494] (by decide +kernel) (by decide +kernel)) (goodIn_sub (fun _ h => List.mem_append_left _ (List.mem_append_left _ (List.mem_append_right _ h))) (by decide +kernel))) (goodIn_sub (fun _ h => List.mem_append_left _ (List.mem_append_right _ h)) (by decide +kernel))) (goodIn_sub (fun _ h => List.mem_append_right _ h) (by decide +kernel))
set_option maxRecDepth 20000 in
theorem gL_law_L_pay : GoodIn wsL_law (va_wsS RL 104 yL_pay wsL_pay) := goodIn_app (goodIn_of _ (by decide +kernel)) ggL_law_L_pay
set_option maxRecDepth 20000 in
theorem ggL_law_X4_pay : GoodIn wsL_law wsX4_pay := goodIn_r _ [212, 181, 82, 44, 81, 47, 45, 213, 214, 215, 216, 5, 217, 182, 83, 84, 85, 130, 131, 132, 133, 40, 183, 184, 185, 186, 469, 470, 471, 472, 473, 474, 475, 476, 477, 478, 479, 480, 481, 482, 483, 484, 485, 486, 487, 488, 489, 490, 491] (by decide +kernel) (by decide +kernel)
set_option maxRecDepth 20000 in
theorem gL_law_X4_pay : GoodIn wsL_law (wsV RL 106 RX4 yX4_pay wsX4_pay) := goodIn_app (goodIn_of _ (by decide +kernel)) ggL_law_X4_pay
set_option maxRecDepth 20000 in
theorem ggL_law_L_units : GoodIn wsL_law wsL_units := goodIn_ca (goodIn_r _ [220, 190, 221, 222, 223, 2, 224, 195, 196, 197, 198, 199, 200, 19, 74, 75, 76, 495, 496, 497, 460, 461, 462, 463, 464, 465, 466, 467, 468] (by decide +kernel) (by decide +kernel)) (goodIn_sub (fun _ h => List.mem_append_right _ h) (by decide +kernel))
set_option maxRecDepth 20000 in
theorem gL_law_L_units : GoodIn wsL_law (va_wsS RL 107 yL_units wsL_units) := goodIn_app (goodIn_of _ (by decide +kernel)) ggL_law_L_units
set_option maxRecDepth 20000 in
theorem ggL_law_X4_units : GoodIn wsL_law wsX4_units := goodIn_r _ [228, 82, 45, 214, 215, 216, 5, 217, 182, 83, 84, 85, 469, 470, 471, 472, 473, 474, 475, 476, 477, 478, 479, 480, 481, 482, 483, 484, 485, 486, 487, 488, 489, 490, 491] (by decide +kernel) (by decide +kernel)
set_option maxRecDepth 20000 in
theorem gL_law_X4_units : GoodIn wsL_law (wsV RL 109 RX4 yX4_units wsX4_units) := goodIn_app (goodIn_of _ (by decide +kernel)) ggL_law_X4_units
set_option maxRecDepth 20000 in
theorem ggL_law_L_provider : GoodIn wsL_law wsL_provider := goodIn_ca (goodIn_r _ [231, 190, 232, 233, 234, 2, 235, 195, 196, 197, 198, 199, 200, 19, 74, 75, 76, 495, 496, 497, 460, 461, 462, 463, 464, 465, 466, 467, 468] (by decide +kernel) (by decide +kernel)) (goodIn_sub (fun _ h => List.mem_append_right _ h) (by decide +kernel))
set_option maxRecDepth 20000 in
theorem gL_law_L_provider : GoodIn wsL_law (va_wsS RL 110 yL_provider wsL_provider) := goodIn_app (goodIn_of _ (by decide +kernel)) ggL_law_L_provider
set_option maxRecDepth 20000 in
theorem ggL_law_X4_provider : GoodIn wsL_law wsX4_provider := goodIn_r _ [239, 82, 44, 214, 215, 216, 5, 217, 182, 83, 84, 85, 469, 470, 471, 472, 473, 474, 475, 476, 477, 478, 479, 480, 481, 482, 483, 484, 485, 486, 487, 488, 489, 490, 491] (by decide +kernel) (by decide +kernel)
set_option maxRecDepth 20000 in
theorem gL_law_X4_provider : GoodIn wsL_law (wsV RL 112 RX4 yX4_provider wsX4_provider) := goodIn_app (goodIn_of _ (by decide +kernel)) ggL_law_X4_provider
set_option maxRecDepth 20000 in
theorem ggL_law_L_order : GoodIn wsL_law wsL_order := goodIn_ca (goodIn_ca (goodIn_ca (goodIn_r _ [242, 190, 64, 65, 243, 244, 245, 2, 246, 70, 71, 72, 73, 25, 21, 20, 247, 248, 22, 195, 196, 197, 198, 199, 200, 19, 74, 75, 76, 249, 250, 251, 109, 110, 111, 252, 253, 254, 255, 11, 12, 256, 257, 258, 259, 260, 261, 262, 263, 264, 265, 495, 496, 497, 460, 461, 462, 463, 464, 465, 466, 467, 468, 498, 499, 500, 501, 502, 503, 504, 505, 506, 507] (by decide +kernel) (by decide +kernel)) (goodIn_sub (fun _ h => List.mem_append_left _ (List.mem_append_left _ (List.mem_append_right _ h))) (by decide +kernel))) (goodIn_sub (fun _ h => List.mem_append_left _ (List.mem_append_right _ h)) (by decide +kernel))) (goodIn_sub (fun _ h => List.mem_append_right _ h) (by decide +kernel))
set_option maxRecDepth 20000 in
theorem gL_law_L_order : GoodIn wsL_law (va_wsS RL 113 yL_order wsL_order) := goodIn_app (goodIn_of _ (by decide +kernel)) ggL_law_L_order
set_option maxRecDepth 20000 in
theorem ggL_law_X4_order : GoodIn wsL_law wsX4_order := goodIn_r _ [269, 82, 44, 47, 270, 48, 49, 51, 81, 214, 215, 216, 5, 217, 182, 83, 84, 85, 127, 128, 129, 469, 470, 471, 472, 473, 474, 475, 476, 477, 478, 479, 480, 481, 482, 483, 484, 485, 486, 487, 488, 489, 490, 491] (by decide +kernel) (by decide +kernel)
set_option maxRecDepth 20000 in
theorem gL_law_X4_order : GoodIn wsL_law (wsV RL 115 RX4 yX4_order wsX4_order) := goodIn_app (goodIn_of _ (by decide +kernel)) ggL_law_X4_order
set_option maxRecDepth 20000 in
theorem ggL_law_L_step : GoodIn wsL_law wsL_step := goodIn_ca (goodIn_ca (goodIn_ca (goodIn_r _ [273, 190, 65, 274, 275, 276, 2, 277, 278, 279, 280, 281, 72, 73, 282, 283, 284, 285, 199, 200, 21, 74, 75, 76, 286, 287, 288, 289, 22, 290, 291, 292, 248, 293, 294, 295, 296, 297, 298, 299, 300, 301, 256, 265, 302, 303, 304, 305, 23, 201, 202, 203, 204, 105, 106, 107, 108, 70, 71, 14, 109, 110, 111, 115, 116, 117, 27, 118, 35, 33, 34, 306, 307, 308, 169, 309, 310, 311, 312, 313, 314, 315, 166, 167, 168, 316, 317, 318, 319, 205, 206, 207, 208, 320, 321, 322, 323, 324, 325, 326, 16, 17, 327, 328, 329, 165, 330, 175, 176, 174, 331, 332, 333, 334, 258, 257, 498, 499, 500, 501, 502, 503, 504, 505, 506, 507, 460, 461, 462, 463, 464, 465, 466, 467, 468, 495, 496, 497, 492, 493, 494] (by decide +kernel) (by decide +kernel)) (goodIn_sub (fun _ h => List.mem_append_left _ (List.mem_append_right _ h)) (by decide +kernel))) (goodIn_sub (fun _ h => List.mem_append_right _ h) (by decide +kernel))) (goodIn_sub (fun _ h => List.mem_append_left _ (List.mem_append_left _ (List.mem_append_right _ h))) (by decide +kernel))
set_option maxRecDepth 20000 in
theorem gL_law_L_step : GoodIn wsL_law (va_wsS RL 116 yL_step wsL_step) := goodIn_app (goodIn_of _ (by decide +kernel)) ggL_law_L_step
set_option maxRecDepth 20000 in
theorem ggL_law_X4_step : GoodIn wsL_law wsX4_step := goodIn_r _ [338, 82, 50, 49, 81, 339, 340, 341, 5, 342, 270, 83, 84, 85, 130, 131, 132, 133, 40, 343, 344, 345, 346, 347, 348, 349, 350, 51, 351, 352, 353, 354, 56, 213, 183, 184, 185, 186, 355, 356, 357, 358, 54, 44, 48, 55, 52, 53, 359, 360, 361, 362, 43, 45, 363, 364, 365, 366, 58, 59, 57, 47, 469, 470, 471, 472, 473, 474, 475, 476, 477, 478, 479, 480, 481, 482, 483, 484, 485, 486, 487, 488, 489, 490, 491] (by decide +kernel) (by decide +kernel)
set_option maxRecDepth 20000 in
theorem gL_law_X4_step : GoodIn wsL_law (wsV RL 118 RX4 yX4_step wsX4_step) := goodIn_app (goodIn_of _ (by decide +kernel)) ggL_law_X4_step
set_option maxRecDepth 20000 in
theorem ggL_law_L_force : GoodIn wsL_law wsL_force := goodIn_ca (goodIn_ca (goodIn_ca (goodIn_r _ [369, 190, 65, 370, 371, 372, 2, 373, 72, 73, 22, 278, 279, 280, 281, 282, 283, 284, 285, 199, 200, 21, 74, 75, 76, 290, 291, 292, 248, 293, 294, 295, 296, 297, 298, 299, 300, 301, 256, 265, 286, 287, 288, 289, 302, 303, 304, 305, 23, 201, 202, 203, 204, 105, 106, 107, 108, 70, 71, 14, 109, 110, 111, 115, 116, 117, 27, 118, 35, 33, 34, 306, 307, 308, 169, 309, 310, 311, 312, 313, 314, 315, 166, 167, 168, 316, 317, 318, 319, 205, 206, 207, 208, 320, 321, 322, 323, 324, 325, 326, 16, 17, 327, 328, 329, 165, 330, 175, 176, 174, 331, 332, 333, 334, 258, 257, 460, 461, 462, 463, 464, 465, 466, 467, 468, 498, 499, 500, 501, 502, 503, 504, 505, 506, 507, 495, 496, 497, 492, 493, 494] (by decide +kernel) (by decide +kernel)) (goodIn_sub (fun _ h => List.mem_append_left _ (List.mem_append_right _ h)) (by decide +kernel))) (goodIn_sub (fun _ h => List.mem_append_right _ h) (by decide +kernel))) (goodIn_sub (fun _ h => List.mem_append_left _ (List.mem_append_left _ (List.mem_append_right _ h))) (by decide +kernel))
set_option maxRecDepth 20000 in
theorem gL_law_L_force : GoodIn wsL_law (va_wsS RL 119 yL_force wsL_force) := goodIn_app (goodIn_of _ (by decide +kernel)) ggL_law_L_force
set_option maxRecDepth 20000 in
theorem ggL_law_X4_force : GoodIn wsL_law wsX4_force := goodIn_r _ [377, 82, 50, 43, 339, 340, 341, 5, 342, 270, 83, 84, 85, 343, 344, 345, 346, 81, 347, 348, 349, 350, 51, 351, 352, 353, 354, 56, 213, 183, 184, 185, 186, 355, 356, 357, 358, 54, 44, 48, 55, 52, 53, 49, 130, 131, 132, 133, 40, 359, 360, 361, 362, 45, 363, 364, 365, 366, 58, 59, 57, 47, 469, 470, 471, 472, 473, 474, 475, 476, 477, 478, 479, 480, 481, 482, 483, 484, 485, 486, 487, 488, 489, 490, 491] (by decide +kernel) (by decide +kernel)
set_option maxRecDepth 20000 in
theorem gL_law_X4_force : GoodIn wsL_law (wsV RL 121 RX4 yX4_force wsX4_force) := goodIn_app (goodIn_of _ (by decide +kernel)) ggL_law_X4_force
set_option maxRecDepth 20000 in
theorem ggL_law_L_stage : GoodIn wsL_law wsL_stage := goodIn_ca (goodIn_r _ [380, 190, 381, 382, 383, 2, 384, 282, 283, 284, 285, 199, 200, 21, 74, 75, 76, 498, 499, 500, 501, 502, 503, 504, 505, 506, 507, 460, 461, 462, 463, 464, 465, 466, 467, 468] (by decide +kernel) (by decide +kernel)) (goodIn_sub (fun _ h => List.mem_append_right _ h) (by decide +kernel))
set_option maxRecDepth 20000 in
theorem gL_law_L_stage : GoodIn wsL_law (va_wsS RL 122 yL_stage wsL_stage) := goodIn_app (goodIn_of _ (by decide +kernel)) ggL_law_L_stage
set_option maxRecDepth 20000 in
theorem ggL_law_X4_stage : GoodIn wsL_law wsX4_stage := goodIn_r _ [388, 50, 389, 390, 391, 5, 392, 82, 339, 340, 341, 342, 270, 83, 84, 85, 469, 470, 471, 472, 473, 474, 475, 476, 477, 478, 479, 480, 481, 482, 483, 484, 485, 486, 487, 488, 489, 490, 491] (by decide +kernel) (by decide +kernel)
set_option maxRecDepth 20000 in
theorem gL_law_X4_stage : GoodIn wsL_law (wsV RL 124 RX4 yX4_stage wsX4_stage) := goodIn_app (goodIn_of _ (by decide +kernel)) ggL_law_X4_stage
set_option maxRecDepth 20000 in
theorem ggL_law_L_due : GoodIn wsL_law wsL_due := goodIn_ca (goodIn_ca (goodIn_r _ [395, 190, 65, 396, 397, 398, 2, 399, 278, 279, 280, 281, 72, 73, 282, 283, 284, 285, 199, 200, 21, 74, 75, 76, 400, 299, 300, 248, 301, 256, 265, 498, 499, 500, 501, 502, 503, 504, 505, 506, 507, 460, 461, 462, 463, 464, 465, 466, 467, 468] (by decide +kernel) (by decide +kernel)) (goodIn_sub (fun _ h => List.mem_append_left _ (List.mem_append_right _ h)) (by decide +kernel))) (goodIn_sub (fun _ h => List.mem_append_right _ h) (by decide +kernel))
set_option maxRecDepth 20000 in
theorem gL_law_L_due : GoodIn wsL_law (va_wsS RL 125 yL_due wsL_due) := goodIn_app (goodIn_of _ (by decide +kernel)) ggL_law_L_due
set_option maxRecDepth 20000 in
theorem ggL_law_X4_due : GoodIn wsL_law wsX4_due := goodIn_r _ [404, 50, 82, 339, 340, 341, 5, 342, 270, 83, 84, 85, 347, 348, 349, 350, 51, 469, 470, 471, 472, 473, 474, 475, 476, 477, 478, 479, 480, 481, 482, 483, 484, 485, 486, 487, 488, 489, 490, 491] (by decide +kernel) (by decide +kernel)
set_option maxRecDepth 20000 in
theorem gL_law_X4_due : GoodIn wsL_law (wsV RL 127 RX4 yX4_due wsX4_due) := goodIn_app (goodIn_of _ (by decide +kernel)) ggL_law_X4_due
set_option maxRecDepth 20000 in
theorem ggL_law_L_late : GoodIn wsL_law wsL_late := goodIn_ca (goodIn_r _ [407, 190, 408, 409, 410, 2, 411, 282, 283, 284, 285, 199, 200, 21, 74, 75, 76, 498, 499, 500, 501, 502, 503, 504, 505, 506, 507, 460, 461, 462, 463, 464, 465, 466, 467, 468] (by decide +kernel) (by decide +kernel)) (goodIn_sub (fun _ h => List.mem_append_right _ h) (by decide +kernel))
set_option maxRecDepth 20000 in
theorem gL_law_L_late : GoodIn wsL_law (va_wsS RL 128 yL_late wsL_late) := goodIn_app (goodIn_of _ (by decide +kernel)) ggL_law_L_late
set_option maxRecDepth 20000 in
theorem ggL_law_X4_late : GoodIn wsL_law wsX4_late := goodIn_r _ [415, 54, 389, 390, 391, 5, 392, 82, 339, 340, 341, 342, 270, 83, 84, 85, 469, 470, 471, 472, 473, 474, 475, 476, 477, 478, 479, 480, 481, 482, 483, 484, 485, 486, 487, 488, 489, 490, 491] (by decide +kernel) (by decide +kernel)
set_option maxRecDepth 20000 in
theorem gL_law_X4_late : GoodIn wsL_law (wsV RL 130 RX4 yX4_late wsX4_late) := goodIn_app (goodIn_of _ (by decide +kernel)) ggL_law_X4_late
set_option maxRecDepth 20000 in
theorem ggL_law_L_money : GoodIn wsL_law wsL_money := goodIn_ca (goodIn_r _ [418, 190, 419, 420, 421, 2, 422, 282, 283, 284, 285, 199, 200, 21, 74, 75, 76, 498, 499, 500, 501, 502, 503, 504, 505, 506, 507, 460, 461, 462, 463, 464, 465, 466, 467, 468] (by decide +kernel) (by decide +kernel)) (goodIn_sub (fun _ h => List.mem_append_right _ h) (by decide +kernel))
set_option maxRecDepth 20000 in
theorem gL_law_L_money : GoodIn wsL_law (va_wsS RL 131 yL_money wsL_money) := goodIn_app (goodIn_of _ (by decide +kernel)) ggL_law_L_money
set_option maxRecDepth 20000 in
theorem ggL_law_X4_money : GoodIn wsL_law wsX4_money := goodIn_r _ [426, 56, 389, 390, 391, 5, 392, 82, 339, 340, 341, 342, 270, 83, 84, 85, 469, 470, 471, 472, 473, 474, 475, 476, 477, 478, 479, 480, 481, 482, 483, 484, 485, 486, 487, 488, 489, 490, 491] (by decide +kernel) (by decide +kernel)
set_option maxRecDepth 20000 in
theorem gL_law_X4_money : GoodIn wsL_law (wsV RL 133 RX4 yX4_money wsX4_money) := goodIn_app (goodIn_of _ (by decide +kernel)) ggL_law_X4_money
set_option maxRecDepth 20000 in
theorem ggL_law_L_madeGood : GoodIn wsL_law wsL_madeGood := goodIn_ca (goodIn_r _ [429, 190, 430, 431, 432, 2, 433, 282, 283, 284, 285, 199, 200, 21, 74, 75, 76, 498, 499, 500, 501, 502, 503, 504, 505, 506, 507, 460, 461, 462, 463, 464, 465, 466, 467, 468] (by decide +kernel) (by decide +kernel)) (goodIn_sub (fun _ h => List.mem_append_right _ h) (by decide +kernel))
set_option maxRecDepth 20000 in
theorem gL_law_L_madeGood : GoodIn wsL_law (va_wsS RL 134 yL_madeGood wsL_madeGood) := goodIn_app (goodIn_of _ (by decide +kernel)) ggL_law_L_madeGood
set_option maxRecDepth 20000 in
theorem ggL_law_X4_madeGood : GoodIn wsL_law wsX4_madeGood := goodIn_r _ [437, 57, 389, 390, 391, 5, 392, 82, 339, 340, 341, 342, 270, 83, 84, 85, 469, 470, 471, 472, 473, 474, 475, 476, 477, 478, 479, 480, 481, 482, 483, 484, 485, 486, 487, 488, 489, 490, 491] (by decide +kernel) (by decide +kernel)
set_option maxRecDepth 20000 in
theorem gL_law_X4_madeGood : GoodIn wsL_law (wsV RL 136 RX4 yX4_madeGood wsX4_madeGood) := goodIn_app (goodIn_of _ (by decide +kernel)) ggL_law_X4_madeGood
set_option maxRecDepth 20000 in
theorem ggL_law_L_owes : GoodIn wsL_law wsL_owes := goodIn_ca (goodIn_r _ [440, 64, 441, 442, 443, 2, 444, 16, 249, 250, 251, 70, 71, 109, 110, 111, 74, 75, 76, 460, 461, 462, 463, 464, 465, 466, 467, 468] (by decide +kernel) (by decide +kernel)) (goodIn_sub (fun _ h => List.mem_append_left _ (List.mem_append_left _ (List.mem_append_right _ h))) (by decide +kernel))
set_option maxRecDepth 20000 in
theorem gL_law_L_owes : GoodIn wsL_law (va_wsS RL 137 yL_owes wsL_owes) := goodIn_app (goodIn_of _ (by decide +kernel)) ggL_law_L_owes
set_option maxRecDepth 20000 in
theorem ggL_law_X4_owes : GoodIn wsL_law wsX4_owes := goodIn_r _ [448, 82, 58, 127, 128, 5, 129, 83, 84, 85, 469, 470, 471, 472, 473, 474, 475, 476, 477, 478, 479, 480, 481, 482, 483, 484, 485, 486, 487, 488, 489, 490, 491] (by decide +kernel) (by decide +kernel)
set_option maxRecDepth 20000 in
theorem gL_law_X4_owes : GoodIn wsL_law (wsV RL 139 RX4 yX4_owes wsX4_owes) := goodIn_app (goodIn_of _ (by decide +kernel)) ggL_law_X4_owes
set_option maxRecDepth 20000 in
theorem ggL_law_L_losses : GoodIn wsL_law wsL_losses := goodIn_ca (goodIn_r _ [451, 64, 452, 453, 454, 2, 455, 17, 249, 250, 251, 70, 71, 109, 110, 111, 74, 75, 76, 460, 461, 462, 463, 464, 465, 466, 467, 468] (by decide +kernel) (by decide +kernel)) (goodIn_sub (fun _ h => List.mem_append_left _ (List.mem_append_left _ (List.mem_append_right _ h))) (by decide +kernel))
set_option maxRecDepth 20000 in
theorem gL_law_L_losses : GoodIn wsL_law (va_wsS RL 140 yL_losses wsL_losses) := goodIn_app (goodIn_of _ (by decide +kernel)) ggL_law_L_losses
set_option maxRecDepth 20000 in
theorem ggL_law_X4_losses : GoodIn wsL_law wsX4_losses := goodIn_r _ [459, 82, 59, 127, 128, 5, 129, 83, 84, 85, 469, 470, 471, 472, 473, 474, 475, 476, 477, 478, 479, 480, 481, 482, 483, 484, 485, 486, 487, 488, 489, 490, 491] (by decide +kernel) (by decide +kernel)
set_option maxRecDepth 20000 in
theorem gL_law_X4_losses : GoodIn wsL_law (wsV RL 142 RX4 yX4_losses wsX4_losses) := goodIn_app (goodIn_of _ (by decide +kernel)) ggL_law_X4_losses
theorem dL_law_0 : decode cL_law 0 = .ok (.new 8, 3) := by decide +kernel
theorem dL_law_3 : decode cL_law 3 = .ok (.dup, 1) := by decide +kernel
theorem dL_law_4 : decode cL_law 4 = .ok (.invokespecial 73, 3) := by decide +kernel
theorem dL_law_7 : decode cL_law 7 = .ok (.astore_n 1, 1) := by decide +kernel
theorem dL_law_8 : decode cL_law 8 = .ok (.new 74, 3) := by decide +kernel
theorem dL_law_11 : decode cL_law 11 = .ok (.dup, 1) := by decide +kernel
theorem dL_law_12 : decode cL_law 12 = .ok (.invokespecial 76, 3) := by decide +kernel
theorem dL_law_15 : decode cL_law 15 = .ok (.astore_n 2, 1) := by decide +kernel
theorem dL_law_16 : decode cL_law 16 = .ok (.iconst 1, 1) := by decide +kernel
theorem dL_law_17 : decode cL_law 17 = .ok (.newarray .long, 2) := by decide +kernel
theorem dL_law_19 : decode cL_law 19 = .ok (.astore_n 3, 1) := by decide +kernel
theorem dL_law_20 : decode cL_law 20 = .ok (.iconst 0, 1) := by decide +kernel
theorem dL_law_21 : decode cL_law 21 = .ok (.istore 4, 2) := by decide +kernel
theorem dL_law_23 : decode cL_law 23 = .ok (.iload 4, 2) := by decide +kernel
theorem dL_law_25 : decode cL_law 25 = .ok (.aload_n 0, 1) := by decide +kernel
theorem dL_law_26 : decode cL_law 26 = .ok (.arraylength, 1) := by decide +kernel
theorem dL_law_27 : decode cL_law 27 = .ok (.iconst 3, 1) := by decide +kernel
theorem dL_law_28 : decode cL_law 28 = .ok (.isub, 1) := by decide +kernel
theorem dL_law_29 : decode cL_law 29 = .ok (.if_icmp .gt 1193, 3) := by decide +kernel
theorem dL_law_32 : decode cL_law 32 = .ok (.aload_n 0, 1) := by decide +kernel
theorem dL_law_33 : decode cL_law 33 = .ok (.iload 4, 2) := by decide +kernel
theorem dL_law_35 : decode cL_law 35 = .ok (.iaload, 1) := by decide +kernel
theorem dL_law_36 : decode cL_law 36 = .ok (.bipush 31, 2) := by decide +kernel
theorem dL_law_38 : decode cL_law 38 = .ok (.iand, 1) := by decide +kernel
theorem dL_law_39 : decode cL_law 39 = .ok (.tableswitch 1177 0 18 #[89, 145, 158, 226, 294, 350, 418, 486, 541, 597, 665, 721, 777, 833, 889, 945, 1000, 1055, 1122], 89) := by decide +kernel
theorem dL_law_128 : decode cL_law 128 = .ok (.aload_n 1, 1) := by decide +kernel
theorem dL_law_129 : decode cL_law 129 = .ok (.aload_n 0, 1) := by decide +kernel
theorem dL_law_130 : decode cL_law 130 = .ok (.iload 4, 2) := by decide +kernel
theorem dL_law_132 : decode cL_law 132 = .ok (.iconst 1, 1) := by decide +kernel
theorem dL_law_133 : decode cL_law 133 = .ok (.iadd, 1) := by decide +kernel
theorem dL_law_134 : decode cL_law 134 = .ok (.iaload, 1) := by decide +kernel
theorem dL_law_135 : decode cL_law 135 = .ok (.aload_n 3, 1) := by decide +kernel
theorem dL_law_136 : decode cL_law 136 = .ok (.invokestatic 77, 3) := by decide +kernel
theorem dL_law_139 : decode cL_law 139 = .ok (.istore 5, 2) := by decide +kernel
theorem dL_law_141 : decode cL_law 141 = .ok (.aload_n 2, 1) := by decide +kernel
theorem dL_law_142 : decode cL_law 142 = .ok (.aload_n 0, 1) := by decide +kernel
theorem dL_law_143 : decode cL_law 143 = .ok (.iload 4, 2) := by decide +kernel
theorem dL_law_145 : decode cL_law 145 = .ok (.iconst 1, 1) := by decide +kernel
theorem dL_law_146 : decode cL_law 146 = .ok (.iadd, 1) := by decide +kernel
theorem dL_law_147 : decode cL_law 147 = .ok (.iaload, 1) := by decide +kernel
theorem dL_law_148 : decode cL_law 148 = .ok (.invokevirtual 82, 3) := by decide +kernel
theorem dL_law_151 : decode cL_law 151 = .ok (.istore 6, 2) := by decide +kernel
theorem dL_law_153 : decode cL_law 153 = .ok (.aload_n 2, 1) := by decide +kernel
theorem dL_law_154 : decode cL_law 154 = .ok (.invokevirtual 83, 3) := by decide +kernel
theorem dL_law_157 : decode cL_law 157 = .ok (.iload 5, 2) := by decide +kernel
theorem dL_law_159 : decode cL_law 159 = .ok (.if_icmp .eq 5, 3) := by decide +kernel
theorem dL_law_162 : decode cL_law 162 = .ok (.iconst 0, 1) := by decide +kernel
theorem dL_law_163 : decode cL_law 163 = .ok (.ireturn, 1) := by decide +kernel
theorem dL_law_164 : decode cL_law 164 = .ok (.iload 5, 2) := by decide +kernel
theorem dL_law_166 : decode cL_law 166 = .ok (.ifCond .ne 15, 3) := by decide +kernel
theorem dL_law_169 : decode cL_law 169 = .ok (.aload_n 3, 1) := by decide +kernel
theorem dL_law_170 : decode cL_law 170 = .ok (.iconst 0, 1) := by decide +kernel
theorem dL_law_171 : decode cL_law 171 = .ok (.laload, 1) := by decide +kernel
theorem dL_law_172 : decode cL_law 172 = .ok (.iload 6, 2) := by decide +kernel
theorem dL_law_174 : decode cL_law 174 = .ok (.i2l, 1) := by decide +kernel
theorem dL_law_175 : decode cL_law 175 = .ok (.lcmp, 1) := by decide +kernel
theorem dL_law_176 : decode cL_law 176 = .ok (.ifCond .eq 5, 3) := by decide +kernel
theorem dL_law_179 : decode cL_law 179 = .ok (.iconst 0, 1) := by decide +kernel
theorem dL_law_180 : decode cL_law 180 = .ok (.ireturn, 1) := by decide +kernel
theorem dL_law_181 : decode cL_law 181 = .ok (.goto 1035, 3) := by decide +kernel
theorem dL_law_184 : decode cL_law 184 = .ok (.aload_n 1, 1) := by decide +kernel
theorem dL_law_185 : decode cL_law 185 = .ok (.invokevirtual 87, 3) := by decide +kernel
theorem dL_law_188 : decode cL_law 188 = .ok (.aload_n 2, 1) := by decide +kernel
theorem dL_law_189 : decode cL_law 189 = .ok (.invokevirtual 90, 3) := by decide +kernel
theorem dL_law_192 : decode cL_law 192 = .ok (.if_icmp .eq 1024, 3) := by decide +kernel
theorem dL_law_195 : decode cL_law 195 = .ok (.iconst 0, 1) := by decide +kernel
theorem dL_law_196 : decode cL_law 196 = .ok (.ireturn, 1) := by decide +kernel
theorem dL_law_197 : decode cL_law 197 = .ok (.aload_n 1, 1) := by decide +kernel
theorem dL_law_198 : decode cL_law 198 = .ok (.aload_n 0, 1) := by decide +kernel
theorem dL_law_199 : decode cL_law 199 = .ok (.iload 4, 2) := by decide +kernel
theorem dL_law_201 : decode cL_law 201 = .ok (.iconst 1, 1) := by decide +kernel
theorem dL_law_202 : decode cL_law 202 = .ok (.iadd, 1) := by decide +kernel
theorem dL_law_203 : decode cL_law 203 = .ok (.iaload, 1) := by decide +kernel
theorem dL_law_204 : decode cL_law 204 = .ok (.aload_n 0, 1) := by decide +kernel
theorem dL_law_205 : decode cL_law 205 = .ok (.iload 4, 2) := by decide +kernel
theorem dL_law_207 : decode cL_law 207 = .ok (.iconst 2, 1) := by decide +kernel
theorem dL_law_208 : decode cL_law 208 = .ok (.iadd, 1) := by decide +kernel
theorem dL_law_209 : decode cL_law 209 = .ok (.iaload, 1) := by decide +kernel
theorem dL_law_210 : decode cL_law 210 = .ok (.aload_n 3, 1) := by decide +kernel
theorem dL_law_211 : decode cL_law 211 = .ok (.invokestatic 91, 3) := by decide +kernel
theorem dL_law_214 : decode cL_law 214 = .ok (.istore 5, 2) := by decide +kernel
theorem dL_law_216 : decode cL_law 216 = .ok (.aload_n 2, 1) := by decide +kernel
theorem dL_law_217 : decode cL_law 217 = .ok (.aload_n 0, 1) := by decide +kernel
theorem dL_law_218 : decode cL_law 218 = .ok (.iload 4, 2) := by decide +kernel
theorem dL_law_220 : decode cL_law 220 = .ok (.iconst 1, 1) := by decide +kernel
theorem dL_law_221 : decode cL_law 221 = .ok (.iadd, 1) := by decide +kernel
theorem dL_law_222 : decode cL_law 222 = .ok (.iaload, 1) := by decide +kernel
theorem dL_law_223 : decode cL_law 223 = .ok (.aload_n 0, 1) := by decide +kernel
theorem dL_law_224 : decode cL_law 224 = .ok (.iload 4, 2) := by decide +kernel
theorem dL_law_226 : decode cL_law 226 = .ok (.iconst 2, 1) := by decide +kernel
theorem dL_law_227 : decode cL_law 227 = .ok (.iadd, 1) := by decide +kernel
theorem dL_law_228 : decode cL_law 228 = .ok (.iaload, 1) := by decide +kernel
theorem dL_law_229 : decode cL_law 229 = .ok (.invokevirtual 94, 3) := by decide +kernel
theorem dL_law_232 : decode cL_law 232 = .ok (.istore 6, 2) := by decide +kernel
theorem dL_law_234 : decode cL_law 234 = .ok (.aload_n 2, 1) := by decide +kernel
theorem dL_law_235 : decode cL_law 235 = .ok (.invokevirtual 83, 3) := by decide +kernel
theorem dL_law_238 : decode cL_law 238 = .ok (.iload 5, 2) := by decide +kernel
theorem dL_law_240 : decode cL_law 240 = .ok (.if_icmp .eq 5, 3) := by decide +kernel
theorem dL_law_243 : decode cL_law 243 = .ok (.iconst 0, 1) := by decide +kernel
theorem dL_law_244 : decode cL_law 244 = .ok (.ireturn, 1) := by decide +kernel
theorem dL_law_245 : decode cL_law 245 = .ok (.iload 5, 2) := by decide +kernel
theorem dL_law_247 : decode cL_law 247 = .ok (.ifCond .ne 15, 3) := by decide +kernel
theorem dL_law_250 : decode cL_law 250 = .ok (.aload_n 3, 1) := by decide +kernel
theorem dL_law_251 : decode cL_law 251 = .ok (.iconst 0, 1) := by decide +kernel
theorem dL_law_252 : decode cL_law 252 = .ok (.laload, 1) := by decide +kernel
theorem dL_law_253 : decode cL_law 253 = .ok (.iload 6, 2) := by decide +kernel
theorem dL_law_255 : decode cL_law 255 = .ok (.i2l, 1) := by decide +kernel
theorem dL_law_256 : decode cL_law 256 = .ok (.lcmp, 1) := by decide +kernel
theorem dL_law_257 : decode cL_law 257 = .ok (.ifCond .eq 5, 3) := by decide +kernel
theorem dL_law_260 : decode cL_law 260 = .ok (.iconst 0, 1) := by decide +kernel
theorem dL_law_261 : decode cL_law 261 = .ok (.ireturn, 1) := by decide +kernel
theorem dL_law_262 : decode cL_law 262 = .ok (.goto 954, 3) := by decide +kernel
theorem dL_law_265 : decode cL_law 265 = .ok (.aload_n 1, 1) := by decide +kernel
theorem dL_law_266 : decode cL_law 266 = .ok (.aload_n 0, 1) := by decide +kernel
theorem dL_law_267 : decode cL_law 267 = .ok (.iload 4, 2) := by decide +kernel
theorem dL_law_269 : decode cL_law 269 = .ok (.iconst 1, 1) := by decide +kernel
theorem dL_law_270 : decode cL_law 270 = .ok (.iadd, 1) := by decide +kernel
theorem dL_law_271 : decode cL_law 271 = .ok (.iaload, 1) := by decide +kernel
theorem dL_law_272 : decode cL_law 272 = .ok (.aload_n 0, 1) := by decide +kernel
theorem dL_law_273 : decode cL_law 273 = .ok (.iload 4, 2) := by decide +kernel
theorem dL_law_275 : decode cL_law 275 = .ok (.iconst 2, 1) := by decide +kernel
theorem dL_law_276 : decode cL_law 276 = .ok (.iadd, 1) := by decide +kernel
theorem dL_law_277 : decode cL_law 277 = .ok (.iaload, 1) := by decide +kernel
theorem dL_law_278 : decode cL_law 278 = .ok (.aload_n 3, 1) := by decide +kernel
theorem dL_law_279 : decode cL_law 279 = .ok (.invokestatic 95, 3) := by decide +kernel
theorem dL_law_282 : decode cL_law 282 = .ok (.istore 5, 2) := by decide +kernel
theorem dL_law_284 : decode cL_law 284 = .ok (.aload_n 2, 1) := by decide +kernel
theorem dL_law_285 : decode cL_law 285 = .ok (.aload_n 0, 1) := by decide +kernel
theorem dL_law_286 : decode cL_law 286 = .ok (.iload 4, 2) := by decide +kernel
theorem dL_law_288 : decode cL_law 288 = .ok (.iconst 1, 1) := by decide +kernel
theorem dL_law_289 : decode cL_law 289 = .ok (.iadd, 1) := by decide +kernel
theorem dL_law_290 : decode cL_law 290 = .ok (.iaload, 1) := by decide +kernel
theorem dL_law_291 : decode cL_law 291 = .ok (.aload_n 0, 1) := by decide +kernel
theorem dL_law_292 : decode cL_law 292 = .ok (.iload 4, 2) := by decide +kernel
theorem dL_law_294 : decode cL_law 294 = .ok (.iconst 2, 1) := by decide +kernel
theorem dL_law_295 : decode cL_law 295 = .ok (.iadd, 1) := by decide +kernel
theorem dL_law_296 : decode cL_law 296 = .ok (.iaload, 1) := by decide +kernel
theorem dL_law_297 : decode cL_law 297 = .ok (.invokevirtual 97, 3) := by decide +kernel
theorem dL_law_300 : decode cL_law 300 = .ok (.istore 6, 2) := by decide +kernel
theorem dL_law_302 : decode cL_law 302 = .ok (.aload_n 2, 1) := by decide +kernel
theorem dL_law_303 : decode cL_law 303 = .ok (.invokevirtual 83, 3) := by decide +kernel
theorem dL_law_306 : decode cL_law 306 = .ok (.iload 5, 2) := by decide +kernel
theorem dL_law_308 : decode cL_law 308 = .ok (.if_icmp .eq 5, 3) := by decide +kernel
theorem dL_law_311 : decode cL_law 311 = .ok (.iconst 0, 1) := by decide +kernel
theorem dL_law_312 : decode cL_law 312 = .ok (.ireturn, 1) := by decide +kernel
theorem dL_law_313 : decode cL_law 313 = .ok (.iload 5, 2) := by decide +kernel
theorem dL_law_315 : decode cL_law 315 = .ok (.ifCond .ne 15, 3) := by decide +kernel
theorem dL_law_318 : decode cL_law 318 = .ok (.aload_n 3, 1) := by decide +kernel
theorem dL_law_319 : decode cL_law 319 = .ok (.iconst 0, 1) := by decide +kernel
theorem dL_law_320 : decode cL_law 320 = .ok (.laload, 1) := by decide +kernel
theorem dL_law_321 : decode cL_law 321 = .ok (.iload 6, 2) := by decide +kernel
theorem dL_law_323 : decode cL_law 323 = .ok (.i2l, 1) := by decide +kernel
theorem dL_law_324 : decode cL_law 324 = .ok (.lcmp, 1) := by decide +kernel
theorem dL_law_325 : decode cL_law 325 = .ok (.ifCond .eq 5, 3) := by decide +kernel
theorem dL_law_328 : decode cL_law 328 = .ok (.iconst 0, 1) := by decide +kernel
theorem dL_law_329 : decode cL_law 329 = .ok (.ireturn, 1) := by decide +kernel
theorem dL_law_330 : decode cL_law 330 = .ok (.goto 886, 3) := by decide +kernel
theorem dL_law_333 : decode cL_law 333 = .ok (.aload_n 1, 1) := by decide +kernel
theorem dL_law_334 : decode cL_law 334 = .ok (.aload_n 0, 1) := by decide +kernel
theorem dL_law_335 : decode cL_law 335 = .ok (.iload 4, 2) := by decide +kernel
theorem dL_law_337 : decode cL_law 337 = .ok (.iconst 1, 1) := by decide +kernel
theorem dL_law_338 : decode cL_law 338 = .ok (.iadd, 1) := by decide +kernel
theorem dL_law_339 : decode cL_law 339 = .ok (.iaload, 1) := by decide +kernel
theorem dL_law_340 : decode cL_law 340 = .ok (.aload_n 3, 1) := by decide +kernel
theorem dL_law_341 : decode cL_law 341 = .ok (.invokestatic 98, 3) := by decide +kernel
theorem dL_law_344 : decode cL_law 344 = .ok (.istore 5, 2) := by decide +kernel
theorem dL_law_346 : decode cL_law 346 = .ok (.aload_n 2, 1) := by decide +kernel
theorem dL_law_347 : decode cL_law 347 = .ok (.aload_n 0, 1) := by decide +kernel
theorem dL_law_348 : decode cL_law 348 = .ok (.iload 4, 2) := by decide +kernel
theorem dL_law_350 : decode cL_law 350 = .ok (.iconst 1, 1) := by decide +kernel
theorem dL_law_351 : decode cL_law 351 = .ok (.iadd, 1) := by decide +kernel
theorem dL_law_352 : decode cL_law 352 = .ok (.iaload, 1) := by decide +kernel
theorem dL_law_353 : decode cL_law 353 = .ok (.invokevirtual 100, 3) := by decide +kernel
theorem dL_law_356 : decode cL_law 356 = .ok (.istore 6, 2) := by decide +kernel
theorem dL_law_358 : decode cL_law 358 = .ok (.aload_n 2, 1) := by decide +kernel
theorem dL_law_359 : decode cL_law 359 = .ok (.invokevirtual 83, 3) := by decide +kernel
theorem dL_law_362 : decode cL_law 362 = .ok (.iload 5, 2) := by decide +kernel
theorem dL_law_364 : decode cL_law 364 = .ok (.if_icmp .eq 5, 3) := by decide +kernel
theorem dL_law_367 : decode cL_law 367 = .ok (.iconst 0, 1) := by decide +kernel
theorem dL_law_368 : decode cL_law 368 = .ok (.ireturn, 1) := by decide +kernel
theorem dL_law_369 : decode cL_law 369 = .ok (.iload 5, 2) := by decide +kernel
theorem dL_law_371 : decode cL_law 371 = .ok (.ifCond .ne 15, 3) := by decide +kernel
theorem dL_law_374 : decode cL_law 374 = .ok (.aload_n 3, 1) := by decide +kernel
theorem dL_law_375 : decode cL_law 375 = .ok (.iconst 0, 1) := by decide +kernel
theorem dL_law_376 : decode cL_law 376 = .ok (.laload, 1) := by decide +kernel
theorem dL_law_377 : decode cL_law 377 = .ok (.iload 6, 2) := by decide +kernel
theorem dL_law_379 : decode cL_law 379 = .ok (.i2l, 1) := by decide +kernel
theorem dL_law_380 : decode cL_law 380 = .ok (.lcmp, 1) := by decide +kernel
theorem dL_law_381 : decode cL_law 381 = .ok (.ifCond .eq 5, 3) := by decide +kernel
theorem dL_law_384 : decode cL_law 384 = .ok (.iconst 0, 1) := by decide +kernel
theorem dL_law_385 : decode cL_law 385 = .ok (.ireturn, 1) := by decide +kernel
theorem dL_law_386 : decode cL_law 386 = .ok (.goto 830, 3) := by decide +kernel
theorem dL_law_389 : decode cL_law 389 = .ok (.aload_n 1, 1) := by decide +kernel
theorem dL_law_390 : decode cL_law 390 = .ok (.aload_n 0, 1) := by decide +kernel
theorem dL_law_391 : decode cL_law 391 = .ok (.iload 4, 2) := by decide +kernel
theorem dL_law_393 : decode cL_law 393 = .ok (.iconst 1, 1) := by decide +kernel
theorem dL_law_394 : decode cL_law 394 = .ok (.iadd, 1) := by decide +kernel
theorem dL_law_395 : decode cL_law 395 = .ok (.iaload, 1) := by decide +kernel
theorem dL_law_396 : decode cL_law 396 = .ok (.aload_n 0, 1) := by decide +kernel
theorem dL_law_397 : decode cL_law 397 = .ok (.iload 4, 2) := by decide +kernel
theorem dL_law_399 : decode cL_law 399 = .ok (.iconst 2, 1) := by decide +kernel
theorem dL_law_400 : decode cL_law 400 = .ok (.iadd, 1) := by decide +kernel
theorem dL_law_401 : decode cL_law 401 = .ok (.iaload, 1) := by decide +kernel
theorem dL_law_402 : decode cL_law 402 = .ok (.aload_n 3, 1) := by decide +kernel
theorem dL_law_403 : decode cL_law 403 = .ok (.invokestatic 101, 3) := by decide +kernel
theorem dL_law_406 : decode cL_law 406 = .ok (.istore 5, 2) := by decide +kernel
theorem dL_law_408 : decode cL_law 408 = .ok (.aload_n 2, 1) := by decide +kernel
theorem dL_law_409 : decode cL_law 409 = .ok (.aload_n 0, 1) := by decide +kernel
theorem dL_law_410 : decode cL_law 410 = .ok (.iload 4, 2) := by decide +kernel
theorem dL_law_412 : decode cL_law 412 = .ok (.iconst 1, 1) := by decide +kernel
theorem dL_law_413 : decode cL_law 413 = .ok (.iadd, 1) := by decide +kernel
theorem dL_law_414 : decode cL_law 414 = .ok (.iaload, 1) := by decide +kernel
theorem dL_law_415 : decode cL_law 415 = .ok (.aload_n 0, 1) := by decide +kernel
theorem dL_law_416 : decode cL_law 416 = .ok (.iload 4, 2) := by decide +kernel
theorem dL_law_418 : decode cL_law 418 = .ok (.iconst 2, 1) := by decide +kernel
theorem dL_law_419 : decode cL_law 419 = .ok (.iadd, 1) := by decide +kernel
theorem dL_law_420 : decode cL_law 420 = .ok (.iaload, 1) := by decide +kernel
theorem dL_law_421 : decode cL_law 421 = .ok (.invokevirtual 103, 3) := by decide +kernel
theorem dL_law_424 : decode cL_law 424 = .ok (.istore 6, 2) := by decide +kernel
theorem dL_law_426 : decode cL_law 426 = .ok (.aload_n 2, 1) := by decide +kernel
theorem dL_law_427 : decode cL_law 427 = .ok (.invokevirtual 83, 3) := by decide +kernel
theorem dL_law_430 : decode cL_law 430 = .ok (.iload 5, 2) := by decide +kernel
theorem dL_law_432 : decode cL_law 432 = .ok (.if_icmp .eq 5, 3) := by decide +kernel
theorem dL_law_435 : decode cL_law 435 = .ok (.iconst 0, 1) := by decide +kernel
theorem dL_law_436 : decode cL_law 436 = .ok (.ireturn, 1) := by decide +kernel
theorem dL_law_437 : decode cL_law 437 = .ok (.iload 5, 2) := by decide +kernel
theorem dL_law_439 : decode cL_law 439 = .ok (.ifCond .ne 15, 3) := by decide +kernel
theorem dL_law_442 : decode cL_law 442 = .ok (.aload_n 3, 1) := by decide +kernel
theorem dL_law_443 : decode cL_law 443 = .ok (.iconst 0, 1) := by decide +kernel
theorem dL_law_444 : decode cL_law 444 = .ok (.laload, 1) := by decide +kernel
theorem dL_law_445 : decode cL_law 445 = .ok (.iload 6, 2) := by decide +kernel
theorem dL_law_447 : decode cL_law 447 = .ok (.i2l, 1) := by decide +kernel
theorem dL_law_448 : decode cL_law 448 = .ok (.lcmp, 1) := by decide +kernel
theorem dL_law_449 : decode cL_law 449 = .ok (.ifCond .eq 5, 3) := by decide +kernel
theorem dL_law_452 : decode cL_law 452 = .ok (.iconst 0, 1) := by decide +kernel
theorem dL_law_453 : decode cL_law 453 = .ok (.ireturn, 1) := by decide +kernel
theorem dL_law_454 : decode cL_law 454 = .ok (.goto 762, 3) := by decide +kernel
theorem dL_law_457 : decode cL_law 457 = .ok (.aload_n 1, 1) := by decide +kernel
theorem dL_law_458 : decode cL_law 458 = .ok (.aload_n 0, 1) := by decide +kernel
theorem dL_law_459 : decode cL_law 459 = .ok (.iload 4, 2) := by decide +kernel
theorem dL_law_461 : decode cL_law 461 = .ok (.iconst 1, 1) := by decide +kernel
theorem dL_law_462 : decode cL_law 462 = .ok (.iadd, 1) := by decide +kernel
theorem dL_law_463 : decode cL_law 463 = .ok (.iaload, 1) := by decide +kernel
theorem dL_law_464 : decode cL_law 464 = .ok (.aload_n 0, 1) := by decide +kernel
theorem dL_law_465 : decode cL_law 465 = .ok (.iload 4, 2) := by decide +kernel
theorem dL_law_467 : decode cL_law 467 = .ok (.iconst 2, 1) := by decide +kernel
theorem dL_law_468 : decode cL_law 468 = .ok (.iadd, 1) := by decide +kernel
theorem dL_law_469 : decode cL_law 469 = .ok (.iaload, 1) := by decide +kernel
theorem dL_law_470 : decode cL_law 470 = .ok (.aload_n 3, 1) := by decide +kernel
theorem dL_law_471 : decode cL_law 471 = .ok (.invokestatic 104, 3) := by decide +kernel
theorem dL_law_474 : decode cL_law 474 = .ok (.istore 5, 2) := by decide +kernel
theorem dL_law_476 : decode cL_law 476 = .ok (.aload_n 2, 1) := by decide +kernel
theorem dL_law_477 : decode cL_law 477 = .ok (.aload_n 0, 1) := by decide +kernel
theorem dL_law_478 : decode cL_law 478 = .ok (.iload 4, 2) := by decide +kernel
theorem dL_law_480 : decode cL_law 480 = .ok (.iconst 1, 1) := by decide +kernel
theorem dL_law_481 : decode cL_law 481 = .ok (.iadd, 1) := by decide +kernel
theorem dL_law_482 : decode cL_law 482 = .ok (.iaload, 1) := by decide +kernel
theorem dL_law_483 : decode cL_law 483 = .ok (.aload_n 0, 1) := by decide +kernel
theorem dL_law_484 : decode cL_law 484 = .ok (.iload 4, 2) := by decide +kernel
theorem dL_law_486 : decode cL_law 486 = .ok (.iconst 2, 1) := by decide +kernel
theorem dL_law_487 : decode cL_law 487 = .ok (.iadd, 1) := by decide +kernel
theorem dL_law_488 : decode cL_law 488 = .ok (.iaload, 1) := by decide +kernel
theorem dL_law_489 : decode cL_law 489 = .ok (.invokevirtual 106, 3) := by decide +kernel
theorem dL_law_492 : decode cL_law 492 = .ok (.istore 6, 2) := by decide +kernel
theorem dL_law_494 : decode cL_law 494 = .ok (.aload_n 2, 1) := by decide +kernel
theorem dL_law_495 : decode cL_law 495 = .ok (.invokevirtual 83, 3) := by decide +kernel
theorem dL_law_498 : decode cL_law 498 = .ok (.iload 5, 2) := by decide +kernel
theorem dL_law_500 : decode cL_law 500 = .ok (.if_icmp .eq 5, 3) := by decide +kernel
theorem dL_law_503 : decode cL_law 503 = .ok (.iconst 0, 1) := by decide +kernel
theorem dL_law_504 : decode cL_law 504 = .ok (.ireturn, 1) := by decide +kernel
theorem dL_law_505 : decode cL_law 505 = .ok (.iload 5, 2) := by decide +kernel
theorem dL_law_507 : decode cL_law 507 = .ok (.ifCond .ne 15, 3) := by decide +kernel
theorem dL_law_510 : decode cL_law 510 = .ok (.aload_n 3, 1) := by decide +kernel
theorem dL_law_511 : decode cL_law 511 = .ok (.iconst 0, 1) := by decide +kernel
theorem dL_law_512 : decode cL_law 512 = .ok (.laload, 1) := by decide +kernel
theorem dL_law_513 : decode cL_law 513 = .ok (.iload 6, 2) := by decide +kernel
theorem dL_law_515 : decode cL_law 515 = .ok (.i2l, 1) := by decide +kernel
theorem dL_law_516 : decode cL_law 516 = .ok (.lcmp, 1) := by decide +kernel
theorem dL_law_517 : decode cL_law 517 = .ok (.ifCond .eq 5, 3) := by decide +kernel
theorem dL_law_520 : decode cL_law 520 = .ok (.iconst 0, 1) := by decide +kernel
theorem dL_law_521 : decode cL_law 521 = .ok (.ireturn, 1) := by decide +kernel
theorem dL_law_522 : decode cL_law 522 = .ok (.goto 694, 3) := by decide +kernel
theorem dL_law_525 : decode cL_law 525 = .ok (.aload_n 1, 1) := by decide +kernel
theorem dL_law_526 : decode cL_law 526 = .ok (.aload_n 0, 1) := by decide +kernel
theorem dL_law_527 : decode cL_law 527 = .ok (.iload 4, 2) := by decide +kernel
theorem dL_law_529 : decode cL_law 529 = .ok (.iconst 1, 1) := by decide +kernel
theorem dL_law_530 : decode cL_law 530 = .ok (.iadd, 1) := by decide +kernel
theorem dL_law_531 : decode cL_law 531 = .ok (.iaload, 1) := by decide +kernel
theorem dL_law_532 : decode cL_law 532 = .ok (.aload_n 3, 1) := by decide +kernel
theorem dL_law_533 : decode cL_law 533 = .ok (.invokestatic 107, 3) := by decide +kernel
theorem dL_law_536 : decode cL_law 536 = .ok (.istore 5, 2) := by decide +kernel
theorem dL_law_538 : decode cL_law 538 = .ok (.aload_n 2, 1) := by decide +kernel
theorem dL_law_539 : decode cL_law 539 = .ok (.aload_n 0, 1) := by decide +kernel
theorem dL_law_540 : decode cL_law 540 = .ok (.iload 4, 2) := by decide +kernel
theorem dL_law_542 : decode cL_law 542 = .ok (.iconst 1, 1) := by decide +kernel
theorem dL_law_543 : decode cL_law 543 = .ok (.iadd, 1) := by decide +kernel
theorem dL_law_544 : decode cL_law 544 = .ok (.iaload, 1) := by decide +kernel
theorem dL_law_545 : decode cL_law 545 = .ok (.invokevirtual 109, 3) := by decide +kernel
theorem dL_law_548 : decode cL_law 548 = .ok (.lstore 6, 2) := by decide +kernel
theorem dL_law_550 : decode cL_law 550 = .ok (.aload_n 2, 1) := by decide +kernel
theorem dL_law_551 : decode cL_law 551 = .ok (.invokevirtual 83, 3) := by decide +kernel
theorem dL_law_554 : decode cL_law 554 = .ok (.iload 5, 2) := by decide +kernel
theorem dL_law_556 : decode cL_law 556 = .ok (.if_icmp .eq 5, 3) := by decide +kernel
theorem dL_law_559 : decode cL_law 559 = .ok (.iconst 0, 1) := by decide +kernel
theorem dL_law_560 : decode cL_law 560 = .ok (.ireturn, 1) := by decide +kernel
theorem dL_law_561 : decode cL_law 561 = .ok (.iload 5, 2) := by decide +kernel
theorem dL_law_563 : decode cL_law 563 = .ok (.ifCond .ne 14, 3) := by decide +kernel
theorem dL_law_566 : decode cL_law 566 = .ok (.aload_n 3, 1) := by decide +kernel
theorem dL_law_567 : decode cL_law 567 = .ok (.iconst 0, 1) := by decide +kernel
theorem dL_law_568 : decode cL_law 568 = .ok (.laload, 1) := by decide +kernel
theorem dL_law_569 : decode cL_law 569 = .ok (.lload 6, 2) := by decide +kernel
theorem dL_law_571 : decode cL_law 571 = .ok (.lcmp, 1) := by decide +kernel
theorem dL_law_572 : decode cL_law 572 = .ok (.ifCond .eq 5, 3) := by decide +kernel
theorem dL_law_575 : decode cL_law 575 = .ok (.iconst 0, 1) := by decide +kernel
theorem dL_law_576 : decode cL_law 576 = .ok (.ireturn, 1) := by decide +kernel
theorem dL_law_577 : decode cL_law 577 = .ok (.goto 639, 3) := by decide +kernel
theorem dL_law_580 : decode cL_law 580 = .ok (.aload_n 1, 1) := by decide +kernel
theorem dL_law_581 : decode cL_law 581 = .ok (.aload_n 0, 1) := by decide +kernel
theorem dL_law_582 : decode cL_law 582 = .ok (.iload 4, 2) := by decide +kernel
theorem dL_law_584 : decode cL_law 584 = .ok (.iconst 1, 1) := by decide +kernel
theorem dL_law_585 : decode cL_law 585 = .ok (.iadd, 1) := by decide +kernel
theorem dL_law_586 : decode cL_law 586 = .ok (.iaload, 1) := by decide +kernel
theorem dL_law_587 : decode cL_law 587 = .ok (.aload_n 3, 1) := by decide +kernel
theorem dL_law_588 : decode cL_law 588 = .ok (.invokestatic 110, 3) := by decide +kernel
theorem dL_law_591 : decode cL_law 591 = .ok (.istore 5, 2) := by decide +kernel
theorem dL_law_593 : decode cL_law 593 = .ok (.aload_n 2, 1) := by decide +kernel
theorem dL_law_594 : decode cL_law 594 = .ok (.aload_n 0, 1) := by decide +kernel
theorem dL_law_595 : decode cL_law 595 = .ok (.iload 4, 2) := by decide +kernel
theorem dL_law_597 : decode cL_law 597 = .ok (.iconst 1, 1) := by decide +kernel
theorem dL_law_598 : decode cL_law 598 = .ok (.iadd, 1) := by decide +kernel
theorem dL_law_599 : decode cL_law 599 = .ok (.iaload, 1) := by decide +kernel
theorem dL_law_600 : decode cL_law 600 = .ok (.invokevirtual 112, 3) := by decide +kernel
theorem dL_law_603 : decode cL_law 603 = .ok (.istore 6, 2) := by decide +kernel
theorem dL_law_605 : decode cL_law 605 = .ok (.aload_n 2, 1) := by decide +kernel
theorem dL_law_606 : decode cL_law 606 = .ok (.invokevirtual 83, 3) := by decide +kernel
theorem dL_law_609 : decode cL_law 609 = .ok (.iload 5, 2) := by decide +kernel
theorem dL_law_611 : decode cL_law 611 = .ok (.if_icmp .eq 5, 3) := by decide +kernel
theorem dL_law_614 : decode cL_law 614 = .ok (.iconst 0, 1) := by decide +kernel
theorem dL_law_615 : decode cL_law 615 = .ok (.ireturn, 1) := by decide +kernel
theorem dL_law_616 : decode cL_law 616 = .ok (.iload 5, 2) := by decide +kernel
theorem dL_law_618 : decode cL_law 618 = .ok (.ifCond .ne 15, 3) := by decide +kernel
theorem dL_law_621 : decode cL_law 621 = .ok (.aload_n 3, 1) := by decide +kernel
theorem dL_law_622 : decode cL_law 622 = .ok (.iconst 0, 1) := by decide +kernel
theorem dL_law_623 : decode cL_law 623 = .ok (.laload, 1) := by decide +kernel
theorem dL_law_624 : decode cL_law 624 = .ok (.iload 6, 2) := by decide +kernel
theorem dL_law_626 : decode cL_law 626 = .ok (.i2l, 1) := by decide +kernel
theorem dL_law_627 : decode cL_law 627 = .ok (.lcmp, 1) := by decide +kernel
theorem dL_law_628 : decode cL_law 628 = .ok (.ifCond .eq 5, 3) := by decide +kernel
theorem dL_law_631 : decode cL_law 631 = .ok (.iconst 0, 1) := by decide +kernel
theorem dL_law_632 : decode cL_law 632 = .ok (.ireturn, 1) := by decide +kernel
theorem dL_law_633 : decode cL_law 633 = .ok (.goto 583, 3) := by decide +kernel
theorem dL_law_636 : decode cL_law 636 = .ok (.aload_n 1, 1) := by decide +kernel
theorem dL_law_637 : decode cL_law 637 = .ok (.aload_n 0, 1) := by decide +kernel
theorem dL_law_638 : decode cL_law 638 = .ok (.iload 4, 2) := by decide +kernel
theorem dL_law_640 : decode cL_law 640 = .ok (.iconst 1, 1) := by decide +kernel
theorem dL_law_641 : decode cL_law 641 = .ok (.iadd, 1) := by decide +kernel
theorem dL_law_642 : decode cL_law 642 = .ok (.iaload, 1) := by decide +kernel
theorem dL_law_643 : decode cL_law 643 = .ok (.aload_n 0, 1) := by decide +kernel
theorem dL_law_644 : decode cL_law 644 = .ok (.iload 4, 2) := by decide +kernel
theorem dL_law_646 : decode cL_law 646 = .ok (.iconst 2, 1) := by decide +kernel
theorem dL_law_647 : decode cL_law 647 = .ok (.iadd, 1) := by decide +kernel
theorem dL_law_648 : decode cL_law 648 = .ok (.iaload, 1) := by decide +kernel
theorem dL_law_649 : decode cL_law 649 = .ok (.aload_n 3, 1) := by decide +kernel
theorem dL_law_650 : decode cL_law 650 = .ok (.invokestatic 113, 3) := by decide +kernel
theorem dL_law_653 : decode cL_law 653 = .ok (.istore 5, 2) := by decide +kernel
theorem dL_law_655 : decode cL_law 655 = .ok (.aload_n 2, 1) := by decide +kernel
theorem dL_law_656 : decode cL_law 656 = .ok (.aload_n 0, 1) := by decide +kernel
theorem dL_law_657 : decode cL_law 657 = .ok (.iload 4, 2) := by decide +kernel
theorem dL_law_659 : decode cL_law 659 = .ok (.iconst 1, 1) := by decide +kernel
theorem dL_law_660 : decode cL_law 660 = .ok (.iadd, 1) := by decide +kernel
theorem dL_law_661 : decode cL_law 661 = .ok (.iaload, 1) := by decide +kernel
theorem dL_law_662 : decode cL_law 662 = .ok (.aload_n 0, 1) := by decide +kernel
theorem dL_law_663 : decode cL_law 663 = .ok (.iload 4, 2) := by decide +kernel
theorem dL_law_665 : decode cL_law 665 = .ok (.iconst 2, 1) := by decide +kernel
theorem dL_law_666 : decode cL_law 666 = .ok (.iadd, 1) := by decide +kernel
theorem dL_law_667 : decode cL_law 667 = .ok (.iaload, 1) := by decide +kernel
theorem dL_law_668 : decode cL_law 668 = .ok (.invokevirtual 115, 3) := by decide +kernel
theorem dL_law_671 : decode cL_law 671 = .ok (.istore 6, 2) := by decide +kernel
theorem dL_law_673 : decode cL_law 673 = .ok (.aload_n 2, 1) := by decide +kernel
theorem dL_law_674 : decode cL_law 674 = .ok (.invokevirtual 83, 3) := by decide +kernel
theorem dL_law_677 : decode cL_law 677 = .ok (.iload 5, 2) := by decide +kernel
theorem dL_law_679 : decode cL_law 679 = .ok (.if_icmp .eq 5, 3) := by decide +kernel
theorem dL_law_682 : decode cL_law 682 = .ok (.iconst 0, 1) := by decide +kernel
theorem dL_law_683 : decode cL_law 683 = .ok (.ireturn, 1) := by decide +kernel
theorem dL_law_684 : decode cL_law 684 = .ok (.iload 5, 2) := by decide +kernel
theorem dL_law_686 : decode cL_law 686 = .ok (.ifCond .ne 15, 3) := by decide +kernel
theorem dL_law_689 : decode cL_law 689 = .ok (.aload_n 3, 1) := by decide +kernel
theorem dL_law_690 : decode cL_law 690 = .ok (.iconst 0, 1) := by decide +kernel
theorem dL_law_691 : decode cL_law 691 = .ok (.laload, 1) := by decide +kernel
theorem dL_law_692 : decode cL_law 692 = .ok (.iload 6, 2) := by decide +kernel
theorem dL_law_694 : decode cL_law 694 = .ok (.i2l, 1) := by decide +kernel
theorem dL_law_695 : decode cL_law 695 = .ok (.lcmp, 1) := by decide +kernel
theorem dL_law_696 : decode cL_law 696 = .ok (.ifCond .eq 5, 3) := by decide +kernel
theorem dL_law_699 : decode cL_law 699 = .ok (.iconst 0, 1) := by decide +kernel
theorem dL_law_700 : decode cL_law 700 = .ok (.ireturn, 1) := by decide +kernel
theorem dL_law_701 : decode cL_law 701 = .ok (.goto 515, 3) := by decide +kernel
theorem dL_law_704 : decode cL_law 704 = .ok (.aload_n 1, 1) := by decide +kernel
theorem dL_law_705 : decode cL_law 705 = .ok (.aload_n 0, 1) := by decide +kernel
theorem dL_law_706 : decode cL_law 706 = .ok (.iload 4, 2) := by decide +kernel
theorem dL_law_708 : decode cL_law 708 = .ok (.iconst 1, 1) := by decide +kernel
theorem dL_law_709 : decode cL_law 709 = .ok (.iadd, 1) := by decide +kernel
theorem dL_law_710 : decode cL_law 710 = .ok (.iaload, 1) := by decide +kernel
theorem dL_law_711 : decode cL_law 711 = .ok (.aload_n 3, 1) := by decide +kernel
theorem dL_law_712 : decode cL_law 712 = .ok (.invokestatic 116, 3) := by decide +kernel
theorem dL_law_715 : decode cL_law 715 = .ok (.istore 5, 2) := by decide +kernel
theorem dL_law_717 : decode cL_law 717 = .ok (.aload_n 2, 1) := by decide +kernel
theorem dL_law_718 : decode cL_law 718 = .ok (.aload_n 0, 1) := by decide +kernel
theorem dL_law_719 : decode cL_law 719 = .ok (.iload 4, 2) := by decide +kernel
theorem dL_law_721 : decode cL_law 721 = .ok (.iconst 1, 1) := by decide +kernel
theorem dL_law_722 : decode cL_law 722 = .ok (.iadd, 1) := by decide +kernel
theorem dL_law_723 : decode cL_law 723 = .ok (.iaload, 1) := by decide +kernel
theorem dL_law_724 : decode cL_law 724 = .ok (.invokevirtual 118, 3) := by decide +kernel
theorem dL_law_727 : decode cL_law 727 = .ok (.istore 6, 2) := by decide +kernel
theorem dL_law_729 : decode cL_law 729 = .ok (.aload_n 2, 1) := by decide +kernel
theorem dL_law_730 : decode cL_law 730 = .ok (.invokevirtual 83, 3) := by decide +kernel
theorem dL_law_733 : decode cL_law 733 = .ok (.iload 5, 2) := by decide +kernel
theorem dL_law_735 : decode cL_law 735 = .ok (.if_icmp .eq 5, 3) := by decide +kernel
theorem dL_law_738 : decode cL_law 738 = .ok (.iconst 0, 1) := by decide +kernel
theorem dL_law_739 : decode cL_law 739 = .ok (.ireturn, 1) := by decide +kernel
theorem dL_law_740 : decode cL_law 740 = .ok (.iload 5, 2) := by decide +kernel
theorem dL_law_742 : decode cL_law 742 = .ok (.ifCond .ne 15, 3) := by decide +kernel
theorem dL_law_745 : decode cL_law 745 = .ok (.aload_n 3, 1) := by decide +kernel
theorem dL_law_746 : decode cL_law 746 = .ok (.iconst 0, 1) := by decide +kernel
theorem dL_law_747 : decode cL_law 747 = .ok (.laload, 1) := by decide +kernel
theorem dL_law_748 : decode cL_law 748 = .ok (.iload 6, 2) := by decide +kernel
theorem dL_law_750 : decode cL_law 750 = .ok (.i2l, 1) := by decide +kernel
theorem dL_law_751 : decode cL_law 751 = .ok (.lcmp, 1) := by decide +kernel
theorem dL_law_752 : decode cL_law 752 = .ok (.ifCond .eq 5, 3) := by decide +kernel
theorem dL_law_755 : decode cL_law 755 = .ok (.iconst 0, 1) := by decide +kernel
theorem dL_law_756 : decode cL_law 756 = .ok (.ireturn, 1) := by decide +kernel
theorem dL_law_757 : decode cL_law 757 = .ok (.goto 459, 3) := by decide +kernel
theorem dL_law_760 : decode cL_law 760 = .ok (.aload_n 1, 1) := by decide +kernel
theorem dL_law_761 : decode cL_law 761 = .ok (.aload_n 0, 1) := by decide +kernel
theorem dL_law_762 : decode cL_law 762 = .ok (.iload 4, 2) := by decide +kernel
theorem dL_law_764 : decode cL_law 764 = .ok (.iconst 1, 1) := by decide +kernel
theorem dL_law_765 : decode cL_law 765 = .ok (.iadd, 1) := by decide +kernel
theorem dL_law_766 : decode cL_law 766 = .ok (.iaload, 1) := by decide +kernel
theorem dL_law_767 : decode cL_law 767 = .ok (.aload_n 3, 1) := by decide +kernel
theorem dL_law_768 : decode cL_law 768 = .ok (.invokestatic 119, 3) := by decide +kernel
theorem dL_law_771 : decode cL_law 771 = .ok (.istore 5, 2) := by decide +kernel
theorem dL_law_773 : decode cL_law 773 = .ok (.aload_n 2, 1) := by decide +kernel
theorem dL_law_774 : decode cL_law 774 = .ok (.aload_n 0, 1) := by decide +kernel
theorem dL_law_775 : decode cL_law 775 = .ok (.iload 4, 2) := by decide +kernel
theorem dL_law_777 : decode cL_law 777 = .ok (.iconst 1, 1) := by decide +kernel
theorem dL_law_778 : decode cL_law 778 = .ok (.iadd, 1) := by decide +kernel
theorem dL_law_779 : decode cL_law 779 = .ok (.iaload, 1) := by decide +kernel
theorem dL_law_780 : decode cL_law 780 = .ok (.invokevirtual 121, 3) := by decide +kernel
theorem dL_law_783 : decode cL_law 783 = .ok (.istore 6, 2) := by decide +kernel
theorem dL_law_785 : decode cL_law 785 = .ok (.aload_n 2, 1) := by decide +kernel
theorem dL_law_786 : decode cL_law 786 = .ok (.invokevirtual 83, 3) := by decide +kernel
theorem dL_law_789 : decode cL_law 789 = .ok (.iload 5, 2) := by decide +kernel
theorem dL_law_791 : decode cL_law 791 = .ok (.if_icmp .eq 5, 3) := by decide +kernel
theorem dL_law_794 : decode cL_law 794 = .ok (.iconst 0, 1) := by decide +kernel
theorem dL_law_795 : decode cL_law 795 = .ok (.ireturn, 1) := by decide +kernel
theorem dL_law_796 : decode cL_law 796 = .ok (.iload 5, 2) := by decide +kernel
theorem dL_law_798 : decode cL_law 798 = .ok (.ifCond .ne 15, 3) := by decide +kernel
theorem dL_law_801 : decode cL_law 801 = .ok (.aload_n 3, 1) := by decide +kernel
theorem dL_law_802 : decode cL_law 802 = .ok (.iconst 0, 1) := by decide +kernel
theorem dL_law_803 : decode cL_law 803 = .ok (.laload, 1) := by decide +kernel
theorem dL_law_804 : decode cL_law 804 = .ok (.iload 6, 2) := by decide +kernel
theorem dL_law_806 : decode cL_law 806 = .ok (.i2l, 1) := by decide +kernel
theorem dL_law_807 : decode cL_law 807 = .ok (.lcmp, 1) := by decide +kernel
theorem dL_law_808 : decode cL_law 808 = .ok (.ifCond .eq 5, 3) := by decide +kernel
theorem dL_law_811 : decode cL_law 811 = .ok (.iconst 0, 1) := by decide +kernel
theorem dL_law_812 : decode cL_law 812 = .ok (.ireturn, 1) := by decide +kernel
theorem dL_law_813 : decode cL_law 813 = .ok (.goto 403, 3) := by decide +kernel
theorem dL_law_816 : decode cL_law 816 = .ok (.aload_n 1, 1) := by decide +kernel
theorem dL_law_817 : decode cL_law 817 = .ok (.aload_n 0, 1) := by decide +kernel
theorem dL_law_818 : decode cL_law 818 = .ok (.iload 4, 2) := by decide +kernel
theorem dL_law_820 : decode cL_law 820 = .ok (.iconst 1, 1) := by decide +kernel
theorem dL_law_821 : decode cL_law 821 = .ok (.iadd, 1) := by decide +kernel
theorem dL_law_822 : decode cL_law 822 = .ok (.iaload, 1) := by decide +kernel
theorem dL_law_823 : decode cL_law 823 = .ok (.aload_n 3, 1) := by decide +kernel
theorem dL_law_824 : decode cL_law 824 = .ok (.invokestatic 122, 3) := by decide +kernel
theorem dL_law_827 : decode cL_law 827 = .ok (.istore 5, 2) := by decide +kernel
theorem dL_law_829 : decode cL_law 829 = .ok (.aload_n 2, 1) := by decide +kernel
theorem dL_law_830 : decode cL_law 830 = .ok (.aload_n 0, 1) := by decide +kernel
theorem dL_law_831 : decode cL_law 831 = .ok (.iload 4, 2) := by decide +kernel
theorem dL_law_833 : decode cL_law 833 = .ok (.iconst 1, 1) := by decide +kernel
theorem dL_law_834 : decode cL_law 834 = .ok (.iadd, 1) := by decide +kernel
theorem dL_law_835 : decode cL_law 835 = .ok (.iaload, 1) := by decide +kernel
theorem dL_law_836 : decode cL_law 836 = .ok (.invokevirtual 124, 3) := by decide +kernel
theorem dL_law_839 : decode cL_law 839 = .ok (.istore 6, 2) := by decide +kernel
theorem dL_law_841 : decode cL_law 841 = .ok (.aload_n 2, 1) := by decide +kernel
theorem dL_law_842 : decode cL_law 842 = .ok (.invokevirtual 83, 3) := by decide +kernel
theorem dL_law_845 : decode cL_law 845 = .ok (.iload 5, 2) := by decide +kernel
theorem dL_law_847 : decode cL_law 847 = .ok (.if_icmp .eq 5, 3) := by decide +kernel
theorem dL_law_850 : decode cL_law 850 = .ok (.iconst 0, 1) := by decide +kernel
theorem dL_law_851 : decode cL_law 851 = .ok (.ireturn, 1) := by decide +kernel
theorem dL_law_852 : decode cL_law 852 = .ok (.iload 5, 2) := by decide +kernel
theorem dL_law_854 : decode cL_law 854 = .ok (.ifCond .ne 15, 3) := by decide +kernel
theorem dL_law_857 : decode cL_law 857 = .ok (.aload_n 3, 1) := by decide +kernel
theorem dL_law_858 : decode cL_law 858 = .ok (.iconst 0, 1) := by decide +kernel
theorem dL_law_859 : decode cL_law 859 = .ok (.laload, 1) := by decide +kernel
theorem dL_law_860 : decode cL_law 860 = .ok (.iload 6, 2) := by decide +kernel
theorem dL_law_862 : decode cL_law 862 = .ok (.i2l, 1) := by decide +kernel
theorem dL_law_863 : decode cL_law 863 = .ok (.lcmp, 1) := by decide +kernel
theorem dL_law_864 : decode cL_law 864 = .ok (.ifCond .eq 5, 3) := by decide +kernel
theorem dL_law_867 : decode cL_law 867 = .ok (.iconst 0, 1) := by decide +kernel
theorem dL_law_868 : decode cL_law 868 = .ok (.ireturn, 1) := by decide +kernel
theorem dL_law_869 : decode cL_law 869 = .ok (.goto 347, 3) := by decide +kernel
theorem dL_law_872 : decode cL_law 872 = .ok (.aload_n 1, 1) := by decide +kernel
theorem dL_law_873 : decode cL_law 873 = .ok (.aload_n 0, 1) := by decide +kernel
theorem dL_law_874 : decode cL_law 874 = .ok (.iload 4, 2) := by decide +kernel
theorem dL_law_876 : decode cL_law 876 = .ok (.iconst 1, 1) := by decide +kernel
theorem dL_law_877 : decode cL_law 877 = .ok (.iadd, 1) := by decide +kernel
theorem dL_law_878 : decode cL_law 878 = .ok (.iaload, 1) := by decide +kernel
theorem dL_law_879 : decode cL_law 879 = .ok (.aload_n 3, 1) := by decide +kernel
theorem dL_law_880 : decode cL_law 880 = .ok (.invokestatic 125, 3) := by decide +kernel
theorem dL_law_883 : decode cL_law 883 = .ok (.istore 5, 2) := by decide +kernel
theorem dL_law_885 : decode cL_law 885 = .ok (.aload_n 2, 1) := by decide +kernel
theorem dL_law_886 : decode cL_law 886 = .ok (.aload_n 0, 1) := by decide +kernel
theorem dL_law_887 : decode cL_law 887 = .ok (.iload 4, 2) := by decide +kernel
theorem dL_law_889 : decode cL_law 889 = .ok (.iconst 1, 1) := by decide +kernel
theorem dL_law_890 : decode cL_law 890 = .ok (.iadd, 1) := by decide +kernel
theorem dL_law_891 : decode cL_law 891 = .ok (.iaload, 1) := by decide +kernel
theorem dL_law_892 : decode cL_law 892 = .ok (.invokevirtual 127, 3) := by decide +kernel
theorem dL_law_895 : decode cL_law 895 = .ok (.istore 6, 2) := by decide +kernel
theorem dL_law_897 : decode cL_law 897 = .ok (.aload_n 2, 1) := by decide +kernel
theorem dL_law_898 : decode cL_law 898 = .ok (.invokevirtual 83, 3) := by decide +kernel
theorem dL_law_901 : decode cL_law 901 = .ok (.iload 5, 2) := by decide +kernel
theorem dL_law_903 : decode cL_law 903 = .ok (.if_icmp .eq 5, 3) := by decide +kernel
theorem dL_law_906 : decode cL_law 906 = .ok (.iconst 0, 1) := by decide +kernel
theorem dL_law_907 : decode cL_law 907 = .ok (.ireturn, 1) := by decide +kernel
theorem dL_law_908 : decode cL_law 908 = .ok (.iload 5, 2) := by decide +kernel
theorem dL_law_910 : decode cL_law 910 = .ok (.ifCond .ne 15, 3) := by decide +kernel
theorem dL_law_913 : decode cL_law 913 = .ok (.aload_n 3, 1) := by decide +kernel
theorem dL_law_914 : decode cL_law 914 = .ok (.iconst 0, 1) := by decide +kernel
theorem dL_law_915 : decode cL_law 915 = .ok (.laload, 1) := by decide +kernel
theorem dL_law_916 : decode cL_law 916 = .ok (.iload 6, 2) := by decide +kernel
theorem dL_law_918 : decode cL_law 918 = .ok (.i2l, 1) := by decide +kernel
theorem dL_law_919 : decode cL_law 919 = .ok (.lcmp, 1) := by decide +kernel
theorem dL_law_920 : decode cL_law 920 = .ok (.ifCond .eq 5, 3) := by decide +kernel
theorem dL_law_923 : decode cL_law 923 = .ok (.iconst 0, 1) := by decide +kernel
theorem dL_law_924 : decode cL_law 924 = .ok (.ireturn, 1) := by decide +kernel
theorem dL_law_925 : decode cL_law 925 = .ok (.goto 291, 3) := by decide +kernel
theorem dL_law_928 : decode cL_law 928 = .ok (.aload_n 1, 1) := by decide +kernel
theorem dL_law_929 : decode cL_law 929 = .ok (.aload_n 0, 1) := by decide +kernel
theorem dL_law_930 : decode cL_law 930 = .ok (.iload 4, 2) := by decide +kernel
theorem dL_law_932 : decode cL_law 932 = .ok (.iconst 1, 1) := by decide +kernel
theorem dL_law_933 : decode cL_law 933 = .ok (.iadd, 1) := by decide +kernel
theorem dL_law_934 : decode cL_law 934 = .ok (.iaload, 1) := by decide +kernel
theorem dL_law_935 : decode cL_law 935 = .ok (.aload_n 3, 1) := by decide +kernel
theorem dL_law_936 : decode cL_law 936 = .ok (.invokestatic 128, 3) := by decide +kernel
theorem dL_law_939 : decode cL_law 939 = .ok (.istore 5, 2) := by decide +kernel
theorem dL_law_941 : decode cL_law 941 = .ok (.aload_n 2, 1) := by decide +kernel
theorem dL_law_942 : decode cL_law 942 = .ok (.aload_n 0, 1) := by decide +kernel
theorem dL_law_943 : decode cL_law 943 = .ok (.iload 4, 2) := by decide +kernel
theorem dL_law_945 : decode cL_law 945 = .ok (.iconst 1, 1) := by decide +kernel
theorem dL_law_946 : decode cL_law 946 = .ok (.iadd, 1) := by decide +kernel
theorem dL_law_947 : decode cL_law 947 = .ok (.iaload, 1) := by decide +kernel
theorem dL_law_948 : decode cL_law 948 = .ok (.invokevirtual 130, 3) := by decide +kernel
theorem dL_law_951 : decode cL_law 951 = .ok (.istore 6, 2) := by decide +kernel
theorem dL_law_953 : decode cL_law 953 = .ok (.aload_n 2, 1) := by decide +kernel
theorem dL_law_954 : decode cL_law 954 = .ok (.invokevirtual 83, 3) := by decide +kernel
theorem dL_law_957 : decode cL_law 957 = .ok (.iload 5, 2) := by decide +kernel
theorem dL_law_959 : decode cL_law 959 = .ok (.if_icmp .eq 5, 3) := by decide +kernel
theorem dL_law_962 : decode cL_law 962 = .ok (.iconst 0, 1) := by decide +kernel
theorem dL_law_963 : decode cL_law 963 = .ok (.ireturn, 1) := by decide +kernel
theorem dL_law_964 : decode cL_law 964 = .ok (.iload 5, 2) := by decide +kernel
theorem dL_law_966 : decode cL_law 966 = .ok (.ifCond .ne 15, 3) := by decide +kernel
theorem dL_law_969 : decode cL_law 969 = .ok (.aload_n 3, 1) := by decide +kernel
theorem dL_law_970 : decode cL_law 970 = .ok (.iconst 0, 1) := by decide +kernel
theorem dL_law_971 : decode cL_law 971 = .ok (.laload, 1) := by decide +kernel
theorem dL_law_972 : decode cL_law 972 = .ok (.iload 6, 2) := by decide +kernel
theorem dL_law_974 : decode cL_law 974 = .ok (.i2l, 1) := by decide +kernel
theorem dL_law_975 : decode cL_law 975 = .ok (.lcmp, 1) := by decide +kernel
theorem dL_law_976 : decode cL_law 976 = .ok (.ifCond .eq 5, 3) := by decide +kernel
theorem dL_law_979 : decode cL_law 979 = .ok (.iconst 0, 1) := by decide +kernel
theorem dL_law_980 : decode cL_law 980 = .ok (.ireturn, 1) := by decide +kernel
theorem dL_law_981 : decode cL_law 981 = .ok (.goto 235, 3) := by decide +kernel
theorem dL_law_984 : decode cL_law 984 = .ok (.aload_n 1, 1) := by decide +kernel
theorem dL_law_985 : decode cL_law 985 = .ok (.aload_n 0, 1) := by decide +kernel
theorem dL_law_986 : decode cL_law 986 = .ok (.iload 4, 2) := by decide +kernel
theorem dL_law_988 : decode cL_law 988 = .ok (.iconst 1, 1) := by decide +kernel
theorem dL_law_989 : decode cL_law 989 = .ok (.iadd, 1) := by decide +kernel
theorem dL_law_990 : decode cL_law 990 = .ok (.iaload, 1) := by decide +kernel
theorem dL_law_991 : decode cL_law 991 = .ok (.aload_n 3, 1) := by decide +kernel
theorem dL_law_992 : decode cL_law 992 = .ok (.invokestatic 131, 3) := by decide +kernel
theorem dL_law_995 : decode cL_law 995 = .ok (.istore 5, 2) := by decide +kernel
theorem dL_law_997 : decode cL_law 997 = .ok (.aload_n 2, 1) := by decide +kernel
theorem dL_law_998 : decode cL_law 998 = .ok (.aload_n 0, 1) := by decide +kernel
theorem dL_law_999 : decode cL_law 999 = .ok (.iload 4, 2) := by decide +kernel
theorem dL_law_1001 : decode cL_law 1001 = .ok (.iconst 1, 1) := by decide +kernel
theorem dL_law_1002 : decode cL_law 1002 = .ok (.iadd, 1) := by decide +kernel
theorem dL_law_1003 : decode cL_law 1003 = .ok (.iaload, 1) := by decide +kernel
theorem dL_law_1004 : decode cL_law 1004 = .ok (.invokevirtual 133, 3) := by decide +kernel
theorem dL_law_1007 : decode cL_law 1007 = .ok (.lstore 6, 2) := by decide +kernel
theorem dL_law_1009 : decode cL_law 1009 = .ok (.aload_n 2, 1) := by decide +kernel
theorem dL_law_1010 : decode cL_law 1010 = .ok (.invokevirtual 83, 3) := by decide +kernel
theorem dL_law_1013 : decode cL_law 1013 = .ok (.iload 5, 2) := by decide +kernel
theorem dL_law_1015 : decode cL_law 1015 = .ok (.if_icmp .eq 5, 3) := by decide +kernel
theorem dL_law_1018 : decode cL_law 1018 = .ok (.iconst 0, 1) := by decide +kernel
theorem dL_law_1019 : decode cL_law 1019 = .ok (.ireturn, 1) := by decide +kernel
theorem dL_law_1020 : decode cL_law 1020 = .ok (.iload 5, 2) := by decide +kernel
theorem dL_law_1022 : decode cL_law 1022 = .ok (.ifCond .ne 14, 3) := by decide +kernel
theorem dL_law_1025 : decode cL_law 1025 = .ok (.aload_n 3, 1) := by decide +kernel
theorem dL_law_1026 : decode cL_law 1026 = .ok (.iconst 0, 1) := by decide +kernel
theorem dL_law_1027 : decode cL_law 1027 = .ok (.laload, 1) := by decide +kernel
theorem dL_law_1028 : decode cL_law 1028 = .ok (.lload 6, 2) := by decide +kernel
theorem dL_law_1030 : decode cL_law 1030 = .ok (.lcmp, 1) := by decide +kernel
theorem dL_law_1031 : decode cL_law 1031 = .ok (.ifCond .eq 5, 3) := by decide +kernel
theorem dL_law_1034 : decode cL_law 1034 = .ok (.iconst 0, 1) := by decide +kernel
theorem dL_law_1035 : decode cL_law 1035 = .ok (.ireturn, 1) := by decide +kernel
theorem dL_law_1036 : decode cL_law 1036 = .ok (.goto 180, 3) := by decide +kernel
theorem dL_law_1039 : decode cL_law 1039 = .ok (.aload_n 1, 1) := by decide +kernel
theorem dL_law_1040 : decode cL_law 1040 = .ok (.aload_n 0, 1) := by decide +kernel
theorem dL_law_1041 : decode cL_law 1041 = .ok (.iload 4, 2) := by decide +kernel
theorem dL_law_1043 : decode cL_law 1043 = .ok (.iconst 1, 1) := by decide +kernel
theorem dL_law_1044 : decode cL_law 1044 = .ok (.iadd, 1) := by decide +kernel
theorem dL_law_1045 : decode cL_law 1045 = .ok (.iaload, 1) := by decide +kernel
theorem dL_law_1046 : decode cL_law 1046 = .ok (.aload_n 3, 1) := by decide +kernel
theorem dL_law_1047 : decode cL_law 1047 = .ok (.invokestatic 134, 3) := by decide +kernel
theorem dL_law_1050 : decode cL_law 1050 = .ok (.istore 5, 2) := by decide +kernel
theorem dL_law_1052 : decode cL_law 1052 = .ok (.aload_n 2, 1) := by decide +kernel
theorem dL_law_1053 : decode cL_law 1053 = .ok (.aload_n 0, 1) := by decide +kernel
theorem dL_law_1054 : decode cL_law 1054 = .ok (.iload 4, 2) := by decide +kernel
theorem dL_law_1056 : decode cL_law 1056 = .ok (.iconst 1, 1) := by decide +kernel
theorem dL_law_1057 : decode cL_law 1057 = .ok (.iadd, 1) := by decide +kernel
theorem dL_law_1058 : decode cL_law 1058 = .ok (.iaload, 1) := by decide +kernel
theorem dL_law_1059 : decode cL_law 1059 = .ok (.invokevirtual 136, 3) := by decide +kernel
theorem dL_law_1062 : decode cL_law 1062 = .ok (.lstore 6, 2) := by decide +kernel
theorem dL_law_1064 : decode cL_law 1064 = .ok (.aload_n 2, 1) := by decide +kernel
theorem dL_law_1065 : decode cL_law 1065 = .ok (.invokevirtual 83, 3) := by decide +kernel
theorem dL_law_1068 : decode cL_law 1068 = .ok (.iload 5, 2) := by decide +kernel
theorem dL_law_1070 : decode cL_law 1070 = .ok (.if_icmp .eq 5, 3) := by decide +kernel
theorem dL_law_1073 : decode cL_law 1073 = .ok (.iconst 0, 1) := by decide +kernel
theorem dL_law_1074 : decode cL_law 1074 = .ok (.ireturn, 1) := by decide +kernel
theorem dL_law_1075 : decode cL_law 1075 = .ok (.iload 5, 2) := by decide +kernel
theorem dL_law_1077 : decode cL_law 1077 = .ok (.ifCond .ne 14, 3) := by decide +kernel
theorem dL_law_1080 : decode cL_law 1080 = .ok (.aload_n 3, 1) := by decide +kernel
theorem dL_law_1081 : decode cL_law 1081 = .ok (.iconst 0, 1) := by decide +kernel
theorem dL_law_1082 : decode cL_law 1082 = .ok (.laload, 1) := by decide +kernel
theorem dL_law_1083 : decode cL_law 1083 = .ok (.lload 6, 2) := by decide +kernel
theorem dL_law_1085 : decode cL_law 1085 = .ok (.lcmp, 1) := by decide +kernel
theorem dL_law_1086 : decode cL_law 1086 = .ok (.ifCond .eq 5, 3) := by decide +kernel
theorem dL_law_1089 : decode cL_law 1089 = .ok (.iconst 0, 1) := by decide +kernel
theorem dL_law_1090 : decode cL_law 1090 = .ok (.ireturn, 1) := by decide +kernel
theorem dL_law_1091 : decode cL_law 1091 = .ok (.goto 125, 3) := by decide +kernel
theorem dL_law_1094 : decode cL_law 1094 = .ok (.aload_n 1, 1) := by decide +kernel
theorem dL_law_1095 : decode cL_law 1095 = .ok (.aload_n 0, 1) := by decide +kernel
theorem dL_law_1096 : decode cL_law 1096 = .ok (.iload 4, 2) := by decide +kernel
theorem dL_law_1098 : decode cL_law 1098 = .ok (.iconst 1, 1) := by decide +kernel
theorem dL_law_1099 : decode cL_law 1099 = .ok (.iadd, 1) := by decide +kernel
theorem dL_law_1100 : decode cL_law 1100 = .ok (.iaload, 1) := by decide +kernel
theorem dL_law_1101 : decode cL_law 1101 = .ok (.aload_n 0, 1) := by decide +kernel
theorem dL_law_1102 : decode cL_law 1102 = .ok (.iload 4, 2) := by decide +kernel
theorem dL_law_1104 : decode cL_law 1104 = .ok (.iconst 2, 1) := by decide +kernel
theorem dL_law_1105 : decode cL_law 1105 = .ok (.iadd, 1) := by decide +kernel
theorem dL_law_1106 : decode cL_law 1106 = .ok (.iaload, 1) := by decide +kernel
theorem dL_law_1107 : decode cL_law 1107 = .ok (.aload_n 3, 1) := by decide +kernel
theorem dL_law_1108 : decode cL_law 1108 = .ok (.invokestatic 137, 3) := by decide +kernel
theorem dL_law_1111 : decode cL_law 1111 = .ok (.istore 5, 2) := by decide +kernel
theorem dL_law_1113 : decode cL_law 1113 = .ok (.aload_n 2, 1) := by decide +kernel
theorem dL_law_1114 : decode cL_law 1114 = .ok (.aload_n 0, 1) := by decide +kernel
theorem dL_law_1115 : decode cL_law 1115 = .ok (.iload 4, 2) := by decide +kernel
theorem dL_law_1117 : decode cL_law 1117 = .ok (.iconst 1, 1) := by decide +kernel
theorem dL_law_1118 : decode cL_law 1118 = .ok (.iadd, 1) := by decide +kernel
theorem dL_law_1119 : decode cL_law 1119 = .ok (.iaload, 1) := by decide +kernel
theorem dL_law_1120 : decode cL_law 1120 = .ok (.aload_n 0, 1) := by decide +kernel
theorem dL_law_1121 : decode cL_law 1121 = .ok (.iload 4, 2) := by decide +kernel
theorem dL_law_1123 : decode cL_law 1123 = .ok (.iconst 2, 1) := by decide +kernel
theorem dL_law_1124 : decode cL_law 1124 = .ok (.iadd, 1) := by decide +kernel
theorem dL_law_1125 : decode cL_law 1125 = .ok (.iaload, 1) := by decide +kernel
theorem dL_law_1126 : decode cL_law 1126 = .ok (.invokevirtual 139, 3) := by decide +kernel
theorem dL_law_1129 : decode cL_law 1129 = .ok (.lstore 6, 2) := by decide +kernel
theorem dL_law_1131 : decode cL_law 1131 = .ok (.aload_n 2, 1) := by decide +kernel
theorem dL_law_1132 : decode cL_law 1132 = .ok (.invokevirtual 83, 3) := by decide +kernel
theorem dL_law_1135 : decode cL_law 1135 = .ok (.iload 5, 2) := by decide +kernel
theorem dL_law_1137 : decode cL_law 1137 = .ok (.if_icmp .eq 5, 3) := by decide +kernel
theorem dL_law_1140 : decode cL_law 1140 = .ok (.iconst 0, 1) := by decide +kernel
theorem dL_law_1141 : decode cL_law 1141 = .ok (.ireturn, 1) := by decide +kernel
theorem dL_law_1142 : decode cL_law 1142 = .ok (.iload 5, 2) := by decide +kernel
theorem dL_law_1144 : decode cL_law 1144 = .ok (.ifCond .ne 14, 3) := by decide +kernel
theorem dL_law_1147 : decode cL_law 1147 = .ok (.aload_n 3, 1) := by decide +kernel
theorem dL_law_1148 : decode cL_law 1148 = .ok (.iconst 0, 1) := by decide +kernel
theorem dL_law_1149 : decode cL_law 1149 = .ok (.laload, 1) := by decide +kernel
theorem dL_law_1150 : decode cL_law 1150 = .ok (.lload 6, 2) := by decide +kernel
theorem dL_law_1152 : decode cL_law 1152 = .ok (.lcmp, 1) := by decide +kernel
theorem dL_law_1153 : decode cL_law 1153 = .ok (.ifCond .eq 5, 3) := by decide +kernel
theorem dL_law_1156 : decode cL_law 1156 = .ok (.iconst 0, 1) := by decide +kernel
theorem dL_law_1157 : decode cL_law 1157 = .ok (.ireturn, 1) := by decide +kernel
theorem dL_law_1158 : decode cL_law 1158 = .ok (.goto 58, 3) := by decide +kernel
theorem dL_law_1161 : decode cL_law 1161 = .ok (.aload_n 1, 1) := by decide +kernel
theorem dL_law_1162 : decode cL_law 1162 = .ok (.aload_n 0, 1) := by decide +kernel
theorem dL_law_1163 : decode cL_law 1163 = .ok (.iload 4, 2) := by decide +kernel
theorem dL_law_1165 : decode cL_law 1165 = .ok (.iconst 1, 1) := by decide +kernel
theorem dL_law_1166 : decode cL_law 1166 = .ok (.iadd, 1) := by decide +kernel
theorem dL_law_1167 : decode cL_law 1167 = .ok (.iaload, 1) := by decide +kernel
theorem dL_law_1168 : decode cL_law 1168 = .ok (.aload_n 3, 1) := by decide +kernel
theorem dL_law_1169 : decode cL_law 1169 = .ok (.invokestatic 140, 3) := by decide +kernel
theorem dL_law_1172 : decode cL_law 1172 = .ok (.istore 5, 2) := by decide +kernel
theorem dL_law_1174 : decode cL_law 1174 = .ok (.aload_n 2, 1) := by decide +kernel
theorem dL_law_1175 : decode cL_law 1175 = .ok (.aload_n 0, 1) := by decide +kernel
theorem dL_law_1176 : decode cL_law 1176 = .ok (.iload 4, 2) := by decide +kernel
theorem dL_law_1178 : decode cL_law 1178 = .ok (.iconst 1, 1) := by decide +kernel
theorem dL_law_1179 : decode cL_law 1179 = .ok (.iadd, 1) := by decide +kernel
theorem dL_law_1180 : decode cL_law 1180 = .ok (.iaload, 1) := by decide +kernel
theorem dL_law_1181 : decode cL_law 1181 = .ok (.invokevirtual 142, 3) := by decide +kernel
theorem dL_law_1184 : decode cL_law 1184 = .ok (.lstore 6, 2) := by decide +kernel
theorem dL_law_1186 : decode cL_law 1186 = .ok (.aload_n 2, 1) := by decide +kernel
theorem dL_law_1187 : decode cL_law 1187 = .ok (.invokevirtual 83, 3) := by decide +kernel
theorem dL_law_1190 : decode cL_law 1190 = .ok (.iload 5, 2) := by decide +kernel
theorem dL_law_1192 : decode cL_law 1192 = .ok (.if_icmp .eq 5, 3) := by decide +kernel
theorem dL_law_1195 : decode cL_law 1195 = .ok (.iconst 0, 1) := by decide +kernel
theorem dL_law_1196 : decode cL_law 1196 = .ok (.ireturn, 1) := by decide +kernel
theorem dL_law_1197 : decode cL_law 1197 = .ok (.iload 5, 2) := by decide +kernel
theorem dL_law_1199 : decode cL_law 1199 = .ok (.ifCond .ne 14, 3) := by decide +kernel
theorem dL_law_1202 : decode cL_law 1202 = .ok (.aload_n 3, 1) := by decide +kernel
theorem dL_law_1203 : decode cL_law 1203 = .ok (.iconst 0, 1) := by decide +kernel
theorem dL_law_1204 : decode cL_law 1204 = .ok (.laload, 1) := by decide +kernel
theorem dL_law_1205 : decode cL_law 1205 = .ok (.lload 6, 2) := by decide +kernel
theorem dL_law_1207 : decode cL_law 1207 = .ok (.lcmp, 1) := by decide +kernel
theorem dL_law_1208 : decode cL_law 1208 = .ok (.ifCond .eq 5, 3) := by decide +kernel
theorem dL_law_1211 : decode cL_law 1211 = .ok (.iconst 0, 1) := by decide +kernel
theorem dL_law_1212 : decode cL_law 1212 = .ok (.ireturn, 1) := by decide +kernel
theorem dL_law_1213 : decode cL_law 1213 = .ok (.goto 3, 3) := by decide +kernel
theorem dL_law_1216 : decode cL_law 1216 = .ok (.iinc 4 3, 3) := by decide +kernel
theorem dL_law_1219 : decode cL_law 1219 = .ok (.goto (-1196), 3) := by decide +kernel
theorem dL_law_1222 : decode cL_law 1222 = .ok (.iconst 1, 1) := by decide +kernel
theorem dL_law_1223 : decode cL_law 1223 = .ok (.ireturn, 1) := by decide +kernel
end
section
/-! ===== whole numbers for ints and longs ===== -/
def iI (z : Int) : Int32 := Int32.ofInt z
def lI (z : Int) : Int64 := Int64.ofInt z
abbrev inI (z : Int) : Prop := -2147483648 ≤ z ∧ z < 2147483648
abbrev inJ (z : Int) : Prop := -9223372036854775808 ≤ z ∧ z < 9223372036854775808
theorem iI_T {z : Int} (h : inI z) : (iI z).toInt = z := Int32.toInt_ofInt_of_le (by have := h.1; omega) (by have := h.2; omega)
theorem lI_T {z : Int} (h : inJ z) : (lI z).toInt = z := Int64.toInt_ofInt_of_le (by have := h.1; omega) (by have := h.2; omega)
theorem iI_of (x : Int32) : x = iI x.toInt := (Int32.ofInt_toInt x).symm
theorem lI_of (x : Int64) : x = lI x.toInt := (Int64.ofInt_toInt x).symm
theorem inI_of (x : Int32) : inI x.toInt := ⟨by have := Int32.le_toInt x; omega, by have := Int32.toInt_lt x; omega⟩
theorem iI_add (a b : Int) : iI a + iI b = iI (a + b) := (Int32.ofInt_add a b).symm
theorem iI_sub (a b : Int) : iI a - iI b = iI (a - b) := (Int32.ofInt_sub a b).symm
theorem iI_mul (a b : Int) : iI a * iI b = iI (a * b) := (Int32.ofInt_mul a b).symm
theorem lI_add (a b : Int) : lI a + lI b = lI (a + b) := (Int64.ofInt_add a b).symm
theorem lI_sub (a b : Int) : lI a - lI b = lI (a - b) := (Int64.ofInt_sub a b).symm
theorem lI_mul (a b : Int) : lI a * lI b = lI (a * b) := (Int64.ofInt_mul a b).symm
theorem iI_le {a b : Int} (ha : inI a) (hb : inI b) : iI a ≤ iI b ↔ a ≤ b := by rw [Int32.le_iff_toInt_le, iI_T ha, iI_T hb]
theorem iI_lt {a b : Int} (ha : inI a) (hb : inI b) : iI a < iI b ↔ a < b := by rw [Int32.lt_iff_toInt_lt, iI_T ha, iI_T hb]
theorem iI_eq {a b : Int} (ha : inI a) (hb : inI b) : iI a = iI b ↔ a = b := by rw [← Int32.toInt_inj, iI_T ha, iI_T hb]
theorem lI_le {a b : Int} (ha : inJ a) (hb : inJ b) : lI a ≤ lI b ↔ a ≤ b := by rw [Int64.le_iff_toInt_le, lI_T ha, lI_T hb]
theorem lI_lt {a b : Int} (ha : inJ a) (hb : inJ b) : lI a < lI b ↔ a < b := by rw [Int64.lt_iff_toInt_lt, lI_T ha, lI_T hb]
theorem lI_eq {a b : Int} (ha : inJ a) (hb : inJ b) : lI a = lI b ↔ a = b := by rw [← Int64.toInt_inj, lI_T ha, lI_T hb]
theorem iI_cl {z : Int} (h : inI z) : (iI z).toNatClampNeg = z.toNat := by
  show (iI z).toInt.toNat = z.toNat
  rw [iI_T h]
theorem iI_l {z : Int} (h : inI z) : (iI z).toInt64 = lI z := by
  rw [← Int64.toInt_inj, Int32.toInt_toInt64, iI_T h, lI_T ⟨by have := h.1; omega, by have := h.2; omega⟩]
theorem lI_i (z : Int) : (lI z).toInt32 = iI z := Int64.toInt32_ofInt
theorem iI_in {z : Int} {n : Nat} (h0 : 0 ≤ z) (h1 : z < n) (hn : n < 2147483648) : vp_in (iI z) n := by
  have hz : inI z := ⟨by omega, by omega⟩
  rw [vp_in_iff, iI_T hz]
  exact ⟨h0, h1⟩
theorem lI_div {a b : Int} (ha : 0 ≤ a) (ha2 : a < 9223372036854775808) (hb : 0 < b) (hb2 : b < 9223372036854775808) : lI a / lI b = lI (a / b) := by
  have h1 : (lI b) ≠ -1 := by
    intro h
    have h2 := congrArg Int64.toInt h
    rw [lI_T ⟨by omega, hb2⟩] at h2
    have h3 : (-1 : Int64).toInt = -1 := by decide
    omega
  have hq : 0 ≤ a / b := Int.ediv_nonneg ha (by omega)
  have hq2 : a / b ≤ a := Int.ediv_le_self b ha
  rw [← Int64.toInt_inj, Int64.toInt_div_of_ne_right _ _ h1, lI_T ⟨by omega, ha2⟩, lI_T ⟨by omega, hb2⟩, lI_T ⟨by omega, by omega⟩, Int.tdiv_eq_ediv_of_nonneg ha]
theorem iI_0 : iI 0 = 0 := rfl
/-! ===== the state: keys of cells, their addresses, what stands in their slots ===== -/
abbrev TT : Type := Nat → Nat → Nat → Int
abbrev PP : Type := Nat → Nat → Nat → Option Nat
abbrev KK : Type := List (Nat × Nat)
abbrev AD : Type := Nat → Nat → Nat
abbrev St : Type := KK × AD × TT × PP
abbrev GG : Type := va_G × (Nat → ClassId)
abbrev eI (c : ClassId) (n : Nat) (f : Nat → Int) : va_E := .inl (c, n, .inl (fun j => iI (f j)))
abbrev eJ (c : ClassId) (n : Nat) (f : Nat → Int) : va_E := .inl (c, n, .inr (.inl (fun j => lI (f j))))
abbrev eQ (c : ClassId) (n : Nat) (g : Nat → Option Nat) : va_E := .inl (c, n, .inr (.inr (.inr (.inr g))))
def cF (cy : Nat → ClassId) (t : Nat) (f : Nat → Int) (g : Nat → Option Nat) : va_E := match t with
  | 0 => .inr (3, [va_rf (g 0), va_rf (g 1), va_rf (g 2), va_rf (g 3), va_rf (g 4), .int (iI (f 5)), .int (iI (f 6)), .int (iI (f 7)), .int (iI (f 8))])
  | 1 => eQ (cy 0) 5 g
  | 2 => eQ (cy 1) 5 g
  | 3 => eJ (cy 2) 5 f
  | 4 => eQ (cy 3) 10 g
  | 5 => eQ (cy 4) 30 g
  | 6 => .inr (1, [va_rf (g 0), va_rf (g 1), .int (iI (f 2))])
  | 7 => eI (cy 5) 61 f
  | 8 => eI (cy 5) 61 f
  | 9 => eJ (cy 2) 5 f
  | 10 => .inr (2, [.int (iI (f 0)), .long (lI (f 1)), .int (iI (f 2))])
  | 11 => .inr (0, [va_rf (g 0), .int (iI (f 1)), .int (iI (f 2)), .int (iI (f 3)), .int (iI (f 4)), .int (iI (f 5)), .int (iI (f 6)), .long (lI (f 7)), .long (lI (f 8)), .long (lI (f 9))])
  | 12 => .inr (4, [.int (iI (f 0)), .int (iI (f 1)), va_rf (g 2), va_rf (g 3), va_rf (g 4), .int (iI (f 5)), .int (iI (f 6)), va_rf (g 7), va_rf (g 8), va_rf (g 9), .int (iI (f 10)), va_rf (g 11), va_rf (g 12), va_rf (g 13), va_rf (g 14), va_rf (g 15), va_rf (g 16), va_rf (g 17), va_rf (g 18), va_rf (g 19), va_rf (g 20), va_rf (g 21), va_rf (g 22)])
  | 22 => eI (cy 5) 10005 f
  | 23 => eI (cy 5) 5 f
  | 24 => eI (cy 5) 5 f
  | 27 => eI (cy 5) 10 f
  | 28 => eJ (cy 2) 10 f
  | 29 => eI (cy 6) 10 f
  | 31 => eI (cy 5) 30 f
  | 32 => eI (cy 5) 30 f
  | 33 => eI (cy 5) 30 f
  | 34 => eI (cy 5) 30 f
  | 35 => eI (cy 5) 30 f
  | 36 => eI (cy 5) 30 f
  | 37 => eI (cy 5) 30 f
  | 38 => eJ (cy 2) 30 f
  | 39 => eJ (cy 2) 30 f
  | 40 => eJ (cy 2) 30 f
  | 41 => eJ (cy 2) 25 f
  | 42 => eJ (cy 2) 5 f
  | 43 => eJ (cy 2) 1 f
  | _ => .inr (9, [])
def up (T : TT) (t i j : Nat) (v : Int) : TT := fun a b c => if a = t ∧ b = i ∧ c = j then v else T a b c
def upP (P : PP) (t i j : Nat) (v : Option Nat) : PP := fun a b c => if a = t ∧ b = i ∧ c = j then v else P a b c
def upA (A : AD) (t i : Nat) (v : Nat) : AD := fun a b => if a = t ∧ b = i then v else A a b
def uR {α : Type} (f : Nat → α) (j : Nat) (v : α) : Nat → α := fun c => if c = j then v else f c
theorem up_row (T : TT) (t i j : Nat) (v : Int) : up T t i j v t i = uR (T t i) j v := by
  funext c
  simp [up, uR]
theorem upP_row (P : PP) (t i j : Nat) (v : Option Nat) : upP P t i j v t i = uR (P t i) j v := by
  funext c
  simp [upP, uR]
theorem up_ne {T : TT} {t i j : Nat} {v : Int} {a b : Nat} (h : ¬ (a = t ∧ b = i)) : up T t i j v a b = T a b := by
  funext c
  simp only [up]
  rw [if_neg (fun q => h ⟨q.1, q.2.1⟩)]
theorem upP_ne {P : PP} {t i j : Nat} {v : Option Nat} {a b : Nat} (h : ¬ (a = t ∧ b = i)) : upP P t i j v a b = P a b := by
  funext c
  simp only [upP]
  rw [if_neg (fun q => h ⟨q.1, q.2.1⟩)]
theorem upA_s {A : AD} {t i v : Nat} : upA A t i v t i = v := by simp [upA]
theorem upA_ne {A : AD} {t i v a b : Nat} (h : ¬ (a = t ∧ b = i)) : upA A t i v a b = A a b := if_neg h
def WO (G : GG) (u : St) : va_W := u.1.map (fun k => (u.2.1 k.1 k.2, cF G.2 k.1 (u.2.2.1 k.1 k.2) (u.2.2.2 k.1 k.2)))
theorem WO_get {G : GG} {ks : KK} {ad : AD} {T : TT} {P : PP} {t i j : Nat} (h : ks[j]? = some (t, i)) : (WO G (ks, ad, T, P))[j]? = some (ad t i, cF G.2 t (T t i) (P t i)) := by
  unfold WO
  rw [List.getElem?_map, h]
  rfl
theorem WO_set {G : GG} {A : Nat → Prop} {ks : KK} {ad : AD} {T T' : TT} {P P' : PP} {t i j : Nat} {e : va_E} (hD : va_D A (WO G (ks, ad, T, P))) (h : ks[j]? = some (t, i)) (he : e = cF G.2 t (T' t i) (P' t i)) (hT : ∀ a b, ¬ (a = t ∧ b = i) → T' a b = T a b) (hP : ∀ a b, ¬ (a = t ∧ b = i) → P' a b = P a b) : (WO G (ks, ad, T, P)).set j (ad t i, e) = WO G (ks, ad, T', P') := by
  have hl : j < (WO G (ks, ad, T, P)).length := (List.getElem?_eq_some_iff.mp (WO_get h)).1
  apply List.ext_getElem?
  intro n
  by_cases hn : j = n
  · subst hn
    rw [List.getElem?_set_self hl, WO_get h, he]
  · rw [List.getElem?_set_ne hn]
    cases hk : ks[n]? with
    | none =>
      unfold WO
      rw [List.getElem?_map, List.getElem?_map, hk]
      rfl
    | some q =>
      obtain ⟨q1, q2⟩ := q
      rw [WO_get hk, WO_get hk]
      have hq : ¬ (q1 = t ∧ q2 = i) := fun ⟨h1, h2⟩ => hn (hD.1 j n _ _ (WO_get h) (WO_get hk) (by rw [h1, h2]))
      rw [hT q1 q2 hq, hP q1 q2 hq]
theorem WO_push {G : GG} {ks : KK} {ad : AD} {T T' : TT} {P P' : PP} {t i q : Nat} {e : va_E} (h : (t, i) ∉ ks) (he : e = cF G.2 t (T' t i) (P' t i)) (hT : ∀ a b, (a, b) ∈ ks → T' a b = T a b) (hP : ∀ a b, (a, b) ∈ ks → P' a b = P a b) : WO G (ks, ad, T, P) ++ [(q, e)] = WO G (ks ++ [(t, i)], upA ad t i q, T', P') := by
  unfold WO
  simp only [List.map_append, List.map_cons, List.map_nil]
  congr 1
  · apply List.map_congr_left
    intro k hk
    have hne : ¬ (k.1 = t ∧ k.2 = i) := fun ⟨h1, h2⟩ => h (by rw [← h1, ← h2]; exact hk)
    rw [hT k.1 k.2 hk, hP k.1 k.2 hk, upA_ne hne]
  · rw [he, upA_s]
abbrev tyW (cy : Nat → ClassId) : List (ClassId × FieldType) := [(cy 0, .object RX1), (cy 1, .array .long), (cy 2, .long), (cy 3, .object RX2), (cy 4, .object RX0), (cy 5, .int), (cy 6, .boolean)]
abbrev Wx (b0 : Nat) : Nat → Prop := fun q => b0 ≤ q
/-- the words of the tables that no list of a method holds: fields across the nest; and that an exception is of its own class -/
def nestWs : List Cond := [.fieldLinkNest RX3 102 RX2 "isMoving" "Z" RX3, .fieldLinkNest RX3 108 RX2 "holder" "I" RX3, .fieldLinkNest RX3 114 RX2 "thousandths" "J" RX3, .fieldLinkNest RX3 148 RX0 "nextStep" "I" RX3, .fieldLinkNest RX3 155 RX0 "lateOfOld" "I" RX3, .fieldLinkNest RX3 158 RX0 "lateOfNew" "I" RX3, .fieldLinkNest RX3 161 RX0 "proceeds" "J" RX3, .fieldLinkNest RX3 164 RX0 "replaced" "J" RX3, .fieldLinkNest RX3 179 RX0 "mover" "LFundMoves$Saver;" RX3, .fieldLinkNest RX3 183 RX0 "sold" "J" RX3, .fieldLinkNest RX3 186 RX0 "from" "I" RX3, .fieldLinkNest RX3 192 RX0 "to" "I" RX3, .fieldLinkNest RX3 215 RX0 "lastStepDay" "I" RX3, .fieldLinkNest RX0 35 RX2 "holder" "I" RX3]
abbrev eA : String := "java/lang/IllegalArgumentException"
abbrev eS : String := "java/lang/IllegalStateException"
abbrev eB : String := "java/lang/IndexOutOfBoundsException"
def castWs : List String := [eA, eS, eB]
def declWs : List MethodName := [Bundle.initS "java/lang/RuntimeException", Bundle.initS "java/lang/Exception", Bundle.initS Bundle.tN]
def strWs : List (Nat × String) := [(56, "days out of range"), (63, "later than the last day"), (82, "the provider has had all its prices"), (84, "day out of range"), (87, "money out of range"), (89, "no more savers"), (106, "an order of the saver goes on"), (125, "the saver is with that provider"), (127, "no more orders"), (143, "the step is not late enough to be forced"), (224, "provider out of range"), (226, "price out of range"), (230, "the saver would have too many thousandths"), (234, "no such saver"), (237, "no such order"), (239, "the order is done")]
def EnvX (b0 : Nat) (U : State) : Prop := (∀ (o : String) (i : Nat) (d n : String) (h : Nat), Cond.fieldLinkNest o i d n (if h = 0 then "I" else if h = 1 then "J" else if h = 2 then "Z" else "LFundMoves$Saver;") RX3 ∈ nestWs → va_Nw (.fieldLinkNest o i d n (if h = 0 then "I" else if h = 1 then "J" else if h = 2 then "Z" else "LFundMoves$Saver;") RX3) U) ∧ (∀ E ∈ castWs, va_Nw (.castable E E) U) ∧ (∀ y ∈ declWs, va_Nw (.declares y) U) ∧ (∀ q ∈ strWs, ∃ sa : Nat, vk_R RX3 q.1 q.2 sa U) ∧
  vx_Zq Bundle.tN "UNASSIGNED_STACK" Bundle.steD (Wx b0) U U.heap ∧ vx_Zq Bundle.tN "SUPPRESSED_SENTINEL" Bundle.listD (Wx b0) U U.heap ∧ (∀ C ∈ [RX0, RX1, RX2], va_AO C U) ∧ va_AOA .long U
theorem EnvX.moved {b0 : Nat} {u U : State} (h : EnvX b0 u) (hW : u.WarmedH U.vm) (hk : ∀ a : Nat, a < u.heap.size → ¬ Wx b0 a → U.heap[a]? = u.heap[a]?) : EnvX b0 U := by
  obtain ⟨h1, h2, h2d, h3, h4, h5, h6, h7⟩ := h
  refine ⟨fun o i d n hh hm => va_Nw.warmF hW (h1 o i d n hh hm), fun E hE => va_Nw.warmC hW (h2 E hE), fun y hy => va_Nw.warmD hW (h2d y hy), fun q hq => ?_, ?_, ?_, fun C hC => va_AO.moved hW.alike (h6 C hC), over_moved (a := #[]) (a' := #[]) hW.alike h7⟩
  · obtain ⟨sa, h⟩ := h3 q hq
    exact ⟨sa, h.warm hW⟩
  · exact vx_Zq.moved hW.alike (h4.kept hk)
  · exact vx_Zq.moved hW.alike (h5.kept hk)
def At (G : GG) (b0 : Nat) (u : St) (H : Heap) : Prop := va_P G.1 vwCl (WO G u) H ∧ va_D (Wx b0) (WO G u)
def Ok (G : GG) (b0 : Nat) (u : St) (U : State) : Prop := b0 ≤ U.heap.size ∧ At G b0 u U.heap ∧ va_K G.1 vwCl (tyW G.2) U ∧ EnvX b0 U
def Qr (post : Option Value → St → Prop) (G : GG) (b0 : Nat) : Array Value → State → Outcome → State → Prop := fun _ st oc t => (∃ (v : Option Value) (u : St), oc = .returned v ∧ post v u ∧ At G b0 u t.heap) ∧ va_F (Wx b0) st t
def Xr (px : String → St → Prop) (G : GG) (b0 : Nat) : String → State → State → Prop := fun E st t => (∃ u : St, px E u ∧ At G b0 u t.heap) ∧ va_F (Wx b0) st t
def Cur (G : GG) (b0 : Nat) (u : St) (s : State) (H : Heap) (locs : List Loc) : Prop := b0 ≤ s.heap.size ∧ va_K G.1 vwCl (tyW G.2) s ∧ EnvX b0 s ∧ At G b0 u H ∧ va_S (Wx b0) s.heap H locs
theorem Ok.cur {G : GG} {b0 : Nat} {u : St} {s : State} (h : Ok G b0 u s) : Cur G b0 u s s.heap [] := ⟨h.1, h.2.2.1, h.2.2.2, h.2.1, va_S.rf⟩
theorem Cur.ok {G : GG} {b0 : Nat} {u : St} {s U : State} {H : Heap} {locs : List Loc} (h : Cur G b0 u s H locs) (hU : U.heap = H) (hW : s.WarmedH U.vm) : Ok G b0 u U := by
  obtain ⟨h1, h2, h3, h4, h5⟩ := h
  refine ⟨by rw [hU]; exact Nat.le_trans h1 h5.1, by rw [hU]; exact h4, va_K.moved hW.alike h2, h3.moved hW (fun a ha hn => by rw [hU]; exact h5.2.1 a ha hn)⟩
theorem okBlind {G : GG} {b0 : Nat} {u : St} {As : List Value} : FrameBlind (va_Pc As (Ok G b0 u)) := by
  intro a U g mk h
  obtain ⟨h1, h2, h3, h4, h5⟩ := h
  exact ⟨h1, h2, h3, va_K.moved (u := U) (U := U.calling g mk a) (Vm.Alike.refl U.vm) h4, h5.moved (State.WarmedH.refl U) (fun _ _ _ => rfl)⟩
end
section
section YR
variable {p : Program} {l : Launch} {e : Env} {R : Room} {s : State} {m : MethodId} {args : Array Value} {below : List Frame} {meth : Method} {c : Code} {H : Heap} {locs : List Loc} {cells slots : Nat} {Q : State → Prop}
variable {cc : ByteArray} {nL : Nat} {Ts : List Cond} {own : String} {pc : Nat} {ls : Array Slot} {rest : List Value} {lv : List (Nat × Value)}
variable {G : GG} {b0 : Nat} {ks : KK} {ad : AD} {T : TT} {P : PP}
/-! constants -/
theorem y_iconst (hM : CallFix p m c cc nL s args Ts own) {n : Int} (hdg : decode cc pc = .ok (.iconst n, 1)) (k : W p l e R s m args below meth c H locs cells slots Q (F0 m (pc + 1) ls (.int (iI n) :: rest))) : W p l e R s m args below meth c H locs cells slots Q (F0 m pc ls rest) := lv_iconst hM.1 hM.2.1 hdg rfl k
theorem y_bipush (hM : CallFix p m c cc nL s args Ts own) {n : Int} (hdg : decode cc pc = .ok (.bipush n, 2)) (hv : (Int8.ofInt n).toInt32 = iI n) (k : W p l e R s m args below meth c H locs cells slots Q (F0 m (pc + 2) ls (.int (iI n) :: rest))) : W p l e R s m args below meth c H locs cells slots Q (F0 m pc ls rest) := lv_bipush hM.1 hM.2.1 hdg hv k
theorem y_sipush (hM : CallFix p m c cc nL s args Ts own) {n : Int} (hdg : decode cc pc = .ok (.sipush n, 3)) (hv : (Int16.ofInt n).toInt32 = iI n) (k : W p l e R s m args below meth c H locs cells slots Q (F0 m (pc + 3) ls (.int (iI n) :: rest))) : W p l e R s m args below meth c H locs cells slots Q (F0 m pc ls rest) := lv_sipush hM.1 hM.2.1 hdg hv k
theorem y_lconst (hM : CallFix p m c cc nL s args Ts own) {n : Fin 2} (z : Int) (hz : Int64.ofNat (n : Nat) = lI z) (hdg : decode cc pc = .ok (.lconst n, 1)) (k : W p l e R s m args below meth c H locs cells slots Q (F0 m (pc + 1) ls (.long (lI z) :: rest))) : W p l e R s m args below meth c H locs cells slots Q (F0 m pc ls rest) := lv_lconst hM.1 hM.2.1 hdg hz k
theorem y_ldc (hM : CallFix p m c cc nL s args Ts own) {index : Nat} {v : Int32} (z : Int) (hz : v = iI z) (hconst : Cond.constant own index v ∈ Ts) (hdg : decode cc pc = .ok (.ldc index, 2)) (k : W p l e R s m args below meth c H locs cells slots Q (F0 m (pc + 2) ls (.int (iI z) :: rest))) : W p l e R s m args below meth c H locs cells slots Q (F0 m pc ls rest) := by
  subst hz
  exact lv_ldc hM.1 hM.2.1 hM.2.2.2.1 (hM.2.2.2.2 _ hconst) hdg k
theorem y_ldc2 (hM : CallFix p m c cc nL s args Ts own) {index : Nat} {v : Int64} (z : Int) (hz : v = lI z) (hconst : Cond.constantLong own index v ∈ Ts) (hdg : decode cc pc = .ok (.ldc2_w index, 3)) (k : W p l e R s m args below meth c H locs cells slots Q (F0 m (pc + 3) ls (.long (lI z) :: rest))) : W p l e R s m args below meth c H locs cells slots Q (F0 m pc ls rest) := by
  subst hz
  exact lv_ldc2 hM.1 hM.2.1 hM.2.2.2.1 (hM.2.2.2.2 _ hconst) hdg k
/-! arithmetic -/
theorem y_iadd (hM : CallFix p m c cc nL s args Ts own) {a b : Int} (hdg : decode cc pc = .ok (.iadd, 1)) (k : W p l e R s m args below meth c H locs cells slots Q (F0 m (pc + 1) ls (.int (iI (a + b)) :: rest))) : W p l e R s m args below meth c H locs cells slots Q (F0 m pc ls (.int (iI b) :: .int (iI a) :: rest)) := lv_iadd hM.1 hM.2.1 hdg (by rw [iI_add]; exact k)
theorem y_isub (hM : CallFix p m c cc nL s args Ts own) {a b : Int} (hdg : decode cc pc = .ok (.isub, 1)) (k : W p l e R s m args below meth c H locs cells slots Q (F0 m (pc + 1) ls (.int (iI (a - b)) :: rest))) : W p l e R s m args below meth c H locs cells slots Q (F0 m pc ls (.int (iI b) :: .int (iI a) :: rest)) := lv_isub hM.1 hM.2.1 hdg (by rw [iI_sub]; exact k)
theorem y_imul (hM : CallFix p m c cc nL s args Ts own) {a b : Int} (hdg : decode cc pc = .ok (.imul, 1)) (k : W p l e R s m args below meth c H locs cells slots Q (F0 m (pc + 1) ls (.int (iI (a * b)) :: rest))) : W p l e R s m args below meth c H locs cells slots Q (F0 m pc ls (.int (iI b) :: .int (iI a) :: rest)) := lv_imul hM.1 hM.2.1 hdg (by rw [iI_mul]; exact k)
theorem y_ladd (hM : CallFix p m c cc nL s args Ts own) {a b : Int} (hdg : decode cc pc = .ok (.ladd, 1)) (k : W p l e R s m args below meth c H locs cells slots Q (F0 m (pc + 1) ls (.long (lI (a + b)) :: rest))) : W p l e R s m args below meth c H locs cells slots Q (F0 m pc ls (.long (lI b) :: .long (lI a) :: rest)) := lv_ladd hM.1 hM.2.1 hdg (by rw [lI_add]; exact k)
theorem y_lsub (hM : CallFix p m c cc nL s args Ts own) {a b : Int} (hdg : decode cc pc = .ok (.lsub, 1)) (k : W p l e R s m args below meth c H locs cells slots Q (F0 m (pc + 1) ls (.long (lI (a - b)) :: rest))) : W p l e R s m args below meth c H locs cells slots Q (F0 m pc ls (.long (lI b) :: .long (lI a) :: rest)) := lv_lsub hM.1 hM.2.1 hdg (by rw [lI_sub]; exact k)
theorem y_lmul (hM : CallFix p m c cc nL s args Ts own) {a b : Int} (hdg : decode cc pc = .ok (.lmul, 1)) (k : W p l e R s m args below meth c H locs cells slots Q (F0 m (pc + 1) ls (.long (lI (a * b)) :: rest))) : W p l e R s m args below meth c H locs cells slots Q (F0 m pc ls (.long (lI b) :: .long (lI a) :: rest)) := lv_lmul hM.1 hM.2.1 hdg (by rw [lI_mul]; exact k)
theorem y_ldiv (hM : CallFix p m c cc nL s args Ts own) {a b : Int} (h : 0 ≤ a ∧ a < 9223372036854775808 ∧ 0 < b ∧ b < 9223372036854775808) (hdg : decode cc pc = .ok (.ldiv, 1)) (k : W p l e R s m args below meth c H locs cells slots Q (F0 m (pc + 1) ls (.long (lI (a / b)) :: rest))) : W p l e R s m args below meth c H locs cells slots Q (F0 m pc ls (.long (lI b) :: .long (lI a) :: rest)) := lv_ldiv hM.1 hM.2.1 hdg (fun q => by
  have h2 := congrArg Int64.toInt q
  rw [lI_T ⟨by omega, by omega⟩] at h2
  have h3 : (0 : Int64).toInt = 0 := by decide
  omega) (by rw [lI_div h.1 h.2.1 h.2.2.1 h.2.2.2]; exact k)
theorem y_i2l (hM : CallFix p m c cc nL s args Ts own) {a : Int} (ha : inI a) (hdg : decode cc pc = .ok (.i2l, 1)) (k : W p l e R s m args below meth c H locs cells slots Q (F0 m (pc + 1) ls (.long (lI a) :: rest))) : W p l e R s m args below meth c H locs cells slots Q (F0 m pc ls (.int (iI a) :: rest)) := lv_i2l hM.1 hM.2.1 hdg (iI_l ha) k
theorem y_l2i (hM : CallFix p m c cc nL s args Ts own) {a : Int} (hdg : decode cc pc = .ok (.l2i, 1)) (k : W p l e R s m args below meth c H locs cells slots Q (F0 m (pc + 1) ls (.int (iI a) :: rest))) : W p l e R s m args below meth c H locs cells slots Q (F0 m pc ls (.long (lI a) :: rest)) := lv_l2i hM.1 hM.2.1 hdg (lI_i a) k
def cmpI (a b : Int) : Int := if b < a then 1 else if a = b then 0 else -1
theorem cmpI_le (a b : Int) : cmpI a b ≤ 0 ↔ a ≤ b := by unfold cmpI; split <;> (try split) <;> omega
theorem cmpI_gt (a b : Int) : 0 < cmpI a b ↔ b < a := by unfold cmpI; split <;> (try split) <;> omega
theorem cmpI_eq (a b : Int) : cmpI a b = 0 ↔ a = b := by unfold cmpI; split <;> (try split) <;> omega
theorem cmpI_in (a b : Int) : inI (cmpI a b) := by unfold cmpI; split <;> (try split) <;> (constructor <;> omega)
theorem y_lcmp (hM : CallFix p m c cc nL s args Ts own) {a b : Int} (ha : inJ a) (hb : inJ b) (hdg : decode cc pc = .ok (.lcmp, 1)) (k : W p l e R s m args below meth c H locs cells slots Q (F0 m (pc + 1) ls (.int (iI (cmpI a b)) :: rest))) : W p l e R s m args below meth c H locs cells slots Q (F0 m pc ls (.long (lI b) :: .long (lI a) :: rest)) := by
  have hx : lg_cmp (lI a) (lI b) = iI (cmpI a b) := by
    unfold lg_cmp cmpI
    simp only [lI_lt hb ha, lI_eq ha hb]
    split
    · rfl
    · split <;> rfl
  exact W.lcmp hM.1 hM.2.1 hdg (by rw [hx]; exact k)
/-! locals -/
theorem y_iload_n (hM : CallFix p m c cc nL s args Ts own) (hl : lv_has ls nL lv) {k : Fin 4} {i : Nat} {x : Int32} (pl : Nat) (hp : lv[pl]? = some (i, .int x)) (hi : (k : Nat) = i) (hdg : decode cc pc = .ok (.iload_n k, 1)) (kk : W p l e R s m args below meth c H locs cells slots Q (F0 m (pc + 1) ls (.int x :: rest))) : W p l e R s m args below meth c H locs cells slots Q (F0 m pc ls rest) := lv_iload_n hM.1 hM.2.1 hdg hi (lv_at hl pl hp) kk
theorem y_iload (hM : CallFix p m c cc nL s args Ts own) (hl : lv_has ls nL lv) {i : Nat} {x : Int32} (pl : Nat) (hp : lv[pl]? = some (i, .int x)) (hdg : decode cc pc = .ok (.iload i, 2)) (kk : W p l e R s m args below meth c H locs cells slots Q (F0 m (pc + 2) ls (.int x :: rest))) : W p l e R s m args below meth c H locs cells slots Q (F0 m pc ls rest) := lv_iload hM.1 hM.2.1 hdg (lv_at hl pl hp) kk
theorem y_lload_n (hM : CallFix p m c cc nL s args Ts own) (hl : lv_has ls nL lv) {k : Fin 4} {i : Nat} {x : Int64} (pl : Nat) (hp : lv[pl]? = some (i, .long x)) (hi : (k : Nat) = i) (hdg : decode cc pc = .ok (.lload_n k, 1)) (kk : W p l e R s m args below meth c H locs cells slots Q (F0 m (pc + 1) ls (.long x :: rest))) : W p l e R s m args below meth c H locs cells slots Q (F0 m pc ls rest) := lv_lload_n hM.1 hM.2.1 hdg hi (lv_at hl pl hp) kk
theorem y_lload (hM : CallFix p m c cc nL s args Ts own) (hl : lv_has ls nL lv) {i : Nat} {x : Int64} (pl : Nat) (hp : lv[pl]? = some (i, .long x)) (hdg : decode cc pc = .ok (.lload i, 2)) (kk : W p l e R s m args below meth c H locs cells slots Q (F0 m (pc + 2) ls (.long x :: rest))) : W p l e R s m args below meth c H locs cells slots Q (F0 m pc ls rest) := lv_lload hM.1 hM.2.1 hdg (lv_at hl pl hp) kk
theorem y_aload_n (hM : CallFix p m c cc nL s args Ts own) (hl : lv_has ls nL lv) {k : Fin 4} {i : Nat} {x : Nat} (pl : Nat) (hp : lv[pl]? = some (i, .ref x)) (hi : (k : Nat) = i) (hdg : decode cc pc = .ok (.aload_n k, 1)) (kk : W p l e R s m args below meth c H locs cells slots Q (F0 m (pc + 1) ls (.ref x :: rest))) : W p l e R s m args below meth c H locs cells slots Q (F0 m pc ls rest) := lv_aload_n hM.1 hM.2.1 hdg hi (lv_at hl pl hp) kk
theorem y_aload (hM : CallFix p m c cc nL s args Ts own) (hl : lv_has ls nL lv) {i : Nat} {x : Nat} (pl : Nat) (hp : lv[pl]? = some (i, .ref x)) (hdg : decode cc pc = .ok (.aload i, 2)) (kk : W p l e R s m args below meth c H locs cells slots Q (F0 m (pc + 2) ls (.ref x :: rest))) : W p l e R s m args below meth c H locs cells slots Q (F0 m pc ls rest) := lv_aload hM.1 hM.2.1 hdg (lv_at hl pl hp) kk
theorem y_aload_nN (hM : CallFix p m c cc nL s args Ts own) (hl : lv_has ls nL lv) {k : Fin 4} {i : Nat} (pl : Nat) (hp : lv[pl]? = some (i, .null)) (hi : (k : Nat) = i) (hdg : decode cc pc = .ok (.aload_n k, 1)) (kk : W p l e R s m args below meth c H locs cells slots Q (F0 m (pc + 1) ls (.null :: rest))) : W p l e R s m args below meth c H locs cells slots Q (F0 m pc ls rest) := lv_aload_nN hM.1 hM.2.1 hdg hi (lv_at hl pl hp) kk
/-! branches -/
theorem y_if_eq (hM : CallFix p m c cc nL s args Ts own) {a : Int} (ha : inI a) {off : Int} {tgt : Nat} (hdg : decode cc pc = .ok (.ifCond .eq off, 3)) (ht : (pc : Int) + off = (tgt : Int)) (kt : a = 0 → W p l e R s m args below meth c H locs cells slots Q (F0 m tgt ls rest)) (kf : ¬ a = 0 → W p l e R s m args below meth c H locs cells slots Q (F0 m (pc + 3) ls rest)) : W p l e R s m args below meth c H locs cells slots Q (F0 m pc ls (.int (iI a) :: rest)) :=
  lv_if_eq hM.1 hM.2.1 hdg ht (fun h => kt ((iI_eq ha ⟨by omega, by omega⟩).mp h)) (fun h => kf (fun q => h ((iI_eq ha ⟨by omega, by omega⟩).mpr q)))
theorem y_if_ne (hM : CallFix p m c cc nL s args Ts own) {a : Int} (ha : inI a) {off : Int} {tgt : Nat} (hdg : decode cc pc = .ok (.ifCond .ne off, 3)) (ht : (pc : Int) + off = (tgt : Int)) (kt : ¬ a = 0 → W p l e R s m args below meth c H locs cells slots Q (F0 m tgt ls rest)) (kf : a = 0 → W p l e R s m args below meth c H locs cells slots Q (F0 m (pc + 3) ls rest)) : W p l e R s m args below meth c H locs cells slots Q (F0 m pc ls (.int (iI a) :: rest)) :=
  lv_if_ne hM.1 hM.2.1 hdg ht (fun h => kt (fun q => h ((iI_eq ha ⟨by omega, by omega⟩).mpr q))) (fun h => kf ((iI_eq ha ⟨by omega, by omega⟩).mp h))
theorem y_if_gt (hM : CallFix p m c cc nL s args Ts own) {a : Int} (ha : inI a) {off : Int} {tgt : Nat} (hdg : decode cc pc = .ok (.ifCond .gt off, 3)) (ht : (pc : Int) + off = (tgt : Int)) (kt : 0 < a → W p l e R s m args below meth c H locs cells slots Q (F0 m tgt ls rest)) (kf : ¬ 0 < a → W p l e R s m args below meth c H locs cells slots Q (F0 m (pc + 3) ls rest)) : W p l e R s m args below meth c H locs cells slots Q (F0 m pc ls (.int (iI a) :: rest)) :=
  lv_if_gt hM.1 hM.2.1 hdg ht (fun h => kt ((iI_lt ⟨by omega, by omega⟩ ha).mp h)) (fun h => kf (fun q => h ((iI_lt ⟨by omega, by omega⟩ ha).mpr q)))
theorem y_if_le (hM : CallFix p m c cc nL s args Ts own) {a : Int} (ha : inI a) {off : Int} {tgt : Nat} (hdg : decode cc pc = .ok (.ifCond .le off, 3)) (ht : (pc : Int) + off = (tgt : Int)) (kt : a ≤ 0 → W p l e R s m args below meth c H locs cells slots Q (F0 m tgt ls rest)) (kf : ¬ a ≤ 0 → W p l e R s m args below meth c H locs cells slots Q (F0 m (pc + 3) ls rest)) : W p l e R s m args below meth c H locs cells slots Q (F0 m pc ls (.int (iI a) :: rest)) :=
  lv_if_le hM.1 hM.2.1 hdg ht (fun h => kt ((iI_le ha ⟨by omega, by omega⟩).mp h)) (fun h => kf (fun q => h ((iI_le ha ⟨by omega, by omega⟩).mpr q)))
theorem y_icmp_eq (hM : CallFix p m c cc nL s args Ts own) {a b : Int} (ha : inI a) (hb : inI b) {off : Int} {tgt : Nat} (hdg : decode cc pc = .ok (.if_icmp .eq off, 3)) (ht : (pc : Int) + off = (tgt : Int)) (kt : a = b → W p l e R s m args below meth c H locs cells slots Q (F0 m tgt ls rest)) (kf : ¬ a = b → W p l e R s m args below meth c H locs cells slots Q (F0 m (pc + 3) ls rest)) : W p l e R s m args below meth c H locs cells slots Q (F0 m pc ls (.int (iI b) :: .int (iI a) :: rest)) :=
  lv_icmp_eq hM.1 hM.2.1 hdg ht (fun h => kt ((iI_eq ha hb).mp h)) (fun h => kf (fun q => h ((iI_eq ha hb).mpr q)))
theorem y_icmp_ne (hM : CallFix p m c cc nL s args Ts own) {a b : Int} (ha : inI a) (hb : inI b) {off : Int} {tgt : Nat} (hdg : decode cc pc = .ok (.if_icmp .ne off, 3)) (ht : (pc : Int) + off = (tgt : Int)) (kt : ¬ a = b → W p l e R s m args below meth c H locs cells slots Q (F0 m tgt ls rest)) (kf : a = b → W p l e R s m args below meth c H locs cells slots Q (F0 m (pc + 3) ls rest)) : W p l e R s m args below meth c H locs cells slots Q (F0 m pc ls (.int (iI b) :: .int (iI a) :: rest)) :=
  lv_icmp_ne hM.1 hM.2.1 hdg ht (fun h => kt (fun q => h ((iI_eq ha hb).mpr q))) (fun h => kf ((iI_eq ha hb).mp h))
theorem y_icmp_lt (hM : CallFix p m c cc nL s args Ts own) {a b : Int} (ha : inI a) (hb : inI b) {off : Int} {tgt : Nat} (hdg : decode cc pc = .ok (.if_icmp .lt off, 3)) (ht : (pc : Int) + off = (tgt : Int)) (kt : a < b → W p l e R s m args below meth c H locs cells slots Q (F0 m tgt ls rest)) (kf : ¬ a < b → W p l e R s m args below meth c H locs cells slots Q (F0 m (pc + 3) ls rest)) : W p l e R s m args below meth c H locs cells slots Q (F0 m pc ls (.int (iI b) :: .int (iI a) :: rest)) :=
  lv_icmp_lt hM.1 hM.2.1 hdg ht (fun h => kt ((iI_lt ha hb).mp h)) (fun h => kf (fun q => h ((iI_lt ha hb).mpr q)))
theorem y_icmp_ge (hM : CallFix p m c cc nL s args Ts own) {a b : Int} (ha : inI a) (hb : inI b) {off : Int} {tgt : Nat} (hdg : decode cc pc = .ok (.if_icmp .ge off, 3)) (ht : (pc : Int) + off = (tgt : Int)) (kt : b ≤ a → W p l e R s m args below meth c H locs cells slots Q (F0 m tgt ls rest)) (kf : ¬ b ≤ a → W p l e R s m args below meth c H locs cells slots Q (F0 m (pc + 3) ls rest)) : W p l e R s m args below meth c H locs cells slots Q (F0 m pc ls (.int (iI b) :: .int (iI a) :: rest)) :=
  lv_icmp_ge hM.1 hM.2.1 hdg ht (fun h => kt ((iI_le hb ha).mp h)) (fun h => kf (fun q => h ((iI_le hb ha).mpr q)))
theorem y_icmp_gt (hM : CallFix p m c cc nL s args Ts own) {a b : Int} (ha : inI a) (hb : inI b) {off : Int} {tgt : Nat} (hdg : decode cc pc = .ok (.if_icmp .gt off, 3)) (ht : (pc : Int) + off = (tgt : Int)) (kt : b < a → W p l e R s m args below meth c H locs cells slots Q (F0 m tgt ls rest)) (kf : ¬ b < a → W p l e R s m args below meth c H locs cells slots Q (F0 m (pc + 3) ls rest)) : W p l e R s m args below meth c H locs cells slots Q (F0 m pc ls (.int (iI b) :: .int (iI a) :: rest)) :=
  lv_icmp_gt hM.1 hM.2.1 hdg ht (fun h => kt ((iI_lt hb ha).mp h)) (fun h => kf (fun q => h ((iI_lt hb ha).mpr q)))
theorem y_icmp_le (hM : CallFix p m c cc nL s args Ts own) {a b : Int} (ha : inI a) (hb : inI b) {off : Int} {tgt : Nat} (hdg : decode cc pc = .ok (.if_icmp .le off, 3)) (ht : (pc : Int) + off = (tgt : Int)) (kt : a ≤ b → W p l e R s m args below meth c H locs cells slots Q (F0 m tgt ls rest)) (kf : ¬ a ≤ b → W p l e R s m args below meth c H locs cells slots Q (F0 m (pc + 3) ls rest)) : W p l e R s m args below meth c H locs cells slots Q (F0 m pc ls (.int (iI b) :: .int (iI a) :: rest)) :=
  lv_icmp_le hM.1 hM.2.1 hdg ht (fun h => kt ((iI_le ha hb).mp h)) (fun h => kf (fun q => h ((iI_le ha hb).mpr q)))
/-! fields -/
theorem y_get (hM : CallFix p m c cc nL s args Ts own) (hC : Cur G b0 (ks, ad, T, P) s H locs) {t i : Nat} (hk : (t, i) ∈ ks) {C : String} {Tc : u_T} {N ci index : Nat} {ref nm ds : String} {fs : List Value} (he : cF G.2 t (T t i) (P t i) = .inr (ci, fs)) (hc : vwCl[ci]? = some (C, Tc, N)) (hin : ∀ w ∈ u_ws C Tc N, w ∈ Ts) (k : Nat) (hk2 : k < N ∧ (Tc k).1 = ref ∧ (Tc k).2.1 = nm ∧ (Tc k).2.2.1 = ds) (hlink : Cond.fieldLink own index ref nm ds ∈ Ts) {v : Value} (hv : fs[k]? = some v) (hdg : decode cc pc = .ok (.getfield index, 3))
    (kk : W p l e R s m args below meth c H locs cells slots Q (F0 m (pc + 3) ls (v :: rest))) : W p l e R s m args below meth c H locs cells slots Q (F0 m pc ls (.ref (ad t i) :: rest)) := by
  obtain ⟨hkN, rfl, rfl, rfl⟩ := hk2
  obtain ⟨j, hj⟩ := List.getElem?_of_mem hk
  have he2 := WO_get (G := G) (ad := ad) (T := T) (P := P) hj
  rw [he] at he2
  exact va_get hM.1 hM.2.1 hM.2.2.2.2 hin hM.2.2.2.1 hC.2.1 hC.2.2.2.1.1 j he2 hc k hkN (hM.2.2.2.2 _ hlink) (fun _ h => h) hv hdg kk
theorem y_getN (hM : CallFix p m c cc nL s args Ts own) (hC : Cur G b0 (ks, ad, T, P) s H locs) {t i : Nat} (hk : (t, i) ∈ ks) {C : String} {Tc : u_T} {N ci index : Nat} {ref nm : String} {fs : List Value} (he : cF G.2 t (T t i) (P t i) = .inr (ci, fs)) (hc : vwCl[ci]? = some (C, Tc, N)) (hin : ∀ w ∈ u_ws C Tc N, w ∈ Ts) (k h : Nat) (hk2 : k < N ∧ (Tc k).1 = ref ∧ (Tc k).2.1 = nm ∧ (Tc k).2.2.1 = (if h = 0 then "I" else if h = 1 then "J" else if h = 2 then "Z" else "LFundMoves$Saver;")) (hlink : Cond.fieldLinkNest own index ref nm (if h = 0 then "I" else if h = 1 then "J" else if h = 2 then "Z" else "LFundMoves$Saver;") RX3 ∈ nestWs) {v : Value} (hv : fs[k]? = some v) (hdg : decode cc pc = .ok (.getfield index, 3))
    (kk : W p l e R s m args below meth c H locs cells slots Q (F0 m (pc + 3) ls (v :: rest))) : W p l e R s m args below meth c H locs cells slots Q (F0 m pc ls (.ref (ad t i) :: rest)) := by
  obtain ⟨hkN, rfl, rfl, h4⟩ := hk2
  obtain ⟨j, hj⟩ := List.getElem?_of_mem hk
  have he2 := WO_get (G := G) (ad := ad) (T := T) (P := P) hj
  rw [he] at he2
  have hn := hC.2.2.1.1 _ _ _ _ _ hlink
  rw [← h4] at hn
  exact va_getN hM.1 hM.2.1 hM.2.2.2.2 hin hM.2.2.2.1 hC.2.1 hC.2.2.2.1.1 j he2 hc k hkN (va_Nw.use rfl hn) (fun _ h => h) hv hdg kk
theorem y_put (hM : CallFix p m c cc nL s args Ts own) (hC : Cur G b0 (ks, ad, T, P) s H locs) {t i : Nat} (hk : (t, i) ∈ ks) {C : String} {Tc : u_T} {N ci index : Nat} {ref nm ds : String} {fs : List Value} (he : cF G.2 t (T t i) (P t i) = .inr (ci, fs)) (hc : vwCl[ci]? = some (C, Tc, N)) (hin : ∀ w ∈ u_ws C Tc N, w ∈ Ts) (ty0 : Nat → FieldType) (hty : ∀ k, k < N → parseFieldDescriptor (Tc k).2.2.1 = some (ty0 k)) (hnm : ∀ a, a < N → ∀ b, b < N → a ≠ b → (Tc a).2.1 ≠ (Tc b).2.1) (k : Nat) (hk2 : k < N ∧ (Tc k).1 = ref ∧ (Tc k).2.1 = nm ∧ (Tc k).2.2.1 = ds ∧ (Tc k).2.2.2 = false) (hlink : Cond.fieldLink own index ref nm ds ∈ Ts) {v : Value} {ty : FieldType} (hd : parseFieldDescriptor ds = some ty) (hn : narrow ty v = v) (hfit : fits ty v = true) (hl : k < fs.length) {T' : TT} {P' : PP} (he2 : .inr (ci, fs.set k v) = cF G.2 t (T' t i) (P' t i)) (hT : ∀ a b, ¬ (a = t ∧ b = i) → T' a b = T a b) (hP : ∀ a b, ¬ (a = t ∧ b = i) → P' a b = P a b) (hdg : decode cc pc = .ok (.putfield index, 3))
    (kk : ∀ (H1 : Heap) (locs1 : List Loc), Cur G b0 (ks, ad, T', P') s H1 locs1 → W p l e R s m args below meth c H1 locs1 cells slots Q (F0 m (pc + 3) ls rest)) : W p l e R s m args below meth c H locs cells slots Q (F0 m pc ls (v :: .ref (ad t i) :: rest)) := by
  obtain ⟨hkN, rfl, rfl, rfl, hfin⟩ := hk2
  obtain ⟨j, hj⟩ := List.getElem?_of_mem hk
  have h1 := WO_get (G := G) (ad := ad) (T := T) (P := P) hj
  rw [he] at h1
  obtain ⟨q1, q2, q3, q4, q5⟩ := hC
  refine va_put hM.1 hM.2.1 hM.2.2.2.2 hin ty0 hty hnm hM.2.2.2.1 q2 q4.1 q4.2 q5 j h1 hc k hkN (hM.2.2.2.2 _ hlink) (fun _ h => h) hfin hd hn hfit hl hdg (fun H1 locs1 hP1 hD1 hS1 => ?_)
  rw [WO_set q4.2 hj he2 hT hP] at hP1 hD1
  exact kk H1 locs1 ⟨q1, q2, q3, ⟨hP1, hD1⟩, hS1⟩
theorem y_putF (hM : CallFix p m c cc nL s args Ts own) (hin2 : meth.name = "<init>") (hC : Cur G b0 (ks, ad, T, P) s H locs) {t i : Nat} (hk : (t, i) ∈ ks) {C : String} {Tc : u_T} {N ci index : Nat} {ref nm ds : String} {fs : List Value} (he : cF G.2 t (T t i) (P t i) = .inr (ci, fs)) (hc : vwCl[ci]? = some (C, Tc, N)) (hin : ∀ w ∈ u_ws C Tc N, w ∈ Ts) (ty0 : Nat → FieldType) (hty : ∀ k, k < N → parseFieldDescriptor (Tc k).2.2.1 = some (ty0 k)) (hnm : ∀ a, a < N → ∀ b, b < N → a ≠ b → (Tc a).2.1 ≠ (Tc b).2.1) (k : Nat) (hk2 : k < N ∧ (Tc k).1 = ref ∧ (Tc k).2.1 = nm ∧ (Tc k).2.2.1 = ds ∧ (Tc k).2.2.2 = true ∧ ref = own) (hlink : Cond.fieldLink own index ref nm ds ∈ Ts) {v : Value} {ty : FieldType} (hd : parseFieldDescriptor ds = some ty) (hn : narrow ty v = v) (hfit : fits ty v = true) (hl : k < fs.length) {T' : TT} {P' : PP} (he2 : .inr (ci, fs.set k v) = cF G.2 t (T' t i) (P' t i)) (hT : ∀ a b, ¬ (a = t ∧ b = i) → T' a b = T a b) (hP : ∀ a b, ¬ (a = t ∧ b = i) → P' a b = P a b) (hdg : decode cc pc = .ok (.putfield index, 3))
    (kk : ∀ (H1 : Heap) (locs1 : List Loc), Cur G b0 (ks, ad, T', P') s H1 locs1 → W p l e R s m args below meth c H1 locs1 cells slots Q (F0 m (pc + 3) ls rest)) : W p l e R s m args below meth c H locs cells slots Q (F0 m pc ls (v :: .ref (ad t i) :: rest)) := by
  obtain ⟨hkN, h8, rfl, rfl, hfin, h9⟩ := hk2
  obtain ⟨j, hj⟩ := List.getElem?_of_mem hk
  have h1 := WO_get (G := G) (ad := ad) (T := T) (P := P) hj
  rw [he] at h1
  obtain ⟨q1, q2, q3, q4, q5⟩ := hC
  refine va_putF hM.1 hM.2.1 hM.2.2.2.2 hin ty0 hty hnm hM.2.2.2.1 q2 q4.1 q4.2 q5 j h1 hc k hkN (hM.2.2.2.2 _ hlink) (fun _ h => by rw [← h8]; exact h) hfin hin2 (h8.trans h9) hd hn hfit hl hdg (fun H1 locs1 hP1 hD1 hS1 => ?_)
  rw [WO_set q4.2 hj he2 hT hP] at hP1 hD1
  exact kk H1 locs1 ⟨q1, q2, q3, ⟨hP1, hD1⟩, hS1⟩
theorem y_putN (hM : CallFix p m c cc nL s args Ts own) (hC : Cur G b0 (ks, ad, T, P) s H locs) {t i : Nat} (hk : (t, i) ∈ ks) {C : String} {Tc : u_T} {N ci index : Nat} {ref nm : String} {fs : List Value} (he : cF G.2 t (T t i) (P t i) = .inr (ci, fs)) (hc : vwCl[ci]? = some (C, Tc, N)) (hin : ∀ w ∈ u_ws C Tc N, w ∈ Ts) (ty0 : Nat → FieldType) (hty : ∀ k, k < N → parseFieldDescriptor (Tc k).2.2.1 = some (ty0 k)) (hnm : ∀ a, a < N → ∀ b, b < N → a ≠ b → (Tc a).2.1 ≠ (Tc b).2.1) (k h : Nat) (hk2 : k < N ∧ (Tc k).1 = ref ∧ (Tc k).2.1 = nm ∧ (Tc k).2.2.1 = (if h = 0 then "I" else if h = 1 then "J" else if h = 2 then "Z" else "LFundMoves$Saver;") ∧ (Tc k).2.2.2 = false) (hlink : Cond.fieldLinkNest own index ref nm (if h = 0 then "I" else if h = 1 then "J" else if h = 2 then "Z" else "LFundMoves$Saver;") RX3 ∈ nestWs) {v : Value} {ty : FieldType} (hd : parseFieldDescriptor (if h = 0 then "I" else if h = 1 then "J" else if h = 2 then "Z" else "LFundMoves$Saver;") = some ty) (hn : narrow ty v = v) (hfit : fits ty v = true) (hl : k < fs.length) {T' : TT} {P' : PP} (he2 : .inr (ci, fs.set k v) = cF G.2 t (T' t i) (P' t i)) (hT : ∀ a b, ¬ (a = t ∧ b = i) → T' a b = T a b) (hP : ∀ a b, ¬ (a = t ∧ b = i) → P' a b = P a b) (hdg : decode cc pc = .ok (.putfield index, 3))
    (kk : ∀ (H1 : Heap) (locs1 : List Loc), Cur G b0 (ks, ad, T', P') s H1 locs1 → W p l e R s m args below meth c H1 locs1 cells slots Q (F0 m (pc + 3) ls rest)) : W p l e R s m args below meth c H locs cells slots Q (F0 m pc ls (v :: .ref (ad t i) :: rest)) := by
  obtain ⟨hkN, rfl, rfl, h4, hfin⟩ := hk2
  obtain ⟨j, hj⟩ := List.getElem?_of_mem hk
  have h1 := WO_get (G := G) (ad := ad) (T := T) (P := P) hj
  rw [he] at h1
  obtain ⟨q1, q2, q3, q4, q5⟩ := hC
  have hnw := q3.1 _ _ _ _ _ hlink
  rw [← h4] at hnw hd
  refine va_putN hM.1 hM.2.1 hM.2.2.2.2 hin ty0 hty hnm hM.2.2.2.1 q2 q4.1 q4.2 q5 j h1 hc k hkN (va_Nw.use rfl hnw) (fun _ h => h) hfin hd hn hfit hl hdg (fun H1 locs1 hP1 hD1 hS1 => ?_)
  rw [WO_set q4.2 hj he2 hT hP] at hP1 hD1
  exact kk H1 locs1 ⟨q1, q2, q3, ⟨hP1, hD1⟩, hS1⟩
/-! arrays -/
theorem y_iald (hM : CallFix p m c cc nL s args Ts own) (hC : Cur G b0 (ks, ad, T, P) s H locs) {t i : Nat} (hk : (t, i) ∈ ks) {n : Nat} (he : cF G.2 t (T t i) (P t i) = eI (G.2 5) n (T t i)) {z : Int} (hz : 0 ≤ z ∧ z < (n : Int)) (hn : n < 2147483648) {x : Int} (hx : T t i z.toNat = x) (hdg : decode cc pc = .ok (.iaload, 1)) (kk : W p l e R s m args below meth c H locs cells slots Q (F0 m (pc + 1) ls (.int (iI x) :: rest))) : W p l e R s m args below meth c H locs cells slots Q (F0 m pc ls (.int (iI z) :: .ref (ad t i) :: rest)) := by
  obtain ⟨j, hj⟩ := List.getElem?_of_mem hk
  have he2 := WO_get (G := G) (ad := ad) (T := T) (P := P) hj
  rw [he] at he2
  have hi : inI z := ⟨by omega, by omega⟩
  refine va_iald hM.1 hM.2.1 hC.2.1 hC.2.2.2.1.1 j 5 he2 rfl (iI_in hz.1 hz.2 hn) hdg ?_
  rw [iI_cl hi, hx]
  exact kk
theorem y_zald (hM : CallFix p m c cc nL s args Ts own) (hC : Cur G b0 (ks, ad, T, P) s H locs) {t i : Nat} (hk : (t, i) ∈ ks) {n : Nat} (he : cF G.2 t (T t i) (P t i) = eI (G.2 6) n (T t i)) {z : Int} (hz : 0 ≤ z ∧ z < (n : Int)) (hn : n < 2147483648) {x : Int} (hx : T t i z.toNat = x) (hdg : decode cc pc = .ok (.baload, 1)) (kk : W p l e R s m args below meth c H locs cells slots Q (F0 m (pc + 1) ls (.int (iI x) :: rest))) : W p l e R s m args below meth c H locs cells slots Q (F0 m pc ls (.int (iI z) :: .ref (ad t i) :: rest)) := by
  obtain ⟨j, hj⟩ := List.getElem?_of_mem hk
  have he2 := WO_get (G := G) (ad := ad) (T := T) (P := P) hj
  rw [he] at he2
  have hi : inI z := ⟨by omega, by omega⟩
  refine va_zald hM.1 hM.2.1 hC.2.1 hC.2.2.2.1.1 j 6 he2 rfl (iI_in hz.1 hz.2 hn) hdg ?_
  rw [iI_cl hi, hx]
  exact kk
theorem y_lald (hM : CallFix p m c cc nL s args Ts own) (hC : Cur G b0 (ks, ad, T, P) s H locs) {t i : Nat} (hk : (t, i) ∈ ks) {n : Nat} (he : cF G.2 t (T t i) (P t i) = eJ (G.2 2) n (T t i)) {z : Int} (hz : 0 ≤ z ∧ z < (n : Int)) (hn : n < 2147483648) {x : Int} (hx : T t i z.toNat = x) (hdg : decode cc pc = .ok (.laload, 1)) (kk : W p l e R s m args below meth c H locs cells slots Q (F0 m (pc + 1) ls (.long (lI x) :: rest))) : W p l e R s m args below meth c H locs cells slots Q (F0 m pc ls (.int (iI z) :: .ref (ad t i) :: rest)) := by
  obtain ⟨j, hj⟩ := List.getElem?_of_mem hk
  have he2 := WO_get (G := G) (ad := ad) (T := T) (P := P) hj
  rw [he] at he2
  have hi : inI z := ⟨by omega, by omega⟩
  refine va_lald hM.1 hM.2.1 hC.2.1 hC.2.2.2.1.1 j 2 he2 rfl (iI_in hz.1 hz.2 hn) hdg ?_
  rw [iI_cl hi, hx]
  exact kk
theorem y_aald (hM : CallFix p m c cc nL s args Ts own) (hC : Cur G b0 (ks, ad, T, P) s H locs) {t i : Nat} (hk : (t, i) ∈ ks) {n : Nat} {cA : ClassId} {C : String} (t0 : Nat) (he : cF G.2 t (T t i) (P t i) = eQ cA n (P t i)) (ht : (tyW G.2)[t0]? = some (cA, .object C)) {z : Int} (hz : 0 ≤ z ∧ z < (n : Int)) (hn : n < 2147483648) {r : Option Nat} (hr : P t i z.toNat = r) (hdg : decode cc pc = .ok (.aaload, 1)) (kk : W p l e R s m args below meth c H locs cells slots Q (F0 m (pc + 1) ls (va_rf r :: rest))) : W p l e R s m args below meth c H locs cells slots Q (F0 m pc ls (.int (iI z) :: .ref (ad t i) :: rest)) := by
  obtain ⟨j, hj⟩ := List.getElem?_of_mem hk
  have he2 := WO_get (G := G) (ad := ad) (T := T) (P := P) hj
  rw [he] at he2
  have hi : inI z := ⟨by omega, by omega⟩
  refine va_aldq hM.1 hM.2.1 hC.2.1 hC.2.2.2.1.1 j t0 he2 ht (iI_in hz.1 hz.2 hn) hdg ?_
  rw [iI_cl hi, hr]
  exact kk
/-- a row of long[][] -/
theorem y_aaldA (hM : CallFix p m c cc nL s args Ts own) (hC : Cur G b0 (ks, ad, T, P) s H locs) {t i : Nat} (hk : (t, i) ∈ ks) {n : Nat} (he : cF G.2 t (T t i) (P t i) = eQ (G.2 1) n (P t i)) {z : Int} (hz : 0 ≤ z ∧ z < (n : Int)) (hn : n < 2147483648) {r : Option Nat} (hr : P t i z.toNat = r) (hdg : decode cc pc = .ok (.aaload, 1)) (kk : W p l e R s m args below meth c H locs cells slots Q (F0 m (pc + 1) ls (va_rf r :: rest))) : W p l e R s m args below meth c H locs cells slots Q (F0 m pc ls (.int (iI z) :: .ref (ad t i) :: rest)) := by
  obtain ⟨j, hj⟩ := List.getElem?_of_mem hk
  have he2 := WO_get (G := G) (ad := ad) (T := T) (P := P) hj
  rw [he] at he2
  have hi : inI z := ⟨by omega, by omega⟩
  have hin := iI_in hz.1 hz.2 hn
  have hlt : (iI z).toNatClampNeg < n := Nat.not_le.mp fun q => hin (Or.inr q)
  refine W.aald (v := va_rf (P t i (iI z).toNatClampNeg)) (ty := .array .long) hM.1 hM.2.1 (hC.2.2.2.1.1 j _ he2) ((hC.2.1.2 1 _ rfl).1 n (fun j => va_rf (P t i j))) rfl (fun q => by cases q) (by show ¬ (iI z < 0 ∨ (arrV _ _ _).slots.size ≤ _); rw [arrV_size]; exact hin) (by show (arrV _ _ _).slots[_]? = _; rw [arrV_read _ _ hlt]) rfl rfl hdg ?_
  rw [iI_cl hi, hr]
  exact kk
theorem uR_f {α β : Type} (f : Nat → α) (g : α → β) (k : Nat) (v : α) : (fun j => g (uR f k v j)) = fun j => if j = k then g v else g (f j) := by
  funext j
  unfold uR
  split <;> rfl
theorem y_iast (hM : CallFix p m c cc nL s args Ts own) (hC : Cur G b0 (ks, ad, T, P) s H locs) {t i : Nat} (hk : (t, i) ∈ ks) {n : Nat} (he : ∀ f g, cF G.2 t f g = eI (G.2 5) n f) {z x : Int} (hz : 0 ≤ z ∧ z < (n : Int)) (hn : n < 2147483648) (hdg : decode cc pc = .ok (.iastore, 1)) (kk : ∀ (H1 : Heap) (locs1 : List Loc), Cur G b0 (ks, ad, up T t i z.toNat x, P) s H1 locs1 → W p l e R s m args below meth c H1 locs1 cells slots Q (F0 m (pc + 1) ls rest)) : W p l e R s m args below meth c H locs cells slots Q (F0 m pc ls (.int (iI x) :: .int (iI z) :: .ref (ad t i) :: rest)) := by
  obtain ⟨j, hj⟩ := List.getElem?_of_mem hk
  have he2 := WO_get (G := G) (ad := ad) (T := T) (P := P) hj
  rw [he] at he2
  have hi : inI z := ⟨by omega, by omega⟩
  obtain ⟨q1, q2, q3, q4, q5⟩ := hC
  refine va_iast hM.1 hM.2.1 q2 q4.1 q4.2 q5 j 5 he2 rfl (iI_in hz.1 hz.2 hn) hdg (fun H1 locs1 hP1 hD1 hS1 => ?_)
  rw [iI_cl hi] at hP1 hD1
  rw [WO_set q4.2 hj (T' := up T t i z.toNat x) (P' := P) (by
    rw [he, up_row]
    refine congrArg (fun q => (Sum.inl (G.2 5, n, Sum.inl q) : va_E)) ?_
    funext a
    unfold uR upd
    split <;> rfl) (fun a b h => up_ne h) (fun _ _ _ => rfl)] at hP1 hD1
  exact kk H1 locs1 ⟨q1, q2, q3, ⟨hP1, hD1⟩, hS1⟩
theorem y_zast (hM : CallFix p m c cc nL s args Ts own) (hC : Cur G b0 (ks, ad, T, P) s H locs) {t i : Nat} (hk : (t, i) ∈ ks) {n : Nat} (he : ∀ f g, cF G.2 t f g = eI (G.2 6) n f) {z x : Int} (hx : vp_nar .boolean (iI x) = iI x) (hz : 0 ≤ z ∧ z < (n : Int)) (hn : n < 2147483648) (hdg : decode cc pc = .ok (.bastore, 1)) (kk : ∀ (H1 : Heap) (locs1 : List Loc), Cur G b0 (ks, ad, up T t i z.toNat x, P) s H1 locs1 → W p l e R s m args below meth c H1 locs1 cells slots Q (F0 m (pc + 1) ls rest)) : W p l e R s m args below meth c H locs cells slots Q (F0 m pc ls (.int (iI x) :: .int (iI z) :: .ref (ad t i) :: rest)) := by
  obtain ⟨j, hj⟩ := List.getElem?_of_mem hk
  have he2 := WO_get (G := G) (ad := ad) (T := T) (P := P) hj
  rw [he] at he2
  have hi : inI z := ⟨by omega, by omega⟩
  obtain ⟨q1, q2, q3, q4, q5⟩ := hC
  refine va_zast hM.1 hM.2.1 q2 q4.1 q4.2 q5 j 6 he2 rfl (iI_in hz.1 hz.2 hn) hdg (fun H1 locs1 hP1 hD1 hS1 => ?_)
  rw [iI_cl hi, hx] at hP1 hD1
  rw [WO_set q4.2 hj (T' := up T t i z.toNat x) (P' := P) (by
    rw [he, up_row]
    refine congrArg (fun q => (Sum.inl (G.2 6, n, Sum.inl q) : va_E)) ?_
    funext a
    unfold uR upd
    split <;> rfl) (fun a b h => up_ne h) (fun _ _ _ => rfl)] at hP1 hD1
  exact kk H1 locs1 ⟨q1, q2, q3, ⟨hP1, hD1⟩, hS1⟩
theorem y_last (hM : CallFix p m c cc nL s args Ts own) (hC : Cur G b0 (ks, ad, T, P) s H locs) {t i : Nat} (hk : (t, i) ∈ ks) {n : Nat} (he : ∀ f g, cF G.2 t f g = eJ (G.2 2) n f) {z x : Int} (hz : 0 ≤ z ∧ z < (n : Int)) (hn : n < 2147483648) (hdg : decode cc pc = .ok (.lastore, 1)) (kk : ∀ (H1 : Heap) (locs1 : List Loc), Cur G b0 (ks, ad, up T t i z.toNat x, P) s H1 locs1 → W p l e R s m args below meth c H1 locs1 cells slots Q (F0 m (pc + 1) ls rest)) : W p l e R s m args below meth c H locs cells slots Q (F0 m pc ls (.long (lI x) :: .int (iI z) :: .ref (ad t i) :: rest)) := by
  obtain ⟨j, hj⟩ := List.getElem?_of_mem hk
  have he2 := WO_get (G := G) (ad := ad) (T := T) (P := P) hj
  rw [he] at he2
  have hi : inI z := ⟨by omega, by omega⟩
  obtain ⟨q1, q2, q3, q4, q5⟩ := hC
  refine va_last hM.1 hM.2.1 q2 q4.1 q4.2 q5 j 2 he2 rfl (iI_in hz.1 hz.2 hn) hdg (fun H1 locs1 hP1 hD1 hS1 => ?_)
  rw [iI_cl hi] at hP1 hD1
  rw [WO_set q4.2 hj (T' := up T t i z.toNat x) (P' := P) (by
    rw [he, up_row]
    refine congrArg (fun q => (Sum.inl (G.2 2, n, Sum.inr (Sum.inl q)) : va_E)) ?_
    funext a
    unfold uR vp_updL
    split <;> rfl) (fun a b h => up_ne h) (fun _ _ _ => rfl)] at hP1 hD1
  exact kk H1 locs1 ⟨q1, q2, q3, ⟨hP1, hD1⟩, hS1⟩
/-! the end of a method -/
theorem y_iret {post : Option Value → St → Prop} {px : String → St → Prop} {mc ms : Nat} {u : St} {x : Int32} (hM : CallFix p m c cc nL s args Ts own) (hr : meth.sig.returnType = some .int) (hlk : meth.locks = false) (hC : Cur G b0 u s H locs) (hp : post (some (.int x)) u) (hc : cells ≤ mc) (hs : slots ≤ ms) (hdg : decode cc pc = .ok (.ireturn, 1)) : W p l e R s m args below meth c H locs cells slots (vx_MQ below (Qr post G b0) (Xr px G b0) args s mc ms (Wx b0)) (F0 m pc ls [.int x]) :=
  W.widen hc hs (vx_ret (W.iret hM.1 hM.2.1 hr (fun t ht hW => ⟨⟨_, u, rfl, hp, by rw [ht]; exact hC.2.2.2.1⟩, hC.2.2.2.2.F ht⟩) hC.2.2.2.2.2.2 hdg hlk))
theorem y_zret {post : Option Value → St → Prop} {px : String → St → Prop} {mc ms : Nat} {u : St} {x : Int32} (hM : CallFix p m c cc nL s args Ts own) (hr : meth.sig.returnType = some .boolean) (hlk : meth.locks = false) (hC : Cur G b0 u s H locs) (hn : narrow .boolean (.int x) = .int x) (hp : post (some (.int x)) u) (hc : cells ≤ mc) (hs : slots ≤ ms) (hdg : decode cc pc = .ok (.ireturn, 1)) : W p l e R s m args below meth c H locs cells slots (vx_MQ below (Qr post G b0) (Xr px G b0) args s mc ms (Wx b0)) (F0 m pc ls [.int x]) :=
  W.widen hc hs (vx_ret (W.zret hM.1 hM.2.1 hr hn (fun t ht hW => ⟨⟨_, u, rfl, hp, by rw [ht]; exact hC.2.2.2.1⟩, hC.2.2.2.2.F ht⟩) hC.2.2.2.2.2.2 hdg hlk))
theorem y_lret {post : Option Value → St → Prop} {px : String → St → Prop} {mc ms : Nat} {u : St} {x : Int64} (hM : CallFix p m c cc nL s args Ts own) (hr : meth.sig.returnType = some .long) (hlk : meth.locks = false) (hC : Cur G b0 u s H locs) (hp : post (some (.long x)) u) (hc : cells ≤ mc) (hs : slots ≤ ms) (hdg : decode cc pc = .ok (.lreturn, 1)) : W p l e R s m args below meth c H locs cells slots (vx_MQ below (Qr post G b0) (Xr px G b0) args s mc ms (Wx b0)) (F0 m pc ls [.long x]) :=
  W.widen hc hs (vx_ret (W.lret hM.1 hM.2.1 hr (fun t ht hW => ⟨⟨_, u, rfl, hp, by rw [ht]; exact hC.2.2.2.1⟩, hC.2.2.2.2.F ht⟩) hC.2.2.2.2.2.2 hdg hlk))
theorem y_aret {post : Option Value → St → Prop} {px : String → St → Prop} {mc ms : Nat} {u : St} {a : Nat} {C : String} (hM : CallFix p m c cc nL s args Ts own) (hr : meth.sig.returnType = some (.object C)) (hlk : meth.locks = false) (hC : Cur G b0 u s H locs) (hp : post (some (.ref a)) u) (hc : cells ≤ mc) (hs : slots ≤ ms) (hdg : decode cc pc = .ok (.areturn, 1)) : W p l e R s m args below meth c H locs cells slots (vx_MQ below (Qr post G b0) (Xr px G b0) args s mc ms (Wx b0)) (F0 m pc ls [.ref a]) :=
  W.widen hc hs (vx_ret (W.aret hM.1 hM.2.1 hr (Or.inl ⟨_, rfl⟩) (Or.inr ⟨_, rfl⟩) (fun t ht hW => ⟨⟨_, u, rfl, hp, by rw [ht]; exact hC.2.2.2.1⟩, hC.2.2.2.2.F ht⟩) hC.2.2.2.2.2.2 hdg hlk))
theorem y_vret {post : Option Value → St → Prop} {px : String → St → Prop} {mc ms : Nat} {u : St} (hM : CallFix p m c cc nL s args Ts own) (hr : meth.sig.returnType = none) (hlk : meth.locks = false) (hC : Cur G b0 u s H locs) (hp : post none u) (hc : cells ≤ mc) (hs : slots ≤ ms) (hdg : decode cc pc = .ok (.return_, 1)) : W p l e R s m args below meth c H locs cells slots (vx_MQ below (Qr post G b0) (Xr px G b0) args s mc ms (Wx b0)) (F0 m pc ls []) :=
  W.widen hc hs (vx_ret (W.vret hM.1 hM.2.1 hr (fun t ht hW => ⟨⟨_, u, rfl, hp, by rw [ht]; exact hC.2.2.2.1⟩, hC.2.2.2.2.F ht⟩) hC.2.2.2.2.2.2 hdg hlk))
/-- an exception that isn't caught here -/
theorem y_out {post : Option Value → St → Prop} {px : String → St → Prop} {mc ms : Nat} {u : St} {E : String} {ce : Cell} {q : Addr} (hto : ∀ x ∈ c.exceptionTable.toList, False) (hlk : meth.locks = false) (hC : Cur G b0 u s H locs) (hcell : H[q]? = some ce) (hv : ce.vm = .none) (hcl : s.vm.findClass E = some ce.cls) (hp : px E u) (hc : cells ≤ mc) (hs : slots ≤ ms) : vx_W p l e R s m args below meth c H locs cells slots (vx_MQ below (Qr post G b0) (Xr px G b0) args s mc ms (Wx b0)) (F0 m pc ls rest) q :=
  vx_out (fun x hx => (hto x hx).elim) hlk hcell hv hcl (fun t ht hA => ⟨⟨u, hp, by rw [ht]; exact hC.2.2.2.1⟩, hC.2.2.2.2.F ht⟩) hC.2.2.2.2.2.2 hc hs
abbrev excN : List String := ["java/lang/RuntimeException", "java/lang/Exception"]
abbrev ngL (cls : String) : List Cond := [Cond.castable cls cls, .declares (Bundle.initS "java/lang/RuntimeException"), .declares (Bundle.initS "java/lang/Exception"), .declares (Bundle.initS Bundle.tN)]
theorem y_throw {post : Option Value → St → Prop} {px : String → St → Prop} {mc ms : Nat} {u : St} (hM : CallFix p m c cc nL s args Ts RX3) (hto : ∀ x ∈ c.exceptionTable.toList, False) (hfl : l.stackTraces = false) (hlk : meth.locks = false) (hls : ls.size = nL) (hC : Cur G b0 u s H locs) {cls text : String} {ik is ic : Nat} (hcls : cls ∈ castWs ∧ Bundle.fit cls = true) (hstr : (is, text) ∈ strWs) (hng : ∀ w ∈ (vx_atS RX3 ic cls excN).filter (fun w => !goodWord w), w ∈ ngL cls) (hgood : ∀ w ∈ Cond.classLink RX3 ik cls :: Cond.initialized cls :: vx_atS RX3 ic cls excN, vx_ot w = true) (hkw : Cond.classLink RX3 ik cls ∈ Ts ∧ Cond.initialized cls ∈ Ts) (hgw : ∀ w ∈ (vx_atS RX3 ic cls excN).filter goodWord, w ∈ Ts)
    (d0 : decode cc pc = .ok (.new ik, 3)) (d3 : decode cc (pc + 3) = .ok (.dup, 1)) (d4 : decode cc (pc + 4) = .ok (.ldc is, 2)) (d6 : decode cc (pc + 6) = .ok (.invokespecial ic, 3)) (d9 : decode cc (pc + 9) = .ok (.athrow, 1))
    (hR : 5 < R.frames ∧ (rest.map fun v => v.category).sum + 82 ≤ R.locals ∧ cells + 1 ≤ R.cells ∧ slots + 6 ≤ R.slots) (hp : px cls u) (hc : cells + 1 ≤ mc) (hs : slots + 6 ≤ ms) : W p l e R s m args below meth c H locs cells slots (vx_MQ below (Qr post G b0) (Xr px G b0) args s mc ms (Wx b0)) (F0 m pc ls rest) := by
  obtain ⟨q1, q2, q3, q4, q5⟩ := hC
  obtain ⟨sa, hsa⟩ := q3.2.2.2.1 _ hstr
  refine vx_throwS (A := Wx b0) (names := excN) hM.1 hM.2.1 hfl hM.2.2.2.1 hcls.2 (by decide +kernel) (hM.2.2.2.2 _ hkw.1) (hM.2.2.2.2 _ hkw.2) hsa (vx_hat (fun w hw => hM.2.2.2.2 _ (hgw w hw)) hng (vx_c (va_Nw.use rfl (q3.2.1 _ hcls.1)) (vx_c (va_Nw.use rfl (q3.2.2.1 _ (by decide +kernel))) (vx_c (va_Nw.use rfl (q3.2.2.1 _ (by decide +kernel))) (vx_c (va_Nw.use rfl (q3.2.2.1 _ (by decide +kernel))) vx_n))))) hgood q3.2.2.2.2.1 q3.2.2.2.2.2.1 q5 (hls.trans hM.2.2.1.symm) d0 d3 d4 d6 d9 (fun x hx => (hto x hx).elim) hR.1 (by have := hR.2.1; simp only [List.length_cons, List.length_nil]; omega) hR.2.2.1 hR.2.2.2 hlk (fun t hA hz hk => ⟨⟨u, hp, ⟨q4.1.kept (fun k q hq => hk q.1 (q4.1 k q hq).lt), q4.2⟩⟩, ⟨Nat.le_trans q5.1 hz, fun q h1 h2 => ?_⟩⟩) q5.2.2 hc hs
  rw [hk q (Nat.lt_of_lt_of_le h1 q5.1)]
  exact q5.2.1 q h1 h2
/-! calls -/
theorem y_recv (hC : Cur G b0 (ks, ad, T, P) s H locs) {t i : Nat} (hk : (t, i) ∈ ks) {C : String} {Tc : u_T} {N ci : Nat} {fs : List Value} (he : cF G.2 t (T t i) (P t i) = .inr (ci, fs)) (hc : vwCl[ci]? = some (C, Tc, N)) : ∃ cell : Cell, H[ad t i]? = some cell ∧ cell.vm.isStatics = false ∧ s.vm.findClass C = some cell.cls := by
  obtain ⟨j, hj⟩ := List.getElem?_of_mem hk
  have he2 := WO_get (G := G) (ad := ad) (T := T) (P := P) hj
  rw [he] at he2
  exact va_recv hC.2.1 hC.2.2.2.1.1 hc he2
theorem y_run {y : MethodName} {mc ms : Nat} {post : Option Value → St → Prop} {px : String → St → Prop} {u : St} {a : Array Value} {st0 : List Value} (hr : vx_Run p l e R s m args below meth c H locs cells slots mc ms (F0 m pc ls st0) rest (Qr post G b0 a) (Xr px G b0) (Wx b0)) (hC : Cur G b0 u s H locs)
    (kx : ∀ (E : String) (ce : Cell) (q9 : Addr) (u1 : St) (H1 : Heap) (locs1 : List Loc), px E u1 → Cur G b0 u1 s H1 locs1 → H1[q9]? = some ce → ce.vm = .none → s.vm.findClass E = some ce.cls → vx_W p l e R s m args below meth c H1 locs1 (cells + mc) (slots + ms) Q (F0 m pc ls rest) q9)
    (kk : ∀ (v : Option Value) (u1 : St) (H1 : Heap) (locs1 : List Loc), post v u1 → Cur G b0 u1 s H1 locs1 → W p l e R s m args below meth c H1 locs1 (cells + mc) (slots + ms) Q (F0 m (pc + 3) ls (v.toList ++ rest))) : W p l e R s m args below meth c H locs cells slots Q (F0 m pc ls st0) := by
  obtain ⟨q1, q2, q3, q4, q5⟩ := hC
  intro T hT X
  rcases hr T hT X with ⟨v, st₀, t, T', L, h0, X', hL, e1, e2, ⟨⟨v2, u1, hv, hp, hat⟩, hF⟩, st⟩ | ⟨q, st₀, t, T', L, E, ce, h0, X', hL, e1, e2, ⟨⟨u1, hp, hat⟩, hF⟩, hce, hcv, hcl, st⟩
  · cases hv
    obtain ⟨k1, k2, k3⟩ := vx_keep h0 e1 q5 (fun _ _ h => h) (fun _ h => h) hL hF
    obtain ⟨t2, a1, b1⟩ := kk v u1 T'.heap (locs ++ L) hp ⟨q1, q2, q3, by rw [e1]; exact hat, k3⟩ T' rfl X'
    exact ⟨t2, st t2 a1, b1⟩
  · obtain ⟨k1, k2, k3⟩ := vx_keep h0 e1 q5 (fun _ _ h => h) (fun _ h => h) hL hF
    obtain ⟨t2, a1, b1⟩ := kx E ce q u1 T'.heap (locs ++ L) hp ⟨q1, q2, q3, by rw [e1]; exact hat, k3⟩ (by rw [e1]; exact hce) hcv hcl T' rfl X'
    exact ⟨t2, st.trans a1, b1⟩
theorem y_callV {y : MethodName} {bytes : ByteArray} {maxL mc ms n index : Nat} {ret : Option FieldType} {ws : List Cond} {rm : Room} {post : Option Value → St → Prop} {px : String → St → Prop} {u : St} {C : String} {b : Addr} {As st0 : List Value} (hM : CallFix p m c cc nL s args Ts own) (hC : Cur G b0 u s H locs) (hMet : vx_Met l y ws rm (va_Pc (.ref b :: As) (Ok G b0 u)) (Qr post G b0) (Xr px G b0) mc ms (Wx b0)) (cw : CallW R s args own C index y bytes maxL ret ws rm mc ms n) (hrv : ∃ cell : Cell, H[b]? = some cell ∧ cell.vm.isStatics = false ∧ s.vm.findClass C = some cell.cls) (hn : As.length = n) (hls : ls.size = nL) (hst : st0 = As.reverse ++ .ref b :: rest) (hW : (rest.map fun v => v.category).sum ≤ 8) (hdg : decode cc pc = .ok (.invokevirtual index, 3)) (hf : cells + mc ≤ R.cells ∧ slots + ms ≤ R.slots)
    (kx : ∀ (E : String) (ce : Cell) (q9 : Addr) (u1 : St) (H1 : Heap) (locs1 : List Loc), px E u1 → Cur G b0 u1 s H1 locs1 → H1[q9]? = some ce → ce.vm = .none → s.vm.findClass E = some ce.cls → vx_W p l e R s m args below meth c H1 locs1 (cells + mc) (slots + ms) Q (F0 m pc ls rest) q9)
    (kk : ∀ (v : Option Value) (u1 : St) (H1 : Heap) (locs1 : List Loc), post v u1 → Cur G b0 u1 s H1 locs1 → W p l e R s m args below meth c H1 locs1 (cells + mc) (slots + ms) Q (F0 m (pc + 3) ls (v.toList ++ rest))) : W p l e R s m args below meth c H locs cells slots Q (F0 m pc ls st0) :=
  y_run (y := y) (vx_runV hM hMet cw ⟨okBlind, hrv, fun U hU hW => ⟨rfl, hC.ok hU hW⟩⟩ rfl hn hls hst (lv_room hW) hdg hf) hC kx kk
theorem y_callS {y : MethodName} {bytes : ByteArray} {maxL mc ms n index : Nat} {ret : Option FieldType} {ws : List Cond} {rm : Room} {post : Option Value → St → Prop} {px : String → St → Prop} {u : St} {As st0 : List Value} (hM : CallFix p m c cc nL s args Ts own) (hC : Cur G b0 u s H locs) (hMet : vx_Met l y ws rm (va_Pc As (Ok G b0 u)) (Qr post G b0) (Xr px G b0) mc ms (Wx b0)) (cw : CallB R s args own index y bytes maxL ret ws rm mc ms n ∧ (Cond.static y).before args s = true) (hn : As.length = n) (hls : ls.size = nL) (hst : st0 = As.reverse ++ rest) (hW : (rest.map fun v => v.category).sum ≤ 8) (hdg : decode cc pc = .ok (.invokestatic index, 3)) (hf : cells + mc ≤ R.cells ∧ slots + ms ≤ R.slots)
    (kx : ∀ (E : String) (ce : Cell) (q9 : Addr) (u1 : St) (H1 : Heap) (locs1 : List Loc), px E u1 → Cur G b0 u1 s H1 locs1 → H1[q9]? = some ce → ce.vm = .none → s.vm.findClass E = some ce.cls → vx_W p l e R s m args below meth c H1 locs1 (cells + mc) (slots + ms) Q (F0 m pc ls rest) q9)
    (kk : ∀ (v : Option Value) (u1 : St) (H1 : Heap) (locs1 : List Loc), post v u1 → Cur G b0 u1 s H1 locs1 → W p l e R s m args below meth c H1 locs1 (cells + mc) (slots + ms) Q (F0 m (pc + 3) ls (v.toList ++ rest))) : W p l e R s m args below meth c H locs cells slots Q (F0 m pc ls st0) :=
  y_run (y := y) (vx_runS hM hMet cw ⟨okBlind, fun U hU hW => ⟨rfl, hC.ok hU hW⟩⟩ rfl hn hls hst (lv_room hW) hdg hf) hC kx kk
end YR
/-- a method that throws nothing -/
abbrev noX : String → St → Prop := fun _ _ => False
theorem met_of_vx {l : Launch} {y : MethodName} {ws : List Cond} {rm : Room} {Pc : Array Value → State → Prop} {Qc : Array Value → State → Outcome → State → Prop} {mc ms : Nat} {free : Addr → Prop} {G : GG} {b0 : Nat} (h : vx_Met l y ws rm Pc Qc (Xr noX G b0) mc ms free) : Met l y ws rm Pc Qc mc ms free := by
  intro p e h1 h2 h3 s m args below h4 h5 h6 h7
  obtain ⟨n, o, a1, a2, a3, a4⟩ := h p e h1 h2 h3 s m args below h4 h5 h6 h7
  refine ⟨n, o, a1, a2, a3, ?_⟩
  rcases a4 with a4 | ⟨q, -, E, ce, L, ⟨⟨u, hu, -⟩, -⟩, -⟩
  · exact a4
  · exact hu.elim
section YI
variable {p : Program} {l : Launch} {e : Env} {R : Room} {s : State} {m : MethodId} {args : Array Value} {below : List Frame} {meth : Method} {c : Code} {H : Heap} {locs : List Loc} {cells slots : Nat} {Q : State → Prop}
variable {cc : ByteArray} {nL : Nat} {Ts : List Cond} {own : String} {pc : Nat} {ls : Array Slot} {rest : List Value}
variable {G : GG} {b0 : Nat} {ks : KK} {ad : AD} {T : TT} {P : PP}
/-- a constructor that throws nothing -/
theorem y_callI {y : MethodName} {bytes : ByteArray} {maxL mc ms n index : Nat} {ws : List Cond} {rm : Room} {post : Option Value → St → Prop} {u : St} {b : Addr} {As st0 : List Value} (hM : CallFix p m c cc nL s args Ts own) (hC : Cur G b0 u s H locs) (hMet : vx_Met l y ws rm (va_Pc (.ref b :: As) (Ok G b0 u)) (Qr post G b0) (Xr noX G b0) mc ms (Wx b0)) (cw : CallB R s args own index y bytes maxL none ws rm mc ms n ∧ y.name = "<init>" ∧ (Cond.instanceMethod y).before args s = true) (hn : As.length = n) (hls : ls.size = nL) (hst : st0 = As.reverse ++ .ref b :: rest) (hW : (rest.map fun v => v.category).sum ≤ 8) (hdg : decode cc pc = .ok (.invokespecial index, 3)) (hf : cells + mc ≤ R.cells ∧ slots + ms ≤ R.slots)
    (kk : ∀ (v : Option Value) (u1 : St) (H1 : Heap) (locs1 : List Loc), post v u1 → Cur G b0 u1 s H1 locs1 → W p l e R s m args below meth c H1 locs1 (cells + mc) (slots + ms) Q (F0 m (pc + 3) ls (v.toList ++ rest))) : W p l e R s m args below meth c H locs cells slots Q (F0 m pc ls st0) := by
  have hr := va_runI (H := H) (locs := locs) (cells := cells) (slots := slots) (e := e) (below := below) (meth := meth) (g := F0 m pc ls st0) (rest := rest) hM (met_of_vx hMet) cw ⟨okBlind, fun U hU hW => ⟨rfl, hC.ok hU hW⟩⟩ rfl hn hls hst (lv_room hW) hdg hf
  obtain ⟨q1, q2, q3, q4, q5⟩ := hC
  intro T hT X
  obtain ⟨v, st₀, t, T', L, h0, X', hL, e1, e2, ⟨⟨v2, u1, hv, hp, hat⟩, hF⟩, st⟩ := hr T hT X
  cases hv
  obtain ⟨k1, k2, k3⟩ := vx_keep h0 e1 q5 (fun _ _ h => h) (fun _ h => h) hL hF
  obtain ⟨t2, a1, b1⟩ := kk v u1 T'.heap (locs ++ L) hp ⟨q1, q2, q3, by rw [e1]; exact hat, k3⟩ T' rfl X'
  exact ⟨t2, st t2 a1, b1⟩
end YI
theorem cF_up {cy : Nat → ClassId} {t i k : Nat} {z : Int} {e : va_E} {T : TT} {g : Nat → Option Nat} (h : e = cF cy t (uR (T t i) k z) g) : e = cF cy t (up T t i k z t i) g := by
  rw [up_row]
  exact h
theorem cF_upP {cy : Nat → ClassId} {t i k : Nat} {z : Option Nat} {e : va_E} {P : PP} {f : Nat → Int} (h : e = cF cy t f (uR (P t i) k z)) : e = cF cy t f (upP P t i k z t i) := by
  rw [upP_row]
  exact h
end
section
/-- which exception -/
def exn : Nat → String
  | 1 => eA
  | 2 => eS
  | _ => eB
/-- how the ends of methods are told: an int, a long, nothing, a thing; and what is thrown -/
abbrev pI (F : Int → Prop) (U : St) : Option Value → St → Prop := fun v u1 => ∃ r : Int, v = some (.int (iI r)) ∧ F r ∧ u1 = U
abbrev pJ (F : Int → Prop) (U : St) : Option Value → St → Prop := fun v u1 => ∃ r : Int, v = some (.long (lI r)) ∧ F r ∧ u1 = U
abbrev pV (F : Prop) (U : St) : Option Value → St → Prop := fun v u1 => v = none ∧ F ∧ u1 = U
abbrev pA (a : Nat) (F : Prop) (U : St) : Option Value → St → Prop := fun v u1 => v = some (.ref a) ∧ F ∧ u1 = U
abbrev pX (F : Nat → Prop) (U : St) : String → St → Prop := fun E u1 => ∃ x : Nat, E = exn x ∧ F x ∧ u1 = U
/-! ===== prices ===== -/
def idxT (T : TT) (p : Nat) (d : Int) : Nat → Nat
  | 0 => 0
  | n + 1 => if d < T 7 p (n + 1) then idxT T p d n else n + 1
def valT (T : TT) (p : Nat) (d : Int) : Int := T 8 p (idxT T p d (T 6 p 2).toNat)
def putT (T : TT) (p : Nat) (d v : Int) : TT :=
  if T 7 p (T 6 p 2).toNat = d then up T 8 p (T 6 p 2).toNat v
  else if 60 ≤ T 6 p 2 then T
  else up (up (up T 6 p 2 (T 6 p 2 + 1)) 7 p (T 6 p 2 + 1).toNat d) 8 p (T 6 p 2 + 1).toNat v
theorem idxT_le (T : TT) (p : Nat) (d : Int) : ∀ n, idxT T p d n ≤ n
  | 0 => Nat.le_refl _
  | n + 1 => by
    unfold idxT
    split
    · exact Nat.le_succ_of_le (idxT_le T p d n)
    · exact Nat.le_refl _
/-! ===== orders ===== -/
def dueT (T : TT) (k : Nat) : Int := T 11 k 4 + (if T 11 k 3 = 0 then 3 else 2)
def lateT (T : TT) (k : Nat) (d : Int) : Int := if dueT T k < d then d - dueT T k else 0
def goT (T : TT) (k : Nat) (d lb : Int) : TT :=
  if T 11 k 3 = 2 then up (up (up T 11 k 6 (T 11 k 6 + lb)) 11 k 4 d) 11 k 3 (T 11 k 3 + 1)
  else up (up (up T 11 k 5 (T 11 k 5 + lb)) 11 k 4 d) 11 k 3 (T 11 k 3 + 1)
def thF (m pr : Int) : Int := m * 1000 / pr
def moF (u pr : Int) : Int := u * pr / 1000
def coF (u pr : Int) : Int := (u * pr + 1000 - 1) / 1000
/-- the price of a sale or a purchase at provider p -/
def prF (T : TT) (p : Nat) (f : Int) : Int := if f = 0 then valT T p (T 0 0 5) else T 0 0 6
/-- the ghost: which saver an order moves -/
def mvT (T : TT) (k : Nat) : Nat := (T 11 k 10).toNat
def sellT (T : TT) (k : Nat) (f : Int) : TT :=
  up (up (up T 11 k 7 (T 10 (mvT T k) 1)) 11 k 8 (moF (T 10 (mvT T k) 1) (prF T (T 11 k 1).toNat f))) 10 (mvT T k) 1 0
def allL (T : TT) (k : Nat) (lb : Int) : Int := T 11 k 5 + lb
def timT (T : TT) (k : Nat) (al : Int) : Int := thF (moF (T 11 k 7) (valT T (T 11 k 1).toNat (T 11 k 4 - T 11 k 5))) (valT T (T 11 k 2).toNat (T 0 0 5 - al))
def gotT (T : TT) (k : Nat) (f : Int) : Int := thF (T 11 k 8) (prF T (T 11 k 2).toNat f)
def lakT (T : TT) (k : Nat) (lb f : Int) : Int := if 0 < allL T k lb then (if gotT T k f < timT T k (allL T k lb) then timT T k (allL T k lb) - gotT T k f else 0) else 0
def shaT (T : TT) (k : Nat) (co al : Int) : TT :=
  if al ≤ 0 then T
  else up (up T 9 (T 11 k 1).toNat (T 11 k 2).toNat (T 9 (T 11 k 1).toNat (T 11 k 2).toNat + co * T 11 k 5 / al)) 3 0 (T 11 k 2).toNat (T 3 0 (T 11 k 2).toNat + (co - co * T 11 k 5 / al))
def arrT (T : TT) (i : Nat) (h u : Int) : TT := up (up (up T 10 i 0 h) 10 i 1 u) 10 i 2 0
def buyT (T : TT) (k : Nat) (lb f : Int) : TT :=
  arrT (up (shaT T k (coF (lakT T k lb f) (valT T (T 11 k 2).toNat (T 0 0 5))) (allL T k lb)) 11 k 9 (lakT T k lb f)) (mvT T k) (T 11 k 2) (gotT T k f + lakT T k lb f)
def stpT (T : TT) (k : Nat) (f : Int) : TT :=
  goT (if T 11 k 3 = 1 then sellT T k f else if T 11 k 3 = 2 then buyT T k (lateT T k (T 0 0 5)) f else T) k (T 0 0 5) (lateT T k (T 0 0 5))
/-! ===== what the class's methods take as given: keys and pointers; numbers ===== -/
def FI (ks : KK) (ad : AD) (P : PP) : Prop := (0, 0) ∈ ks ∧ (1, 0) ∈ ks ∧ (2, 0) ∈ ks ∧ (3, 0) ∈ ks ∧ (4, 0) ∈ ks ∧ (5, 0) ∈ ks ∧ P 0 0 0 = some (ad 1 0) ∧ P 0 0 1 = some (ad 2 0) ∧ P 0 0 2 = some (ad 3 0) ∧ P 0 0 3 = some (ad 4 0) ∧ P 0 0 4 = some (ad 5 0)
def RK (ks : KK) (ad : AD) (P : PP) : Prop := ∀ p : Nat, p < 5 → (6, p) ∈ ks ∧ (7, p) ∈ ks ∧ (8, p) ∈ ks ∧ (9, p) ∈ ks ∧ P 1 0 p = some (ad 6 p) ∧ P 2 0 p = some (ad 9 p) ∧ P 6 p 0 = some (ad 7 p) ∧ P 6 p 1 = some (ad 8 p)
def RN (T : TT) : Prop := ∀ p : Nat, p < 5 → 0 ≤ T 6 p 2 ∧ T 6 p 2 ≤ 60 ∧ (∀ j : Nat, inI (T 7 p j)) ∧ (∀ j : Nat, (j : Int) ≤ T 6 p 2 → 100 ≤ T 8 p j ∧ T 8 p j ≤ 10000)
def DN (T : TT) : Prop := 0 ≤ T 0 0 5 ∧ T 0 0 5 ≤ 2000 ∧ 100 ≤ T 0 0 6 ∧ T 0 0 6 ≤ 10000
def SK (ks : KK) (ad : AD) (T : TT) (P : PP) : Prop := 0 ≤ T 0 0 7 ∧ T 0 0 7 ≤ 10 ∧ (∀ i : Nat, i < 10 → P 4 0 i = if (i : Int) < T 0 0 7 then some (ad 10 i) else none) ∧ ∀ i : Nat, (i : Int) < T 0 0 7 → (10, i) ∈ ks
def SN (T : TT) : Prop := ∀ i : Nat, (i : Int) < T 0 0 7 → 0 ≤ T 10 i 0 ∧ T 10 i 0 < 5 ∧ 0 ≤ T 10 i 1 ∧ T 10 i 1 ≤ 100000000 ∧ 0 ≤ T 10 i 2 ∧ T 10 i 2 ≤ 1
def OK1 (ks : KK) (ad : AD) (T : TT) (P : PP) : Prop := 0 ≤ T 0 0 8 ∧ T 0 0 8 ≤ 30 ∧ (∀ k : Nat, k < 30 → P 5 0 k = if (k : Int) < T 0 0 8 then some (ad 11 k) else none) ∧ ∀ k : Nat, (k : Int) < T 0 0 8 → (11, k) ∈ ks ∧ P 11 k 0 = some (ad 10 (mvT T k)) ∧ 0 ≤ T 11 k 10 ∧ T 11 k 10 < T 0 0 7
def ON (T : TT) : Prop := ∀ k : Nat, (k : Int) < T 0 0 8 → 0 ≤ T 11 k 1 ∧ T 11 k 1 < 5 ∧ 0 ≤ T 11 k 2 ∧ T 11 k 2 < 5 ∧ 0 ≤ T 11 k 3 ∧ T 11 k 3 ≤ 3 ∧ 0 ≤ T 11 k 4 ∧ T 11 k 4 ≤ T 0 0 5 ∧ 0 ≤ T 11 k 5 ∧ (T 11 k 3 ≤ 2 → T 11 k 5 ≤ T 11 k 4) ∧ T 11 k 5 ≤ 2000 ∧ 0 ≤ T 11 k 6 ∧ T 11 k 6 ≤ 2000 ∧ 0 ≤ T 11 k 7 ∧ T 11 k 7 ≤ 100000000 ∧ 0 ≤ T 11 k 8 ∧ T 11 k 8 ≤ 1000000000 ∧ 0 ≤ T 11 k 9 ∧ T 11 k 9 ≤ 100000000
theorem valT_in {T : TT} (h : RN T) {p : Nat} (hp : p < 5) (d : Int) : 100 ≤ valT T p d ∧ valT T p d ≤ 10000 := by
  obtain ⟨h1, h2, h3, h4⟩ := h p hp
  refine h4 _ ?_
  have := idxT_le T p d (T 6 p 2).toNat
  omega
/-- room -/
abbrev rmX (f c n lo : Nat) : Room := { frames := f, cells := c, slots := n, locals := lo }
theorem ngA : ∀ w ∈ (vx_atS RX3 58 eA excN).filter (fun w => !goodWord w), w ∈ ngL eA := by decide +kernel
theorem ngS : ∀ w ∈ (vx_atS RX3 65 eS excN).filter (fun w => !goodWord w), w ∈ ngL eS := by decide +kernel
theorem ngB : ∀ w ∈ (vx_atS RX3 236 eB excN).filter (fun w => !goodWord w), w ∈ ngL eB := by decide +kernel
theorem goA : ∀ w ∈ Cond.classLink RX3 54 eA :: Cond.initialized eA :: vx_atS RX3 58 eA excN, vx_ot w = true := by decide +kernel
theorem goS : ∀ w ∈ Cond.classLink RX3 61 eS :: Cond.initialized eS :: vx_atS RX3 65 eS excN, vx_ot w = true := by decide +kernel
theorem goB : ∀ w ∈ Cond.classLink RX3 232 eB :: Cond.initialized eB :: vx_atS RX3 236 eB excN, vx_ot w = true := by decide +kernel
theorem caA : eA ∈ castWs ∧ Bundle.fit eA = true := by decide +kernel
theorem caS : eS ∈ castWs ∧ Bundle.fit eS = true := by decide +kernel
theorem caB : eB ∈ castWs ∧ Bundle.fit eB = true := by decide +kernel
end
section
set_option maxRecDepth 100000 in
set_option maxHeartbeats 8000000 in
theorem c_isOutside (l : Launch) (hfl : l.stackTraces = false) (G : GG) (b0 : Nat) (u : St) (v lo hi : Int) (h1 : inI v) (h2 : inI lo) (h3 : inI hi) : vx_Met l yX3_isOutside wsX3_isOutside (rmX 0 0 0 0) (va_Pc [.int (iI (v)), .int (iI (lo)), .int (iI (hi))] (Ok G b0 u)) (Qr (pI (fun r => (r = 0 ∧ lo ≤ v ∧ v ≤ hi) ∨ (r = 1 ∧ (v < lo ∨ hi < v))) u) G b0) (Xr (noX) G b0) 0 0 (Wx b0) := by
  refine vx_ofW (cc := cX3_isOutside) (maxL := 3) (ret := (some .boolean)) (by decide +kernel) rfl ?_
  intro p e s m args below meth c s₁ B hml hto hv
  obtain ⟨rfl, hok⟩ := hv
  have hM : CallFix p m c cX3_isOutside 3 s _ wsX3_isOutside RX3 := ⟨B.exec, B.bytes, hml, findClass_of_methodNamed B.named, atoms_spec (ws := wsX3_isOutside) B.pre⟩
  have hr := B.returns
  have hlk := B.notSynchronized
  have hC := hok.cur
  have hl := lv_entry ([.int (iI (v)), .int (iI (lo)), .int (iI (hi))]) (n := 3) (Nat.le_of_ble_eq_true rfl)
  rw [lg_entry_eq]
  generalize (lg_sl ([.int (iI (v)), .int (iI (lo)), .int (iI (hi))]) ++ List.replicate (3 - (lg_sl ([.int (iI (v)), .int (iI (lo)), .int (iI (hi))])).length) Slot.unset).toArray = ls at hl ⊢
  have hl : lv_has ls 3 [(0, .int (iI (v))), (1, .int (iI (lo))), (2, .int (iI (hi)))] := hl
  refine y_iload_n hM hl 0 rfl rfl dX3_isOutside_0 ?_
  refine y_iload_n hM hl 1 rfl rfl dX3_isOutside_1 ?_
  refine y_icmp_lt hM (by constructor <;> omega) (by constructor <;> omega) (tgt := 10) dX3_isOutside_2 (by decide) (fun c_2 => ?_) (fun c_2 => ?_)
  ·
    refine y_iconst hM dX3_isOutside_10 ?_
    refine lv_goto (tgt := 15) hM.1 hM.2.1 dX3_isOutside_11 (by decide) ?_
    exact y_zret hM hr hlk hC (by decide) ⟨_, rfl, (by (try dsimp only); omega), rfl⟩ (Nat.le_of_ble_eq_true rfl) (Nat.le_of_ble_eq_true rfl) dX3_isOutside_15
  ·
    refine y_iload_n hM hl 0 rfl rfl dX3_isOutside_5 ?_
    refine y_iload_n hM hl 2 rfl rfl dX3_isOutside_6 ?_
    refine y_icmp_le hM (by constructor <;> omega) (by constructor <;> omega) (tgt := 14) dX3_isOutside_7 (by decide) (fun c_7 => ?_) (fun c_7 => ?_)
    ·
      refine y_iconst hM dX3_isOutside_14 ?_
      exact y_zret hM hr hlk hC (by decide) ⟨_, rfl, (by (try dsimp only); omega), rfl⟩ (Nat.le_of_ble_eq_true rfl) (Nat.le_of_ble_eq_true rfl) dX3_isOutside_15
    ·
      refine y_iconst hM dX3_isOutside_10 ?_
      refine lv_goto (tgt := 15) hM.1 hM.2.1 dX3_isOutside_11 (by decide) ?_
      exact y_zret hM hr hlk hC (by decide) ⟨_, rfl, (by (try dsimp only); omega), rfl⟩ (Nat.le_of_ble_eq_true rfl) (Nat.le_of_ble_eq_true rfl) dX3_isOutside_15

set_option maxRecDepth 100000 in
set_option maxHeartbeats 8000000 in
theorem c_isProvider (l : Launch) (hfl : l.stackTraces = false) (G : GG) (b0 : Nat) (u : St) (v : Int) (h1 : inI v) : vx_Met l yX3_isProvider wsX3_isProvider (rmX 1 0 0 22) (va_Pc [.int (iI (v))] (Ok G b0 u)) (Qr (pI (fun r => (r = 1 ∧ 0 ≤ v ∧ v < 5) ∨ (r = 0 ∧ (v < 0 ∨ 5 ≤ v))) u) G b0) (Xr (noX) G b0) 0 0 (Wx b0) := by
  refine vx_ofW (cc := cX3_isProvider) (maxL := 1) (ret := (some .boolean)) (by decide +kernel) rfl ?_
  intro p e s m args below meth c s₁ B hml hto hv
  obtain ⟨rfl, hok⟩ := hv
  have hM : CallFix p m c cX3_isProvider 1 s _ wsX3_isProvider RX3 := ⟨B.exec, B.bytes, hml, findClass_of_methodNamed B.named, atoms_spec (ws := wsX3_isProvider) B.pre⟩
  have hr := B.returns
  have hlk := B.notSynchronized
  have hC := hok.cur
  have hl := lv_entry ([.int (iI (v))]) (n := 1) (Nat.le_of_ble_eq_true rfl)
  rw [lg_entry_eq]
  generalize (lg_sl ([.int (iI (v))]) ++ List.replicate (1 - (lg_sl ([.int (iI (v))])).length) Slot.unset).toArray = ls at hl ⊢
  have hl : lv_has ls 1 [(0, .int (iI (v)))] := hl
  refine y_iload_n hM hl 0 rfl rfl dX3_isProvider_0 ?_
  refine y_iconst hM dX3_isProvider_1 ?_
  refine y_iconst hM dX3_isProvider_2 ?_
  refine y_callS hM hC (c_isOutside l hfl G b0 u (v) (0) (4) (by constructor <;> omega) (by constructor <;> omega) (by constructor <;> omega)) (va_cwS 3 hM.2.2.2.2 gX3_isProvider_X3_isOutside rfl rfl rfl (by decide +kernel) ⟨(Nat.le_of_ble_eq_true rfl), (Nat.le_of_ble_eq_true rfl)⟩) rfl hl.1 rfl (Nat.le_of_ble_eq_true rfl) dX3_isProvider_3 ⟨(Nat.le_of_ble_eq_true rfl), (Nat.le_of_ble_eq_true rfl)⟩ (fun E ce q9 u1 H locs hx hC hce hcv hcl => hx.elim) (fun v u1 H locs hp hC => ?_)
  obtain ⟨r_3, rfl, h_3, hu⟩ := hp; rw [hu] at hC; clear hu
  try dsimp only at h_3
  refine W.eq (g2 := F0 m 6 ls [.int (iI (r_3))]) rfl ?_
  refine y_if_ne hM (by constructor <;> omega) (tgt := 13) dX3_isProvider_6 (by decide) (fun c_6 => ?_) (fun c_6 => ?_)
  ·
    refine y_iconst hM dX3_isProvider_13 ?_
    exact y_zret hM hr hlk hC (by decide) ⟨_, rfl, (by (try dsimp only); omega), rfl⟩ (Nat.le_of_ble_eq_true rfl) (Nat.le_of_ble_eq_true rfl) dX3_isProvider_14
  ·
    refine y_iconst hM dX3_isProvider_9 ?_
    refine lv_goto (tgt := 14) hM.1 hM.2.1 dX3_isProvider_10 (by decide) ?_
    exact y_zret hM hr hlk hC (by decide) ⟨_, rfl, (by (try dsimp only); omega), rfl⟩ (Nat.le_of_ble_eq_true rfl) (Nat.le_of_ble_eq_true rfl) dX3_isProvider_14

set_option maxRecDepth 100000 in
set_option maxHeartbeats 8000000 in
theorem c_checkProvider (l : Launch) (hfl : l.stackTraces = false) (G : GG) (b0 : Nat) (u : St) (v : Int) (h1 : inI v) : vx_Met l yX3_checkProvider wsX3_checkProvider (rmX 6 1 6 82) (va_Pc [.int (iI (v))] (Ok G b0 u)) (Qr (pV (0 ≤ v ∧ v < 5) u) G b0) (Xr (pX (fun x => x = 1 ∧ (v < 0 ∨ 5 ≤ v)) u) G b0) 1 6 (Wx b0) := by
  refine vx_ofW (cc := cX3_checkProvider) (maxL := 1) (ret := none) (by decide +kernel) rfl ?_
  intro p e s m args below meth c s₁ B hml hto hv
  obtain ⟨rfl, hok⟩ := hv
  have hM : CallFix p m c cX3_checkProvider 1 s _ wsX3_checkProvider RX3 := ⟨B.exec, B.bytes, hml, findClass_of_methodNamed B.named, atoms_spec (ws := wsX3_checkProvider) B.pre⟩
  have hr := B.returns
  have hlk := B.notSynchronized
  have hC := hok.cur
  have hl := lv_entry ([.int (iI (v))]) (n := 1) (Nat.le_of_ble_eq_true rfl)
  rw [lg_entry_eq]
  generalize (lg_sl ([.int (iI (v))]) ++ List.replicate (1 - (lg_sl ([.int (iI (v))])).length) Slot.unset).toArray = ls at hl ⊢
  have hl : lv_has ls 1 [(0, .int (iI (v)))] := hl
  refine y_iload_n hM hl 0 rfl rfl dX3_checkProvider_0 ?_
  refine y_callS hM hC (c_isProvider l hfl G b0 u (v) (by constructor <;> omega)) (va_cwS 1 hM.2.2.2.2 gX3_checkProvider_X3_isProvider rfl rfl rfl (by decide +kernel) ⟨(Nat.le_of_ble_eq_true rfl), (Nat.le_of_ble_eq_true rfl)⟩) rfl hl.1 rfl (Nat.le_of_ble_eq_true rfl) dX3_checkProvider_1 ⟨(Nat.le_of_ble_eq_true rfl), (Nat.le_of_ble_eq_true rfl)⟩ (fun E ce q9 u1 H locs hx hC hce hcv hcl => hx.elim) (fun v u1 H locs hp hC => ?_)
  obtain ⟨r_1, rfl, h_1, hu⟩ := hp; rw [hu] at hC; clear hu
  try dsimp only at h_1
  refine W.eq (g2 := F0 m 4 ls [.int (iI (r_1))]) rfl ?_
  refine y_if_ne hM (by constructor <;> omega) (tgt := 17) dX3_checkProvider_4 (by decide) (fun c_4 => ?_) (fun c_4 => ?_)
  ·
    exact y_vret hM hr hlk hC ⟨rfl, (by (try dsimp only); omega), rfl⟩ (Nat.le_of_ble_eq_true rfl) (Nat.le_of_ble_eq_true rfl) dX3_checkProvider_17
  ·
    exact y_throw hM hto hfl hlk hl.1 hC caA (text := "provider out of range") (by decide +kernel) ngA goA ⟨(by decide +kernel), (by decide +kernel)⟩ (by decide +kernel) dX3_checkProvider_7 dX3_checkProvider_10 dX3_checkProvider_11 dX3_checkProvider_13 dX3_checkProvider_16 ⟨(Nat.le_of_ble_eq_true rfl), (Nat.le_of_ble_eq_true rfl), (Nat.le_of_ble_eq_true rfl), (Nat.le_of_ble_eq_true rfl)⟩ ⟨1, rfl, (by (try dsimp only); omega), rfl⟩ (Nat.le_of_ble_eq_true rfl) (Nat.le_of_ble_eq_true rfl)

set_option maxRecDepth 100000 in
set_option maxHeartbeats 8000000 in
theorem c_checkPrice (l : Launch) (hfl : l.stackTraces = false) (G : GG) (b0 : Nat) (u : St) (v : Int) (h1 : inI v) : vx_Met l yX3_checkPrice wsX3_checkPrice (rmX 6 1 6 82) (va_Pc [.int (iI (v))] (Ok G b0 u)) (Qr (pV (100 ≤ v ∧ v ≤ 10000) u) G b0) (Xr (pX (fun x => x = 1 ∧ (v < 100 ∨ 10000 < v)) u) G b0) 1 6 (Wx b0) := by
  refine vx_ofW (cc := cX3_checkPrice) (maxL := 1) (ret := none) (by decide +kernel) rfl ?_
  intro p e s m args below meth c s₁ B hml hto hv
  obtain ⟨rfl, hok⟩ := hv
  have hM : CallFix p m c cX3_checkPrice 1 s _ wsX3_checkPrice RX3 := ⟨B.exec, B.bytes, hml, findClass_of_methodNamed B.named, atoms_spec (ws := wsX3_checkPrice) B.pre⟩
  have hr := B.returns
  have hlk := B.notSynchronized
  have hC := hok.cur
  have hl := lv_entry ([.int (iI (v))]) (n := 1) (Nat.le_of_ble_eq_true rfl)
  rw [lg_entry_eq]
  generalize (lg_sl ([.int (iI (v))]) ++ List.replicate (1 - (lg_sl ([.int (iI (v))])).length) Slot.unset).toArray = ls at hl ⊢
  have hl : lv_has ls 1 [(0, .int (iI (v)))] := hl
  refine y_iload_n hM hl 0 rfl rfl dX3_checkPrice_0 ?_
  refine y_bipush hM dX3_checkPrice_1 (by decide) ?_
  refine y_sipush hM dX3_checkPrice_3 (by decide) ?_
  refine y_callS hM hC (c_isOutside l hfl G b0 u (v) (100) (10000) (by constructor <;> omega) (by constructor <;> omega) (by constructor <;> omega)) (va_cwS 3 hM.2.2.2.2 gX3_checkPrice_X3_isOutside rfl rfl rfl (by decide +kernel) ⟨(Nat.le_of_ble_eq_true rfl), (Nat.le_of_ble_eq_true rfl)⟩) rfl hl.1 rfl (Nat.le_of_ble_eq_true rfl) dX3_checkPrice_6 ⟨(Nat.le_of_ble_eq_true rfl), (Nat.le_of_ble_eq_true rfl)⟩ (fun E ce q9 u1 H locs hx hC hce hcv hcl => hx.elim) (fun v u1 H locs hp hC => ?_)
  obtain ⟨r_6, rfl, h_6, hu⟩ := hp; rw [hu] at hC; clear hu
  try dsimp only at h_6
  refine W.eq (g2 := F0 m 9 ls [.int (iI (r_6))]) rfl ?_
  refine y_if_eq hM (by constructor <;> omega) (tgt := 22) dX3_checkPrice_9 (by decide) (fun c_9 => ?_) (fun c_9 => ?_)
  ·
    exact y_vret hM hr hlk hC ⟨rfl, (by (try dsimp only); omega), rfl⟩ (Nat.le_of_ble_eq_true rfl) (Nat.le_of_ble_eq_true rfl) dX3_checkPrice_22
  ·
    exact y_throw hM hto hfl hlk hl.1 hC caA (text := "price out of range") (by decide +kernel) ngA goA ⟨(by decide +kernel), (by decide +kernel)⟩ (by decide +kernel) dX3_checkPrice_12 dX3_checkPrice_15 dX3_checkPrice_16 dX3_checkPrice_18 dX3_checkPrice_21 ⟨(Nat.le_of_ble_eq_true rfl), (Nat.le_of_ble_eq_true rfl), (Nat.le_of_ble_eq_true rfl), (Nat.le_of_ble_eq_true rfl)⟩ ⟨1, rfl, (by (try dsimp only); omega), rfl⟩ (Nat.le_of_ble_eq_true rfl) (Nat.le_of_ble_eq_true rfl)

set_option maxRecDepth 100000 in
set_option maxHeartbeats 8000000 in
theorem c_checkHolding (l : Launch) (hfl : l.stackTraces = false) (G : GG) (b0 : Nat) (u : St) (v : Int) (h1 : inJ v) : vx_Met l yX3_checkHolding wsX3_checkHolding (rmX 6 1 6 82) (va_Pc [.long (lI (v))] (Ok G b0 u)) (Qr (pV (v ≤ 100000000) u) G b0) (Xr (pX (fun x => x = 2 ∧ 100000000 < v) u) G b0) 1 6 (Wx b0) := by
  refine vx_ofW (cc := cX3_checkHolding) (maxL := 2) (ret := none) (by decide +kernel) rfl ?_
  intro p e s m args below meth c s₁ B hml hto hv
  obtain ⟨rfl, hok⟩ := hv
  have hM : CallFix p m c cX3_checkHolding 2 s _ wsX3_checkHolding RX3 := ⟨B.exec, B.bytes, hml, findClass_of_methodNamed B.named, atoms_spec (ws := wsX3_checkHolding) B.pre⟩
  have hr := B.returns
  have hlk := B.notSynchronized
  have hC := hok.cur
  have hl := lv_entry ([.long (lI (v))]) (n := 2) (Nat.le_of_ble_eq_true rfl)
  rw [lg_entry_eq]
  generalize (lg_sl ([.long (lI (v))]) ++ List.replicate (2 - (lg_sl ([.long (lI (v))])).length) Slot.unset).toArray = ls at hl ⊢
  have hl : lv_has ls 2 [(0, .long (lI (v)))] := hl
  refine y_lload_n hM hl 0 rfl rfl dX3_checkHolding_0 ?_
  refine y_ldc2 hM (v := 100000000) (100000000) (by decide) (by decide +kernel) dX3_checkHolding_1 ?_
  refine y_lcmp hM (by constructor <;> omega) (by constructor <;> omega) dX3_checkHolding_4 ?_
  have hcl_4 := cmpI_le (v) (100000000)
  have hcg_4 := cmpI_gt (v) (100000000)
  have hce_4 := cmpI_eq (v) (100000000)
  refine y_if_le hM (cmpI_in _ _) (tgt := 18) dX3_checkHolding_5 (by decide) (fun c_5 => ?_) (fun c_5 => ?_)
  ·
    exact y_vret hM hr hlk hC ⟨rfl, (by (try dsimp only); omega), rfl⟩ (Nat.le_of_ble_eq_true rfl) (Nat.le_of_ble_eq_true rfl) dX3_checkHolding_18
  ·
    exact y_throw hM hto hfl hlk hl.1 hC caS (text := "the saver would have too many thousandths") (by decide +kernel) ngS goS ⟨(by decide +kernel), (by decide +kernel)⟩ (by decide +kernel) dX3_checkHolding_8 dX3_checkHolding_11 dX3_checkHolding_12 dX3_checkHolding_14 dX3_checkHolding_17 ⟨(Nat.le_of_ble_eq_true rfl), (Nat.le_of_ble_eq_true rfl), (Nat.le_of_ble_eq_true rfl), (Nat.le_of_ble_eq_true rfl)⟩ ⟨2, rfl, (by (try dsimp only); omega), rfl⟩ (Nat.le_of_ble_eq_true rfl) (Nat.le_of_ble_eq_true rfl)

set_option maxRecDepth 100000 in
set_option maxHeartbeats 8000000 in
theorem c_thousandthsFor (l : Launch) (hfl : l.stackTraces = false) (G : GG) (b0 : Nat) (u : St) (m_ pr : Int) (hm : 0 ≤ m_ ∧ m_ ≤ 9000000000000000) (hp : 0 < pr ∧ pr ≤ 10000) : vx_Met l yX3_thousandthsFor wsX3_thousandthsFor (rmX 0 0 0 0) (va_Pc [.long (lI (m_)), .int (iI (pr))] (Ok G b0 u)) (Qr (pJ (fun r => r = thF m_ pr) u) G b0) (Xr (noX) G b0) 0 0 (Wx b0) := by
  refine vx_ofW (cc := cX3_thousandthsFor) (maxL := 3) (ret := (some .long)) (by decide +kernel) rfl ?_
  intro p e s m args below meth c s₁ B hml hto hv
  obtain ⟨rfl, hok⟩ := hv
  have hM : CallFix p m c cX3_thousandthsFor 3 s _ wsX3_thousandthsFor RX3 := ⟨B.exec, B.bytes, hml, findClass_of_methodNamed B.named, atoms_spec (ws := wsX3_thousandthsFor) B.pre⟩
  have hr := B.returns
  have hlk := B.notSynchronized
  have hC := hok.cur
  have hl := lv_entry ([.long (lI (m_)), .int (iI (pr))]) (n := 3) (Nat.le_of_ble_eq_true rfl)
  rw [lg_entry_eq]
  generalize (lg_sl ([.long (lI (m_)), .int (iI (pr))]) ++ List.replicate (3 - (lg_sl ([.long (lI (m_)), .int (iI (pr))])).length) Slot.unset).toArray = ls at hl ⊢
  have hl : lv_has ls 3 [(0, .long (lI (m_))), (2, .int (iI (pr)))] := hl
  refine y_iload_n hM hl 1 rfl rfl dX3_thousandthsFor_0 ?_
  refine y_if_gt hM (by constructor <;> omega) (tgt := 6) dX3_thousandthsFor_1 (by decide) (fun c_1 => ?_) (fun c_1 => False.elim (by omega))
  refine y_lload_n hM hl 0 rfl rfl dX3_thousandthsFor_6 ?_
  refine y_ldc2 hM (v := 1000) (1000) (by decide) (by decide +kernel) dX3_thousandthsFor_7 ?_
  refine y_lmul hM dX3_thousandthsFor_10 ?_
  refine y_iload_n hM hl 1 rfl rfl dX3_thousandthsFor_11 ?_
  refine y_i2l hM (by constructor <;> omega) dX3_thousandthsFor_12 ?_
  refine y_ldiv hM ⟨by omega, by omega, by omega, by omega⟩ dX3_thousandthsFor_13 ?_
  exact y_lret hM hr hlk hC ⟨_, rfl, rfl, rfl⟩ (Nat.le_of_ble_eq_true rfl) (Nat.le_of_ble_eq_true rfl) dX3_thousandthsFor_14

set_option maxRecDepth 100000 in
set_option maxHeartbeats 8000000 in
theorem c_moneyFor (l : Launch) (hfl : l.stackTraces = false) (G : GG) (b0 : Nat) (u : St) (m_ pr : Int) (hm : 0 ≤ m_ ∧ m_ ≤ 100000000) (hp : 0 < pr ∧ pr ≤ 10000) : vx_Met l yX3_moneyFor wsX3_moneyFor (rmX 0 0 0 0) (va_Pc [.long (lI (m_)), .int (iI (pr))] (Ok G b0 u)) (Qr (pJ (fun r => r = moF m_ pr) u) G b0) (Xr (noX) G b0) 0 0 (Wx b0) := by
  refine vx_ofW (cc := cX3_moneyFor) (maxL := 3) (ret := (some .long)) (by decide +kernel) rfl ?_
  intro p e s m args below meth c s₁ B hml hto hv
  obtain ⟨rfl, hok⟩ := hv
  have hM : CallFix p m c cX3_moneyFor 3 s _ wsX3_moneyFor RX3 := ⟨B.exec, B.bytes, hml, findClass_of_methodNamed B.named, atoms_spec (ws := wsX3_moneyFor) B.pre⟩
  have hr := B.returns
  have hlk := B.notSynchronized
  have hC := hok.cur
  have hl := lv_entry ([.long (lI (m_)), .int (iI (pr))]) (n := 3) (Nat.le_of_ble_eq_true rfl)
  rw [lg_entry_eq]
  generalize (lg_sl ([.long (lI (m_)), .int (iI (pr))]) ++ List.replicate (3 - (lg_sl ([.long (lI (m_)), .int (iI (pr))])).length) Slot.unset).toArray = ls at hl ⊢
  have hl : lv_has ls 3 [(0, .long (lI (m_))), (2, .int (iI (pr)))] := hl
  have hq1 : 0 ≤ m_ * pr := Int.mul_nonneg (by omega) (by omega)
  have hq2 : m_ * pr ≤ 100000000 * 10000 := Int.mul_le_mul (by omega) (by omega) (by omega) (by omega)
  refine y_lload_n hM hl 0 rfl rfl dX3_moneyFor_0 ?_
  refine y_iload_n hM hl 1 rfl rfl dX3_moneyFor_1 ?_
  refine y_i2l hM (by constructor <;> omega) dX3_moneyFor_2 ?_
  refine y_lmul hM dX3_moneyFor_3 ?_
  refine y_ldc2 hM (v := 1000) (1000) (by decide) (by decide +kernel) dX3_moneyFor_4 ?_
  refine y_ldiv hM ⟨by omega, by omega, by omega, by omega⟩ dX3_moneyFor_7 ?_
  exact y_lret hM hr hlk hC ⟨_, rfl, rfl, rfl⟩ (Nat.le_of_ble_eq_true rfl) (Nat.le_of_ble_eq_true rfl) dX3_moneyFor_8

set_option maxRecDepth 100000 in
set_option maxHeartbeats 8000000 in
theorem c_costOf (l : Launch) (hfl : l.stackTraces = false) (G : GG) (b0 : Nat) (u : St) (m_ pr : Int) (hm : 0 ≤ m_ ∧ m_ ≤ 100000000) (hp : 0 < pr ∧ pr ≤ 10000) : vx_Met l yX3_costOf wsX3_costOf (rmX 0 0 0 0) (va_Pc [.long (lI (m_)), .int (iI (pr))] (Ok G b0 u)) (Qr (pJ (fun r => r = coF m_ pr) u) G b0) (Xr (noX) G b0) 0 0 (Wx b0) := by
  refine vx_ofW (cc := cX3_costOf) (maxL := 3) (ret := (some .long)) (by decide +kernel) rfl ?_
  intro p e s m args below meth c s₁ B hml hto hv
  obtain ⟨rfl, hok⟩ := hv
  have hM : CallFix p m c cX3_costOf 3 s _ wsX3_costOf RX3 := ⟨B.exec, B.bytes, hml, findClass_of_methodNamed B.named, atoms_spec (ws := wsX3_costOf) B.pre⟩
  have hr := B.returns
  have hlk := B.notSynchronized
  have hC := hok.cur
  have hl := lv_entry ([.long (lI (m_)), .int (iI (pr))]) (n := 3) (Nat.le_of_ble_eq_true rfl)
  rw [lg_entry_eq]
  generalize (lg_sl ([.long (lI (m_)), .int (iI (pr))]) ++ List.replicate (3 - (lg_sl ([.long (lI (m_)), .int (iI (pr))])).length) Slot.unset).toArray = ls at hl ⊢
  have hl : lv_has ls 3 [(0, .long (lI (m_))), (2, .int (iI (pr)))] := hl
  have hq1 : 0 ≤ m_ * pr := Int.mul_nonneg (by omega) (by omega)
  have hq2 : m_ * pr ≤ 100000000 * 10000 := Int.mul_le_mul (by omega) (by omega) (by omega) (by omega)
  refine y_lload_n hM hl 0 rfl rfl dX3_costOf_0 ?_
  refine y_iload_n hM hl 1 rfl rfl dX3_costOf_1 ?_
  refine y_i2l hM (by constructor <;> omega) dX3_costOf_2 ?_
  refine y_lmul hM dX3_costOf_3 ?_
  refine y_ldc2 hM (v := 1000) (1000) (by decide) (by decide +kernel) dX3_costOf_4 ?_
  refine y_ladd hM dX3_costOf_7 ?_
  refine y_lconst hM 1 (by decide) dX3_costOf_8 ?_
  refine y_lsub hM dX3_costOf_9 ?_
  refine y_ldc2 hM (v := 1000) (1000) (by decide) (by decide +kernel) dX3_costOf_10 ?_
  refine y_ldiv hM ⟨by omega, by omega, by omega, by omega⟩ dX3_costOf_13 ?_
  exact y_lret hM hr hlk hC ⟨_, rfl, rfl, rfl⟩ (Nat.le_of_ble_eq_true rfl) (Nat.le_of_ble_eq_true rfl) dX3_costOf_14

set_option maxRecDepth 100000 in
set_option maxHeartbeats 8000000 in
theorem c_Saver_init (l : Launch) (hfl : l.stackTraces = false) (G : GG) (b0 : Nat) (ks : KK) (ad : AD) (T : TT) (P : PP) (i : Nat) (hk : (10, i) ∈ ks) (h th : Int) : vx_Met l yX2_init wsX2_init (rmX 1 0 0 12) (va_Pc [.ref (ad 10 i), .int (iI (h)), .long (lI (th))] (Ok G b0 (ks, ad, T, P))) (Qr (pV (True) (ks, ad, up (up (up T 10 i 2 0) 10 i 0 h) 10 i 1 th, P)) G b0) (Xr (noX) G b0) 0 0 (Wx b0) := by
  refine vx_ofW (cc := cX2_init) (maxL := 4) (ret := none) (by decide +kernel) rfl ?_
  intro p e s m args below meth c s₁ B hml hto hv
  obtain ⟨rfl, hok⟩ := hv
  have hM : CallFix p m c cX2_init 4 s _ wsX2_init RX2 := ⟨B.exec, B.bytes, hml, findClass_of_methodNamed B.named, atoms_spec (ws := wsX2_init) B.pre⟩
  have hr := B.returns
  have hlk := B.notSynchronized
  have hC := hok.cur
  have hin2 : meth.name = "<init>" := (name_of_methodNamed B.named B.method).1
  have hl := lv_entry ([.ref (ad 10 i), .int (iI (h)), .long (lI (th))]) (n := 4) (Nat.le_of_ble_eq_true rfl)
  rw [lg_entry_eq]
  generalize (lg_sl ([.ref (ad 10 i), .int (iI (h)), .long (lI (th))]) ++ List.replicate (4 - (lg_sl ([.ref (ad 10 i), .int (iI (h)), .long (lI (th))])).length) Slot.unset).toArray = ls at hl ⊢
  have hl : lv_has ls 4 [(0, .ref (ad 10 i)), (1, .int (iI (h))), (2, .long (lI (th)))] := hl
  refine y_aload_n hM hl 0 rfl rfl dX2_init_0 ?_
  refine W.objInit hM.1 hM.2.1 hM.2.2.2.1 (hM.2.2.2.2 (.methodLink RX2 1 objectInit) (by decide +kernel)) (hM.2.2.2.2 (.instanceMethod objectInit) (by decide +kernel)) (hM.2.2.2.2 (.code objectInit ⟨#[0xb1]⟩ 1 none) (by decide +kernel)) rfl (by rw [hM.2.2.1]; exact hl.1) rfl dX2_init_1 (Nat.le_of_ble_eq_true rfl) (Nat.le_of_ble_eq_true rfl) ?_
  refine W.eq (g2 := F0 m 4 ls []) rfl ?_
  refine y_aload_n hM hl 0 rfl rfl dX2_init_4 ?_
  refine y_iconst hM dX2_init_5 ?_
  refine y_put hM hC hk rfl rfl (by decide +kernel) tyX2 tyX2_ok nmX2 2 ⟨by decide, rfl, rfl, rfl, rfl⟩ (by decide +kernel) (ty := .boolean) (by decide +kernel) rfl rfl (Nat.le_of_ble_eq_true rfl) (T' := (up T 10 i 2 (0))) (P' := P) (cF_up rfl) (fun _ _ h => up_ne h) (fun _ _ _ => rfl) dX2_init_6 (fun H locs hC => ?_)
  refine y_aload_n hM hl 0 rfl rfl dX2_init_9 ?_
  refine y_iload_n hM hl 1 rfl rfl dX2_init_10 ?_
  refine y_put hM hC hk rfl rfl (by decide +kernel) tyX2 tyX2_ok nmX2 0 ⟨by decide, rfl, rfl, rfl, rfl⟩ (by decide +kernel) (ty := .int) (by decide +kernel) rfl rfl (Nat.le_of_ble_eq_true rfl) (T' := (up (up T 10 i 2 (0)) 10 i 0 (h))) (P' := P) (cF_up rfl) (fun _ _ h => up_ne h) (fun _ _ _ => rfl) dX2_init_11 (fun H locs hC => ?_)
  refine y_aload_n hM hl 0 rfl rfl dX2_init_14 ?_
  refine y_lload_n hM hl 2 rfl rfl dX2_init_15 ?_
  refine y_put hM hC hk rfl rfl (by decide +kernel) tyX2 tyX2_ok nmX2 1 ⟨by decide, rfl, rfl, rfl, rfl⟩ (by decide +kernel) (ty := .long) (by decide +kernel) rfl rfl (Nat.le_of_ble_eq_true rfl) (T' := (up (up (up T 10 i 2 (0)) 10 i 0 (h)) 10 i 1 (th))) (P' := P) (cF_up rfl) (fun _ _ h => up_ne h) (fun _ _ _ => rfl) dX2_init_16 (fun H locs hC => ?_)
  exact y_vret hM hr hlk hC ⟨rfl, trivial, rfl⟩ (Nat.le_of_ble_eq_true rfl) (Nat.le_of_ble_eq_true rfl) dX2_init_19

set_option maxRecDepth 100000 in
set_option maxHeartbeats 8000000 in
theorem c_arrive (l : Launch) (hfl : l.stackTraces = false) (G : GG) (b0 : Nat) (ks : KK) (ad : AD) (T : TT) (P : PP) (i : Nat) (hk : (10, i) ∈ ks) (h th : Int) : vx_Met l yX2_arrive wsX2_arrive (rmX 0 0 0 0) (va_Pc [.ref (ad 10 i), .int (iI (h)), .long (lI (th))] (Ok G b0 (ks, ad, T, P))) (Qr (pV (True) (ks, ad, arrT T i h th, P)) G b0) (Xr (noX) G b0) 0 0 (Wx b0) := by
  refine vx_ofW (cc := cX2_arrive) (maxL := 4) (ret := none) (by decide +kernel) rfl ?_
  intro p e s m args below meth c s₁ B hml hto hv
  obtain ⟨rfl, hok⟩ := hv
  have hM : CallFix p m c cX2_arrive 4 s _ wsX2_arrive RX2 := ⟨B.exec, B.bytes, hml, findClass_of_methodNamed B.named, atoms_spec (ws := wsX2_arrive) B.pre⟩
  have hr := B.returns
  have hlk := B.notSynchronized
  have hC := hok.cur
  have hl := lv_entry ([.ref (ad 10 i), .int (iI (h)), .long (lI (th))]) (n := 4) (Nat.le_of_ble_eq_true rfl)
  rw [lg_entry_eq]
  generalize (lg_sl ([.ref (ad 10 i), .int (iI (h)), .long (lI (th))]) ++ List.replicate (4 - (lg_sl ([.ref (ad 10 i), .int (iI (h)), .long (lI (th))])).length) Slot.unset).toArray = ls at hl ⊢
  have hl : lv_has ls 4 [(0, .ref (ad 10 i)), (1, .int (iI (h))), (2, .long (lI (th)))] := hl
  refine y_aload_n hM hl 0 rfl rfl dX2_arrive_0 ?_
  refine y_iload_n hM hl 1 rfl rfl dX2_arrive_1 ?_
  refine y_put hM hC hk rfl rfl (by decide +kernel) tyX2 tyX2_ok nmX2 0 ⟨by decide, rfl, rfl, rfl, rfl⟩ (by decide +kernel) (ty := .int) (by decide +kernel) rfl rfl (Nat.le_of_ble_eq_true rfl) (T' := (up T 10 i 0 (h))) (P' := P) (cF_up rfl) (fun _ _ h => up_ne h) (fun _ _ _ => rfl) dX2_arrive_2 (fun H locs hC => ?_)
  refine y_aload_n hM hl 0 rfl rfl dX2_arrive_5 ?_
  refine y_lload_n hM hl 2 rfl rfl dX2_arrive_6 ?_
  refine y_put hM hC hk rfl rfl (by decide +kernel) tyX2 tyX2_ok nmX2 1 ⟨by decide, rfl, rfl, rfl, rfl⟩ (by decide +kernel) (ty := .long) (by decide +kernel) rfl rfl (Nat.le_of_ble_eq_true rfl) (T' := (up (up T 10 i 0 (h)) 10 i 1 (th))) (P' := P) (cF_up rfl) (fun _ _ h => up_ne h) (fun _ _ _ => rfl) dX2_arrive_7 (fun H locs hC => ?_)
  refine y_aload_n hM hl 0 rfl rfl dX2_arrive_10 ?_
  refine y_iconst hM dX2_arrive_11 ?_
  refine y_put hM hC hk rfl rfl (by decide +kernel) tyX2 tyX2_ok nmX2 2 ⟨by decide, rfl, rfl, rfl, rfl⟩ (by decide +kernel) (ty := .boolean) (by decide +kernel) rfl rfl (Nat.le_of_ble_eq_true rfl) (T' := (up (up (up T 10 i 0 (h)) 10 i 1 (th)) 10 i 2 (0))) (P' := P) (cF_up rfl) (fun _ _ h => up_ne h) (fun _ _ _ => rfl) dX2_arrive_12 (fun H locs hC => ?_)
  exact y_vret hM hr hlk hC ⟨rfl, trivial, rfl⟩ (Nat.le_of_ble_eq_true rfl) (Nat.le_of_ble_eq_true rfl) dX2_arrive_15

set_option maxRecDepth 100000 in
set_option maxHeartbeats 8000000 in
theorem c_dueDay (l : Launch) (hfl : l.stackTraces = false) (G : GG) (b0 : Nat) (ks : KK) (ad : AD) (T : TT) (P : PP) (k : Nat) (hk : (11, k) ∈ ks) (h3 : inI (T 11 k 3)) : vx_Met l yX0_dueDay wsX0_dueDay (rmX 0 0 0 0) (va_Pc [.ref (ad 11 k)] (Ok G b0 (ks, ad, T, P))) (Qr (pI (fun r => r = dueT T k) (ks, ad, T, P)) G b0) (Xr (noX) G b0) 0 0 (Wx b0) := by
  refine vx_ofW (cc := cX0_dueDay) (maxL := 1) (ret := (some .int)) (by decide +kernel) rfl ?_
  intro p e s m args below meth c s₁ B hml hto hv
  obtain ⟨rfl, hok⟩ := hv
  have hM : CallFix p m c cX0_dueDay 1 s _ wsX0_dueDay RX0 := ⟨B.exec, B.bytes, hml, findClass_of_methodNamed B.named, atoms_spec (ws := wsX0_dueDay) B.pre⟩
  have hr := B.returns
  have hlk := B.notSynchronized
  have hC := hok.cur
  have hl := lv_entry ([.ref (ad 11 k)]) (n := 1) (Nat.le_of_ble_eq_true rfl)
  rw [lg_entry_eq]
  generalize (lg_sl ([.ref (ad 11 k)]) ++ List.replicate (1 - (lg_sl ([.ref (ad 11 k)])).length) Slot.unset).toArray = ls at hl ⊢
  have hl : lv_has ls 1 [(0, .ref (ad 11 k))] := hl
  refine y_aload_n hM hl 0 rfl rfl dX0_dueDay_0 ?_
  refine y_get hM hC hk rfl rfl (by decide +kernel) 3 ⟨by decide, rfl, rfl, rfl⟩ (by decide +kernel) rfl dX0_dueDay_1 ?_
  refine y_if_ne hM (by constructor <;> omega) (tgt := 14) dX0_dueDay_4 (by decide) (fun c_4 => ?_) (fun c_4 => ?_)
  ·
    refine y_aload_n hM hl 0 rfl rfl dX0_dueDay_14 ?_
    refine y_get hM hC hk rfl rfl (by decide +kernel) 4 ⟨by decide, rfl, rfl, rfl⟩ (by decide +kernel) rfl dX0_dueDay_15 ?_
    refine y_aload_n hM hl 0 rfl rfl dX0_dueDay_18 ?_
    refine y_get hM hC hk rfl rfl (by decide +kernel) 3 ⟨by decide, rfl, rfl, rfl⟩ (by decide +kernel) rfl dX0_dueDay_19 ?_
    refine y_iconst hM dX0_dueDay_22 ?_
    refine y_icmp_ne hM (by constructor <;> omega) (by constructor <;> omega) (tgt := 30) dX0_dueDay_23 (by decide) (fun c_23 => ?_) (fun c_23 => ?_)
    ·
      refine y_iconst hM dX0_dueDay_30 ?_
      refine y_iadd hM dX0_dueDay_31 ?_
      exact y_iret hM hr hlk hC ⟨_, rfl, (by (try dsimp only); unfold dueT; split <;> omega), rfl⟩ (Nat.le_of_ble_eq_true rfl) (Nat.le_of_ble_eq_true rfl) dX0_dueDay_32
    ·
      refine y_iconst hM dX0_dueDay_26 ?_
      refine lv_goto (tgt := 31) hM.1 hM.2.1 dX0_dueDay_27 (by decide) ?_
      refine y_iadd hM dX0_dueDay_31 ?_
      exact y_iret hM hr hlk hC ⟨_, rfl, (by (try dsimp only); unfold dueT; split <;> omega), rfl⟩ (Nat.le_of_ble_eq_true rfl) (Nat.le_of_ble_eq_true rfl) dX0_dueDay_32
  ·
    refine y_aload_n hM hl 0 rfl rfl dX0_dueDay_7 ?_
    refine y_get hM hC hk rfl rfl (by decide +kernel) 4 ⟨by decide, rfl, rfl, rfl⟩ (by decide +kernel) rfl dX0_dueDay_8 ?_
    refine y_iconst hM dX0_dueDay_11 ?_
    refine y_iadd hM dX0_dueDay_12 ?_
    exact y_iret hM hr hlk hC ⟨_, rfl, (by (try dsimp only); unfold dueT; split <;> omega), rfl⟩ (Nat.le_of_ble_eq_true rfl) (Nat.le_of_ble_eq_true rfl) dX0_dueDay_13

set_option maxRecDepth 100000 in
set_option maxHeartbeats 8000000 in
theorem c_latenessOn (l : Launch) (hfl : l.stackTraces = false) (G : GG) (b0 : Nat) (ks : KK) (ad : AD) (T : TT) (P : PP) (k : Nat) (hk : (11, k) ∈ ks) (dd : Int) (h3 : inI (T 11 k 3)) (h4 : 0 ≤ T 11 k 4 ∧ T 11 k 4 ≤ 2000) (hd : 0 ≤ dd ∧ dd ≤ 2000) : vx_Met l yX0_latenessOn wsX0_latenessOn (rmX 1 0 0 20) (va_Pc [.ref (ad 11 k), .int (iI (dd))] (Ok G b0 (ks, ad, T, P))) (Qr (pI (fun r => r = lateT T k dd) (ks, ad, T, P)) G b0) (Xr (noX) G b0) 0 0 (Wx b0) := by
  refine vx_ofW (cc := cX0_latenessOn) (maxL := 2) (ret := (some .int)) (by decide +kernel) rfl ?_
  intro p e s m args below meth c s₁ B hml hto hv
  obtain ⟨rfl, hok⟩ := hv
  have hM : CallFix p m c cX0_latenessOn 2 s _ wsX0_latenessOn RX0 := ⟨B.exec, B.bytes, hml, findClass_of_methodNamed B.named, atoms_spec (ws := wsX0_latenessOn) B.pre⟩
  have hr := B.returns
  have hlk := B.notSynchronized
  have hC := hok.cur
  have hl := lv_entry ([.ref (ad 11 k), .int (iI (dd))]) (n := 2) (Nat.le_of_ble_eq_true rfl)
  rw [lg_entry_eq]
  generalize (lg_sl ([.ref (ad 11 k), .int (iI (dd))]) ++ List.replicate (2 - (lg_sl ([.ref (ad 11 k), .int (iI (dd))])).length) Slot.unset).toArray = ls at hl ⊢
  have hl : lv_has ls 2 [(0, .ref (ad 11 k)), (1, .int (iI (dd)))] := hl
  refine y_iconst hM dX0_latenessOn_0 ?_
  refine y_iload_n hM hl 1 rfl rfl dX0_latenessOn_1 ?_
  refine y_aload_n hM hl 0 rfl rfl dX0_latenessOn_2 ?_
  refine y_callV hM hC (c_dueDay l hfl G b0 ks ad T P k hk (by constructor <;> omega)) (cwV 0 hM.2.2.2.2 gX0_latenessOn_X0_dueDay rfl rfl rfl (by decide +kernel) ⟨(Nat.le_of_ble_eq_true rfl), (Nat.le_of_ble_eq_true rfl)⟩) (y_recv hC hk rfl rfl) rfl hl.1 rfl (Nat.le_of_ble_eq_true rfl) dX0_latenessOn_3 ⟨(Nat.le_of_ble_eq_true rfl), (Nat.le_of_ble_eq_true rfl)⟩ (fun E ce q9 u1 H locs hx hC hce hcv hcl => hx.elim) (fun v u1 H locs hp hC => ?_)
  obtain ⟨r_3, rfl, h_3, hu⟩ := hp; rw [hu] at hC; clear hu
  try dsimp only at h_3
  refine W.eq (g2 := F0 m 6 ls [.int (iI (r_3)), .int (iI (dd)), .int (iI (0))]) rfl ?_
  have hdu : 0 ≤ dueT T k ∧ dueT T k ≤ 3000 := by unfold dueT; split <;> omega
  refine y_isub hM dX0_latenessOn_6 ?_
  refine va_mmax hM.1 hM.2.1 (by rw [hM.2.2.1]; exact hl.1.symm) hM.2.2.2.1 (hM.2.2.2.2 (.methodLink RX0 53 Lib.Math.max.name) (by decide +kernel)) (hM.2.2.2.2 (.static Lib.Math.max.name) (by decide +kernel)) (hM.2.2.2.2 (.initialized "java/lang/Math") (by decide +kernel)) (hM.2.2.2.2 (.code Lib.Math.max.name Lib.Math.max.code 2 (some .int)) (by decide +kernel)) (Nat.le_of_ble_eq_true rfl) (Nat.le_of_ble_eq_true rfl) (Nat.le_of_ble_eq_true rfl) (Nat.le_of_ble_eq_true rfl) dX0_latenessOn_7 ?_
  rw [show (if iI (0) < iI ((dd) - (r_3)) then iI ((dd) - (r_3)) else iI (0)) = iI (lateT T k dd) from (by
    simp only [iI_lt (a := 0) (b := dd - r_3) ⟨by omega, by omega⟩ ⟨by omega, by omega⟩]
    rw [h_3]
    unfold lateT
    split <;> split <;> first | rfl | (exact False.elim (by omega)) | (exact congrArg iI (by omega)))]
  exact y_iret hM hr hlk hC ⟨_, rfl, rfl, rfl⟩ (Nat.le_of_ble_eq_true rfl) (Nat.le_of_ble_eq_true rfl) dX0_latenessOn_10

set_option maxRecDepth 100000 in
set_option maxHeartbeats 8000000 in
theorem c_goOn (l : Launch) (hfl : l.stackTraces = false) (G : GG) (b0 : Nat) (ks : KK) (ad : AD) (T : TT) (P : PP) (k : Nat) (hk : (11, k) ∈ ks) (dd lb : Int) (h3 : inI (T 11 k 3)) : vx_Met l yX0_goOn wsX0_goOn (rmX 0 0 0 0) (va_Pc [.ref (ad 11 k), .int (iI (dd)), .int (iI (lb))] (Ok G b0 (ks, ad, T, P))) (Qr (pV (True) (ks, ad, goT T k dd lb, P)) G b0) (Xr (noX) G b0) 0 0 (Wx b0) := by
  refine vx_ofW (cc := cX0_goOn) (maxL := 3) (ret := none) (by decide +kernel) rfl ?_
  intro p e s m args below meth c s₁ B hml hto hv
  obtain ⟨rfl, hok⟩ := hv
  have hM : CallFix p m c cX0_goOn 3 s _ wsX0_goOn RX0 := ⟨B.exec, B.bytes, hml, findClass_of_methodNamed B.named, atoms_spec (ws := wsX0_goOn) B.pre⟩
  have hr := B.returns
  have hlk := B.notSynchronized
  have hC := hok.cur
  have hl := lv_entry ([.ref (ad 11 k), .int (iI (dd)), .int (iI (lb))]) (n := 3) (Nat.le_of_ble_eq_true rfl)
  rw [lg_entry_eq]
  generalize (lg_sl ([.ref (ad 11 k), .int (iI (dd)), .int (iI (lb))]) ++ List.replicate (3 - (lg_sl ([.ref (ad 11 k), .int (iI (dd)), .int (iI (lb))])).length) Slot.unset).toArray = ls at hl ⊢
  have hl : lv_has ls 3 [(0, .ref (ad 11 k)), (1, .int (iI (dd))), (2, .int (iI (lb)))] := hl
  refine y_aload_n hM hl 0 rfl rfl dX0_goOn_0 ?_
  refine y_get hM hC hk rfl rfl (by decide +kernel) 3 ⟨by decide, rfl, rfl, rfl⟩ (by decide +kernel) rfl dX0_goOn_1 ?_
  refine y_iconst hM dX0_goOn_4 ?_
  refine y_icmp_ne hM (by constructor <;> omega) (by constructor <;> omega) (tgt := 21) dX0_goOn_5 (by decide) (fun c_5 => ?_) (fun c_5 => ?_)
  ·
    refine y_aload_n hM hl 0 rfl rfl dX0_goOn_21 ?_
    refine lv_dup hM.1 hM.2.1 dX0_goOn_22 rfl ?_
    refine y_get hM hC hk rfl rfl (by decide +kernel) 5 ⟨by decide, rfl, rfl, rfl⟩ (by decide +kernel) rfl dX0_goOn_23 ?_
    refine y_iload_n hM hl 2 rfl rfl dX0_goOn_26 ?_
    refine y_iadd hM dX0_goOn_27 ?_
    refine y_put hM hC hk rfl rfl (by decide +kernel) tyX0 tyX0_ok nmX0 5 ⟨by decide, rfl, rfl, rfl, rfl⟩ (by decide +kernel) (ty := .int) (by decide +kernel) rfl rfl (Nat.le_of_ble_eq_true rfl) (T' := (up T 11 k 5 ((T 11 k 5) + (lb)))) (P' := P) (cF_up rfl) (fun _ _ h => up_ne h) (fun _ _ _ => rfl) dX0_goOn_28 (fun H locs hC => ?_)
    refine y_aload_n hM hl 0 rfl rfl dX0_goOn_31 ?_
    refine y_iload_n hM hl 1 rfl rfl dX0_goOn_32 ?_
    refine y_put hM hC hk rfl rfl (by decide +kernel) tyX0 tyX0_ok nmX0 4 ⟨by decide, rfl, rfl, rfl, rfl⟩ (by decide +kernel) (ty := .int) (by decide +kernel) rfl rfl (Nat.le_of_ble_eq_true rfl) (T' := (up (up T 11 k 5 ((T 11 k 5) + (lb))) 11 k 4 (dd))) (P' := P) (cF_up rfl) (fun _ _ h => up_ne h) (fun _ _ _ => rfl) dX0_goOn_33 (fun H locs hC => ?_)
    refine y_aload_n hM hl 0 rfl rfl dX0_goOn_36 ?_
    refine lv_dup hM.1 hM.2.1 dX0_goOn_37 rfl ?_
    refine y_get hM hC hk rfl rfl (by decide +kernel) 3 ⟨by decide, rfl, rfl, rfl⟩ (by decide +kernel) (congrArg (fun q => some (Value.int (iI q))) (show (up (up T 11 k 5 ((T 11 k 5) + (lb))) 11 k 4 (dd)) 11 k 3 = T 11 k 3 from by simp [up])) dX0_goOn_38 ?_
    refine y_iconst hM dX0_goOn_41 ?_
    refine y_iadd hM dX0_goOn_42 ?_
    refine y_put hM hC hk rfl rfl (by decide +kernel) tyX0 tyX0_ok nmX0 3 ⟨by decide, rfl, rfl, rfl, rfl⟩ (by decide +kernel) (ty := .int) (by decide +kernel) rfl rfl (Nat.le_of_ble_eq_true rfl) (T' := (up (up (up T 11 k 5 ((T 11 k 5) + (lb))) 11 k 4 (dd)) 11 k 3 ((T 11 k 3) + (1)))) (P' := P) (cF_up rfl) (fun _ _ h => up_ne h) (fun _ _ _ => rfl) dX0_goOn_43 (fun H locs hC => ?_)
    exact y_vret hM hr hlk hC ⟨rfl, trivial, (by unfold goT; rw [if_neg (by omega)])⟩ (Nat.le_of_ble_eq_true rfl) (Nat.le_of_ble_eq_true rfl) dX0_goOn_46
  ·
    refine y_aload_n hM hl 0 rfl rfl dX0_goOn_8 ?_
    refine lv_dup hM.1 hM.2.1 dX0_goOn_9 rfl ?_
    refine y_get hM hC hk rfl rfl (by decide +kernel) 6 ⟨by decide, rfl, rfl, rfl⟩ (by decide +kernel) rfl dX0_goOn_10 ?_
    refine y_iload_n hM hl 2 rfl rfl dX0_goOn_13 ?_
    refine y_iadd hM dX0_goOn_14 ?_
    refine y_put hM hC hk rfl rfl (by decide +kernel) tyX0 tyX0_ok nmX0 6 ⟨by decide, rfl, rfl, rfl, rfl⟩ (by decide +kernel) (ty := .int) (by decide +kernel) rfl rfl (Nat.le_of_ble_eq_true rfl) (T' := (up T 11 k 6 ((T 11 k 6) + (lb)))) (P' := P) (cF_up rfl) (fun _ _ h => up_ne h) (fun _ _ _ => rfl) dX0_goOn_15 (fun H locs hC => ?_)
    refine lv_goto (tgt := 31) hM.1 hM.2.1 dX0_goOn_18 (by decide) ?_
    refine y_aload_n hM hl 0 rfl rfl dX0_goOn_31 ?_
    refine y_iload_n hM hl 1 rfl rfl dX0_goOn_32 ?_
    refine y_put hM hC hk rfl rfl (by decide +kernel) tyX0 tyX0_ok nmX0 4 ⟨by decide, rfl, rfl, rfl, rfl⟩ (by decide +kernel) (ty := .int) (by decide +kernel) rfl rfl (Nat.le_of_ble_eq_true rfl) (T' := (up (up T 11 k 6 ((T 11 k 6) + (lb))) 11 k 4 (dd))) (P' := P) (cF_up rfl) (fun _ _ h => up_ne h) (fun _ _ _ => rfl) dX0_goOn_33 (fun H locs hC => ?_)
    refine y_aload_n hM hl 0 rfl rfl dX0_goOn_36 ?_
    refine lv_dup hM.1 hM.2.1 dX0_goOn_37 rfl ?_
    refine y_get hM hC hk rfl rfl (by decide +kernel) 3 ⟨by decide, rfl, rfl, rfl⟩ (by decide +kernel) (congrArg (fun q => some (Value.int (iI q))) (show (up (up T 11 k 6 ((T 11 k 6) + (lb))) 11 k 4 (dd)) 11 k 3 = T 11 k 3 from by simp [up])) dX0_goOn_38 ?_
    refine y_iconst hM dX0_goOn_41 ?_
    refine y_iadd hM dX0_goOn_42 ?_
    refine y_put hM hC hk rfl rfl (by decide +kernel) tyX0 tyX0_ok nmX0 3 ⟨by decide, rfl, rfl, rfl, rfl⟩ (by decide +kernel) (ty := .int) (by decide +kernel) rfl rfl (Nat.le_of_ble_eq_true rfl) (T' := (up (up (up T 11 k 6 ((T 11 k 6) + (lb))) 11 k 4 (dd)) 11 k 3 ((T 11 k 3) + (1)))) (P' := P) (cF_up rfl) (fun _ _ h => up_ne h) (fun _ _ _ => rfl) dX0_goOn_43 (fun H locs hC => ?_)
    exact y_vret hM hr hlk hC ⟨rfl, trivial, (by unfold goT; rw [if_pos (by omega)])⟩ (Nat.le_of_ble_eq_true rfl) (Nat.le_of_ble_eq_true rfl) dX0_goOn_46
end
section
set_option maxRecDepth 100000 in
set_option maxHeartbeats 8000000 in
theorem c_valueOn (l : Launch) (hfl : l.stackTraces = false) (G : GG) (b0 : Nat) (ks : KK) (ad : AD) (T : TT) (P : PP) (pv : Nat) (hpv : pv < 5) (hRK : RK ks ad P) (hRN : RN T) (dd : Int) (hd : inI dd) : vx_Met l yX1_valueOn wsX1_valueOn (rmX 0 0 0 0) (va_Pc [.ref (ad 6 pv), .int (iI (dd))] (Ok G b0 (ks, ad, T, P))) (Qr (pI (fun r => r = valT T pv dd) (ks, ad, T, P)) G b0) (Xr (noX) G b0) 0 0 (Wx b0) := by
  refine vx_ofW (cc := cX1_valueOn) (maxL := 3) (ret := (some .int)) (by decide +kernel) rfl ?_
  intro p e s m args below meth c s₁ B hml hto hv
  obtain ⟨rfl, hok⟩ := hv
  have hM : CallFix p m c cX1_valueOn 3 s _ wsX1_valueOn RX1 := ⟨B.exec, B.bytes, hml, findClass_of_methodNamed B.named, atoms_spec (ws := wsX1_valueOn) B.pre⟩
  have hr := B.returns
  have hlk := B.notSynchronized
  have hC := hok.cur
  have hl := lv_entry ([.ref (ad 6 pv), .int (iI (dd))]) (n := 3) (Nat.le_of_ble_eq_true rfl)
  rw [lg_entry_eq]
  generalize (lg_sl ([.ref (ad 6 pv), .int (iI (dd))]) ++ List.replicate (3 - (lg_sl ([.ref (ad 6 pv), .int (iI (dd))])).length) Slot.unset).toArray = ls at hl ⊢
  have hl : lv_has ls 3 [(0, .ref (ad 6 pv)), (1, .int (iI (dd)))] := hl
  obtain ⟨hk6, hk7, hk8, hk9, hq1, hq2, hq6, hq61⟩ := hRK pv hpv
  obtain ⟨hl0, hl1, h7, h8⟩ := hRN pv hpv
  have hloop : ∀ (n : Nat), (n : Int) ≤ T 6 pv 2 → idxT T pv dd (T 6 pv 2).toNat = idxT T pv dd n → ∀ (ls : Array Slot), lv_has ls 3 [(2, .int (iI (((n) : Nat) : Int))), (0, .ref (ad 6 pv)), (1, .int (iI (dd)))] → W p l e (headSpec wsX1_valueOn (rmX 0 0 0 0)).room s m [.ref (ad 6 pv), .int (iI (dd))].toArray below meth c s.heap [] 0 0 (vx_MQ below (Qr (pI (fun r => r = valT T pv dd) (ks, ad, T, P)) G b0) (Xr (noX) G b0) [.ref (ad 6 pv), .int (iI (dd))].toArray s 0 0 (Wx b0)) (F0 m 5 ls []) := by
    intro n
    induction n with
    | zero =>
      intro hn he ls hl
      refine y_iload_n hM hl 0 rfl rfl dX1_valueOn_5 ?_
      refine y_if_le hM (by constructor <;> omega) (tgt := 25) dX1_valueOn_6 (by decide) (fun c_6 => ?_) (fun c_6 => False.elim (by omega))
      refine y_aload_n hM hl 1 rfl rfl dX1_valueOn_25 ?_
      refine y_get hM hC hk6 rfl rfl (by decide +kernel) 1 ⟨by decide, rfl, rfl, rfl⟩ (by decide +kernel) (congrArg (fun q => some (va_rf q)) hq61) dX1_valueOn_26 ?_
      refine W.eq (g2 := F0 m 29 ls [.ref (ad 8 pv)]) rfl ?_
      refine y_iload_n hM hl 0 rfl rfl dX1_valueOn_29 ?_
      refine y_iald hM hC hk8 rfl ⟨by omega, by omega⟩ (by decide) (x := T 8 pv (0)) rfl dX1_valueOn_30 ?_
      exact y_iret hM hr hlk hC ⟨_, rfl, (by
      show T 8 pv 0 = T 8 pv (idxT T pv dd (T 6 pv 2).toNat)
      rw [he]
      rfl), rfl⟩ (Nat.le_of_ble_eq_true rfl) (Nat.le_of_ble_eq_true rfl) dX1_valueOn_31
    | succ n ih =>
      intro hn he ls hl
      refine y_iload_n hM hl 0 rfl rfl dX1_valueOn_5 ?_
      refine y_if_le hM (by constructor <;> omega) (tgt := 25) dX1_valueOn_6 (by decide) (fun c_6 => False.elim (by omega)) (fun c_6 => ?_)
      refine y_aload_n hM hl 1 rfl rfl dX1_valueOn_9 ?_
      refine y_get hM hC hk6 rfl rfl (by decide +kernel) 0 ⟨by decide, rfl, rfl, rfl⟩ (by decide +kernel) (congrArg (fun q => some (va_rf q)) hq6) dX1_valueOn_10 ?_
      refine W.eq (g2 := F0 m 13 ls [.ref (ad 7 pv)]) rfl ?_
      refine y_iload_n hM hl 0 rfl rfl dX1_valueOn_13 ?_
      refine y_iald hM hC hk7 rfl ⟨by omega, by omega⟩ (by decide) (x := T 7 pv (n + 1)) rfl dX1_valueOn_14 ?_
      refine y_iload_n hM hl 2 rfl rfl dX1_valueOn_15 ?_
      refine y_icmp_le hM (h7 _) hd (tgt := 25) dX1_valueOn_16 (by decide) (fun c_16 => ?_) (fun c_16 => ?_)
      ·
        refine y_aload_n hM hl 1 rfl rfl dX1_valueOn_25 ?_
        refine y_get hM hC hk6 rfl rfl (by decide +kernel) 1 ⟨by decide, rfl, rfl, rfl⟩ (by decide +kernel) (congrArg (fun q => some (va_rf q)) hq61) dX1_valueOn_26 ?_
        refine W.eq (g2 := F0 m 29 ls [.ref (ad 8 pv)]) rfl ?_
        refine y_iload_n hM hl 0 rfl rfl dX1_valueOn_29 ?_
        refine y_iald hM hC hk8 rfl ⟨by omega, by omega⟩ (by decide) (x := T 8 pv (n + 1)) rfl dX1_valueOn_30 ?_
        exact y_iret hM hr hlk hC ⟨_, rfl, (by
      show T 8 pv (n + 1) = T 8 pv (idxT T pv dd (T 6 pv 2).toNat)
      rw [he]
      show T 8 pv (n + 1) = T 8 pv (if dd < T 7 pv (n + 1) then idxT T pv dd n else n + 1)
      rw [if_neg (by omega)]), rfl⟩ (Nat.le_of_ble_eq_true rfl) (Nat.le_of_ble_eq_true rfl) dX1_valueOn_31
      ·
        refine lv_iinc (v := iI ((((n + 1 : Nat) : Int)) + (-1))) (lv' := [(2, .int (iI ((((n + 1 : Nat) : Int)) + (-1)))), (0, .ref (ad 6 pv)), (1, .int (iI (dd)))]) hM.1 hM.2.1 dX1_valueOn_19 hl (k := 0) rfl (iI_add _ _) (by decide) rfl (fun ls hl => ?_)
        refine lv_goto (tgt := 5) hM.1 hM.2.1 dX1_valueOn_22 (by decide) ?_
        have hz : (((n + 1 : Nat) : Int)) + (-1) = ((n : Nat) : Int) := by omega
        rw [hz] at hl
        exact ih (by omega) (by
          rw [he]
          show (if dd < T 7 pv (n + 1) then idxT T pv dd n else n + 1) = _
          rw [if_pos (by omega)]) ls hl
  refine y_aload_n hM hl 0 rfl rfl dX1_valueOn_0 ?_
  refine y_get hM hC hk6 rfl rfl (by decide +kernel) 2 ⟨by decide, rfl, rfl, rfl⟩ (by decide +kernel) rfl dX1_valueOn_1 ?_
  refine lv_istore_n (lv' := [(2, .int (iI (T 6 pv 2))), (0, .ref (ad 6 pv)), (1, .int (iI (dd)))]) hM.1 hM.2.1 dX1_valueOn_4 rfl hl (by decide) rfl (fun ls hl => ?_)
  have hz : T 6 pv 2 = (((T 6 pv 2).toNat : Nat) : Int) := by omega
  have hl2 := hl
  rw [show iI (T 6 pv 2) = iI ((((T 6 pv 2).toNat : Nat) : Int)) from congrArg iI hz] at hl2
  exact hloop _ (by omega) rfl ls hl2

set_option maxRecDepth 100000 in
set_option maxHeartbeats 8000000 in
theorem c_put (l : Launch) (hfl : l.stackTraces = false) (G : GG) (b0 : Nat) (ks : KK) (ad : AD) (T : TT) (P : PP) (pv : Nat) (hpv : pv < 5) (hRK : RK ks ad P) (hRN : RN T) (dd v : Int) (hd : inI dd) : vx_Met l yX1_put wsX1_put (rmX 0 0 0 0) (va_Pc [.ref (ad 6 pv), .int (iI (dd)), .int (iI (v))] (Ok G b0 (ks, ad, T, P))) (Qr (pI (fun r => (r = 1 ∧ (T 7 pv (T 6 pv 2).toNat = dd ∨ T 6 pv 2 < 60)) ∨ (r = 0 ∧ T 7 pv (T 6 pv 2).toNat ≠ dd ∧ 60 ≤ T 6 pv 2)) (ks, ad, putT T pv dd v, P)) G b0) (Xr (noX) G b0) 0 0 (Wx b0) := by
  refine vx_ofW (cc := cX1_put) (maxL := 3) (ret := (some .boolean)) (by decide +kernel) rfl ?_
  intro p e s m args below meth c s₁ B hml hto hv
  obtain ⟨rfl, hok⟩ := hv
  have hM : CallFix p m c cX1_put 3 s _ wsX1_put RX1 := ⟨B.exec, B.bytes, hml, findClass_of_methodNamed B.named, atoms_spec (ws := wsX1_put) B.pre⟩
  have hr := B.returns
  have hlk := B.notSynchronized
  have hC := hok.cur
  have hl := lv_entry ([.ref (ad 6 pv), .int (iI (dd)), .int (iI (v))]) (n := 3) (Nat.le_of_ble_eq_true rfl)
  rw [lg_entry_eq]
  generalize (lg_sl ([.ref (ad 6 pv), .int (iI (dd)), .int (iI (v))]) ++ List.replicate (3 - (lg_sl ([.ref (ad 6 pv), .int (iI (dd)), .int (iI (v))])).length) Slot.unset).toArray = ls at hl ⊢
  have hl : lv_has ls 3 [(0, .ref (ad 6 pv)), (1, .int (iI (dd))), (2, .int (iI (v)))] := hl
  obtain ⟨hk6, hk7, hk8, hk9, hq1, hq2, hq6, hq61⟩ := hRK pv hpv
  obtain ⟨hl0, hl1, h7, h8⟩ := hRN pv hpv
  refine y_aload_n hM hl 0 rfl rfl dX1_put_0 ?_
  refine y_get hM hC hk6 rfl rfl (by decide +kernel) 0 ⟨by decide, rfl, rfl, rfl⟩ (by decide +kernel) (congrArg (fun q => some (va_rf q)) hq6) dX1_put_1 ?_
  refine W.eq (g2 := F0 m 4 ls [.ref (ad 7 pv)]) rfl ?_
  refine y_aload_n hM hl 0 rfl rfl dX1_put_4 ?_
  refine y_get hM hC hk6 rfl rfl (by decide +kernel) 2 ⟨by decide, rfl, rfl, rfl⟩ (by decide +kernel) rfl dX1_put_5 ?_
  refine y_iald hM hC hk7 rfl ⟨by omega, by omega⟩ (by decide) (x := T 7 pv (T 6 pv 2).toNat) rfl dX1_put_8 ?_
  refine y_iload_n hM hl 1 rfl rfl dX1_put_9 ?_
  refine y_icmp_eq hM (h7 _) hd (tgt := 46) dX1_put_10 (by decide) (fun c_10 => ?_) (fun c_10 => ?_)
  ·
    refine y_aload_n hM hl 0 rfl rfl dX1_put_46 ?_
    refine y_get hM hC hk6 rfl rfl (by decide +kernel) 1 ⟨by decide, rfl, rfl, rfl⟩ (by decide +kernel) (congrArg (fun q => some (va_rf q)) hq61) dX1_put_47 ?_
    refine W.eq (g2 := F0 m 50 ls [.ref (ad 8 pv)]) rfl ?_
    refine y_aload_n hM hl 0 rfl rfl dX1_put_50 ?_
    refine y_get hM hC hk6 rfl rfl (by decide +kernel) 2 ⟨by decide, rfl, rfl, rfl⟩ (by decide +kernel) rfl dX1_put_51 ?_
    refine y_iload_n hM hl 2 rfl rfl dX1_put_54 ?_
    refine y_iast hM hC hk8 (fun _ _ => rfl) ⟨by omega, by omega⟩ (by decide) dX1_put_55 (fun H locs hC => ?_)
    refine y_iconst hM dX1_put_56 ?_
    exact y_zret hM hr hlk hC (by decide) ⟨_, rfl, (by (try dsimp only); omega), (by unfold putT; rw [if_pos c_10])⟩ (Nat.le_of_ble_eq_true rfl) (Nat.le_of_ble_eq_true rfl) dX1_put_57
  ·
    refine y_aload_n hM hl 0 rfl rfl dX1_put_13 ?_
    refine y_get hM hC hk6 rfl rfl (by decide +kernel) 2 ⟨by decide, rfl, rfl, rfl⟩ (by decide +kernel) rfl dX1_put_14 ?_
    refine y_iconst hM dX1_put_17 ?_
    refine y_iadd hM dX1_put_18 ?_
    refine y_bipush hM dX1_put_19 (by decide) ?_
    refine y_icmp_lt hM (by constructor <;> omega) (by constructor <;> omega) (tgt := 26) dX1_put_21 (by decide) (fun c_21 => ?_) (fun c_21 => ?_)
    ·
      refine y_aload_n hM hl 0 rfl rfl dX1_put_26 ?_
      refine lv_dup hM.1 hM.2.1 dX1_put_27 rfl ?_
      refine y_get hM hC hk6 rfl rfl (by decide +kernel) 2 ⟨by decide, rfl, rfl, rfl⟩ (by decide +kernel) rfl dX1_put_28 ?_
      refine y_iconst hM dX1_put_31 ?_
      refine y_iadd hM dX1_put_32 ?_
      refine y_put hM hC hk6 rfl rfl (by decide +kernel) tyX1 tyX1_ok nmX1 2 ⟨by decide, rfl, rfl, rfl, rfl⟩ (by decide +kernel) (ty := .int) (by decide +kernel) rfl rfl (Nat.le_of_ble_eq_true rfl) (T' := (up T 6 pv 2 ((T 6 pv 2) + (1)))) (P' := P) (cF_up rfl) (fun _ _ h => up_ne h) (fun _ _ _ => rfl) dX1_put_33 (fun H locs hC => ?_)
      refine y_aload_n hM hl 0 rfl rfl dX1_put_36 ?_
      refine y_get hM hC hk6 rfl rfl (by decide +kernel) 0 ⟨by decide, rfl, rfl, rfl⟩ (by decide +kernel) (congrArg (fun q => some (va_rf q)) hq6) dX1_put_37 ?_
      refine W.eq (g2 := F0 m 40 ls [.ref (ad 7 pv)]) rfl ?_
      refine y_aload_n hM hl 0 rfl rfl dX1_put_40 ?_
      refine y_get hM hC hk6 rfl rfl (by decide +kernel) 2 ⟨by decide, rfl, rfl, rfl⟩ (by decide +kernel) (congrArg (fun q => some (Value.int (iI q))) (show (up T 6 pv 2 ((T 6 pv 2) + (1))) 6 pv 2 = (T 6 pv 2) + (1) from by simp [up])) dX1_put_41 ?_
      refine y_iload_n hM hl 1 rfl rfl dX1_put_44 ?_
      refine y_iast hM hC hk7 (fun _ _ => rfl) ⟨by omega, by omega⟩ (by decide) dX1_put_45 (fun H locs hC => ?_)
      refine y_aload_n hM hl 0 rfl rfl dX1_put_46 ?_
      refine y_get hM hC hk6 rfl rfl (by decide +kernel) 1 ⟨by decide, rfl, rfl, rfl⟩ (by decide +kernel) (congrArg (fun q => some (va_rf q)) hq61) dX1_put_47 ?_
      refine W.eq (g2 := F0 m 50 ls [.ref (ad 8 pv)]) rfl ?_
      refine y_aload_n hM hl 0 rfl rfl dX1_put_50 ?_
      refine y_get hM hC hk6 rfl rfl (by decide +kernel) 2 ⟨by decide, rfl, rfl, rfl⟩ (by decide +kernel) (congrArg (fun q => some (Value.int (iI q))) (show (up (up T 6 pv 2 ((T 6 pv 2) + (1))) 7 pv (((T 6 pv 2) + (1)).toNat) (dd)) 6 pv 2 = (T 6 pv 2) + (1) from by simp [up])) dX1_put_51 ?_
      refine y_iload_n hM hl 2 rfl rfl dX1_put_54 ?_
      refine y_iast hM hC hk8 (fun _ _ => rfl) ⟨by omega, by omega⟩ (by decide) dX1_put_55 (fun H locs hC => ?_)
      refine y_iconst hM dX1_put_56 ?_
      exact y_zret hM hr hlk hC (by decide) ⟨_, rfl, (by (try dsimp only); omega), (by unfold putT; rw [if_neg c_10, if_neg (by omega)])⟩ (Nat.le_of_ble_eq_true rfl) (Nat.le_of_ble_eq_true rfl) dX1_put_57
    ·
      refine y_iconst hM dX1_put_24 ?_
      exact y_zret hM hr hlk hC (by decide) ⟨_, rfl, (by (try dsimp only); omega), (by unfold putT; rw [if_neg c_10, if_pos (by omega)])⟩ (Nat.le_of_ble_eq_true rfl) (Nat.le_of_ble_eq_true rfl) dX1_put_25
end
section
theorem RN_up {T : TT} {t i j : Nat} {v : Int} (ht : t ≠ 6 ∧ t ≠ 7 ∧ t ≠ 8) (h : RN T) : RN (up T t i j v) := by
  intro p hp
  have h6 : up T t i j v 6 p = T 6 p := up_ne (fun q => ht.1 q.1.symm)
  have h7 : up T t i j v 7 p = T 7 p := up_ne (fun q => ht.2.1 q.1.symm)
  have h8 : up T t i j v 8 p = T 8 p := up_ne (fun q => ht.2.2 q.1.symm)
  rw [h6, h7, h8]
  exact h p hp
theorem idxT_congr {T T' : TT} {p : Nat} (h : T' 7 p = T 7 p) (d : Int) : ∀ n, idxT T' p d n = idxT T p d n
  | 0 => rfl
  | n + 1 => by
    unfold idxT
    rw [h, idxT_congr h d n]
theorem valT_congr {T T' : TT} {p : Nat} (h6 : T' 6 p = T 6 p) (h7 : T' 7 p = T 7 p) (h8 : T' 8 p = T 8 p) (d : Int) : valT T' p d = valT T p d := by
  unfold valT
  rw [idxT_congr h7, h6, h8]
theorem valT_up {T : TT} {t i j : Nat} {v : Int} (ht : t ≠ 6 ∧ t ≠ 7 ∧ t ≠ 8) (p : Nat) (d : Int) : valT (up T t i j v) p d = valT T p d :=
  valT_congr (up_ne (fun q => ht.1 q.1.symm)) (up_ne (fun q => ht.2.1 q.1.symm)) (up_ne (fun q => ht.2.2 q.1.symm)) d
theorem DN_up {T : TT} {t i j : Nat} {v : Int} (ht : t ≠ 0) (h : DN T) : DN (up T t i j v) := by
  have h0 : up T t i j v 0 0 = T 0 0 := up_ne (fun q => ht q.1.symm)
  unfold DN
  rw [h0]
  exact h
theorem moF_in {u pr : Int} (hu : 0 ≤ u ∧ u ≤ 100000000) (hp : 0 < pr ∧ pr ≤ 10000) : 0 ≤ moF u pr ∧ moF u pr ≤ 1000000000 := by
  have h1 : 0 ≤ u * pr := Int.mul_nonneg (by omega) (by omega)
  have h2 : u * pr ≤ 100000000 * 10000 := Int.mul_le_mul (by omega) (by omega) (by omega) (by omega)
  unfold moF
  omega
theorem thF_nn {m pr : Int} (hm : 0 ≤ m) (hp : 0 < pr) : 0 ≤ thF m pr := Int.ediv_nonneg (by omega) (by omega)
theorem thF_le {m pr : Int} (hm : 0 ≤ m) (hp : 100 ≤ pr) : thF m pr ≤ m * 10 := by
  unfold thF
  refine Int.ediv_le_of_le_mul (by omega) ?_
  have h1 := Int.mul_le_mul_of_nonneg_left hp (show 0 ≤ m * 10 by omega)
  omega
theorem coF_in {u pr : Int} (hu : 0 ≤ u ∧ u ≤ 100000000) (hp : 0 < pr ∧ pr ≤ 10000) : 0 ≤ coF u pr ∧ coF u pr ≤ 1000000000 := by
  have h1 : 0 ≤ u * pr := Int.mul_nonneg (by omega) (by omega)
  have h2 : u * pr ≤ 100000000 * 10000 := Int.mul_le_mul (by omega) (by omega) (by omega) (by omega)
  unfold coF
  omega
theorem shaT_at {T : TT} {k : Nat} {co al : Int} {a : Nat} (b : Nat) (h : a ≠ 9 ∧ a ≠ 3) : shaT T k co al a b = T a b := by
  unfold shaT
  split
  · rfl
  · rw [up_ne (fun q => h.2 q.1), up_ne (fun q => h.1 q.1)]
theorem lateT_in {T : TT} {k : Nat} {d : Int} (h : 0 ≤ T 11 k 4) (hd : 0 ≤ d ∧ d ≤ 2000) : 0 ≤ lateT T k d ∧ lateT T k d ≤ 2000 := by
  unfold lateT dueT
  split <;> split at * <;> omega
theorem prF_in {T : TT} (hN : RN T) (hD : DN T) {p : Nat} (hp : p < 5) (f : Int) : 100 ≤ prF T p f ∧ prF T p f ≤ 10000 := by
  unfold prF
  split
  · exact valT_in hN hp _
  · exact ⟨hD.2.2.1, hD.2.2.2⟩
theorem gotT_nn {T : TT} {k : Nat} (hN : RN T) (hD : DN T) (h2 : T 11 k 2 < 5) (h8 : 0 ≤ T 11 k 8) (f : Int) : 0 ≤ gotT T k f := by
  have := prF_in hN hD (p := (T 11 k 2).toNat) (by omega) f
  exact thF_nn h8 (by omega)
theorem lakT_nn (T : TT) (k : Nat) (lb f : Int) : 0 ≤ lakT T k lb f := by
  unfold lakT
  split
  · split <;> omega
  · omega
theorem sellT_at {T : TT} {k : Nat} {f : Int} {a b : Nat} (h : ¬ (a = 11 ∧ b = k)) (h2 : a ≠ 10) : sellT T k f a b = T a b := by
  unfold sellT
  rw [up_ne (fun q => h2 q.1), up_ne h, up_ne h]
theorem sellT_3 {T : TT} {k : Nat} {f : Int} : sellT T k f 11 k 3 = T 11 k 3 := by simp [sellT, up]
theorem arrT_at {T : TT} {i : Nat} {h u : Int} {a b : Nat} (h2 : ¬ (a = 10 ∧ b = i)) : arrT T i h u a b = T a b := by
  unfold arrT
  rw [up_ne h2, up_ne h2, up_ne h2]
theorem buyT_at {T : TT} {k : Nat} {lb f : Int} {a b : Nat} (h : ¬ (a = 11 ∧ b = k)) (h2 : a ≠ 10 ∧ a ≠ 9 ∧ a ≠ 3) : buyT T k lb f a b = T a b := by
  unfold buyT
  rw [arrT_at (fun q => h2.1 q.1), up_ne h, shaT_at b ⟨h2.2.1, h2.2.2⟩]
theorem buyT_3 {T : TT} {k : Nat} {lb f : Int} : buyT T k lb f 11 k 3 = T 11 k 3 := by
  unfold buyT
  rw [arrT_at (fun q => absurd q.1 (by decide)), up_row, uR, if_neg (by decide), shaT_at k (by decide)]
theorem gotT_le {T : TT} {k : Nat} (hN : RN T) (hD : DN T) (h2 : T 11 k 2 < 5) (h8 : 0 ≤ T 11 k 8 ∧ T 11 k 8 ≤ 1000000000) (f : Int) : gotT T k f ≤ 10000000000 := by
  have hp := prF_in hN hD (p := (T 11 k 2).toNat) (by omega) f
  have h1 := thF_le (m := T 11 k 8) (by omega) hp.1
  unfold gotT
  omega
theorem timT_in {T : TT} {k : Nat} (hN : RN T) (h1 : T 11 k 1 < 5) (h2 : T 11 k 2 < 5) (h7 : 0 ≤ T 11 k 7 ∧ T 11 k 7 ≤ 100000000) (al : Int) : 0 ≤ timT T k al ∧ timT T k al ≤ 10000000000 := by
  have hp := valT_in hN (p := (T 11 k 1).toNat) (by omega) (T 11 k 4 - T 11 k 5)
  have hq := valT_in hN (p := (T 11 k 2).toNat) (by omega) (T 0 0 5 - al)
  have hm := moF_in (u := T 11 k 7) (pr := valT T (T 11 k 1).toNat (T 11 k 4 - T 11 k 5)) h7 (by omega)
  have h3 := thF_le (m := moF (T 11 k 7) (valT T (T 11 k 1).toNat (T 11 k 4 - T 11 k 5))) hm.1 hq.1
  have h4 := thF_nn (m := moF (T 11 k 7) (valT T (T 11 k 1).toNat (T 11 k 4 - T 11 k 5))) (pr := valT T (T 11 k 2).toNat (T 0 0 5 - al)) hm.1 (by omega)
  unfold timT
  omega
theorem lakT_le {T : TT} {k : Nat} (hN : RN T) (hD : DN T) (h1 : T 11 k 1 < 5) (h2 : T 11 k 2 < 5) (h7 : 0 ≤ T 11 k 7 ∧ T 11 k 7 ≤ 100000000) (h8 : 0 ≤ T 11 k 8) (lb f : Int) : lakT T k lb f ≤ 10000000000 := by
  have ht := timT_in hN h1 h2 h7 (allL T k lb)
  have hg := gotT_nn hN hD h2 h8 f
  unfold lakT
  split
  · split <;> omega
  · omega
end
section
set_option maxRecDepth 100000 in
set_option maxHeartbeats 8000000 in
theorem c_priceRowOf (l : Launch) (hfl : l.stackTraces = false) (G : GG) (b0 : Nat) (ks : KK) (ad : AD) (T : TT) (P : PP) (z : Int) (hz : inI z) (hF : FI ks ad P) (hRK : RK ks ad P) : vx_Met l yX3_priceRowOf wsX3_priceRowOf (rmX 6 1 6 82) (va_Pc [.ref (ad 0 0), .int (iI (z))] (Ok G b0 (ks, ad, T, P))) (Qr (pA (ad 6 z.toNat) (0 ≤ z ∧ z < 5) (ks, ad, T, P)) G b0) (Xr (pX (fun x => x = 1 ∧ (z < 0 ∨ 5 ≤ z)) (ks, ad, T, P)) G b0) 1 6 (Wx b0) := by
  refine vx_ofW (cc := cX3_priceRowOf) (maxL := 3) (ret := (some (.object "FundMoves$PriceRow"))) (by decide +kernel) rfl ?_
  intro p e s m args below meth c s₁ B hml hto hv
  obtain ⟨rfl, hok⟩ := hv
  have hM : CallFix p m c cX3_priceRowOf 3 s _ wsX3_priceRowOf RX3 := ⟨B.exec, B.bytes, hml, findClass_of_methodNamed B.named, atoms_spec (ws := wsX3_priceRowOf) B.pre⟩
  have hr := B.returns
  have hlk := B.notSynchronized
  have hC := hok.cur
  have hl := lv_entry ([.ref (ad 0 0), .int (iI (z))]) (n := 3) (Nat.le_of_ble_eq_true rfl)
  rw [lg_entry_eq]
  generalize (lg_sl ([.ref (ad 0 0), .int (iI (z))]) ++ List.replicate (3 - (lg_sl ([.ref (ad 0 0), .int (iI (z))])).length) Slot.unset).toArray = ls at hl ⊢
  have hl : lv_has ls 3 [(0, .ref (ad 0 0)), (1, .int (iI (z)))] := hl
  refine y_iload_n hM hl 1 rfl rfl dX3_priceRowOf_0 ?_
  refine y_callS hM hC (c_isProvider l hfl G b0 (ks, ad, T, P) (z) (by constructor <;> omega)) (va_cwS 1 hM.2.2.2.2 gX3_priceRowOf_X3_isProvider rfl rfl rfl (by decide +kernel) ⟨(Nat.le_of_ble_eq_true rfl), (Nat.le_of_ble_eq_true rfl)⟩) rfl hl.1 rfl (Nat.le_of_ble_eq_true rfl) dX3_priceRowOf_1 ⟨(Nat.le_of_ble_eq_true rfl), (Nat.le_of_ble_eq_true rfl)⟩ (fun E ce q9 u1 H locs hx hC hce hcv hcl => hx.elim) (fun v u1 H locs hp hC => ?_)
  obtain ⟨r_1, rfl, h_1, hu⟩ := hp; rw [hu] at hC; clear hu
  try dsimp only at h_1
  refine W.eq (g2 := F0 m 4 ls [.int (iI (r_1))]) rfl ?_
  refine y_if_eq hM (by constructor <;> omega) (tgt := 16) dX3_priceRowOf_4 (by decide) (fun c_4 => ?_) (fun c_4 => ?_)
  ·
    refine lv_null hM.1 hM.2.1 dX3_priceRowOf_16 ?_
    refine lv_astore_nN (lv' := [(2, .null), (0, .ref (ad 0 0)), (1, .int (iI (z)))]) hM.1 hM.2.1 dX3_priceRowOf_17 rfl hl (by decide) rfl (fun ls hl => ?_)
    refine y_aload_nN hM hl 0 rfl rfl dX3_priceRowOf_18 ?_
    refine lv_ifnonnullN hM.1 hM.2.1 dX3_priceRowOf_19 ?_
    exact y_throw hM hto hfl hlk hl.1 hC caA (text := "provider out of range") (by decide +kernel) ngA goA ⟨(by decide +kernel), (by decide +kernel)⟩ (by decide +kernel) dX3_priceRowOf_22 dX3_priceRowOf_25 dX3_priceRowOf_26 dX3_priceRowOf_28 dX3_priceRowOf_31 ⟨(Nat.le_of_ble_eq_true rfl), (Nat.le_of_ble_eq_true rfl), (Nat.le_of_ble_eq_true rfl), (Nat.le_of_ble_eq_true rfl)⟩ ⟨1, rfl, (by (try dsimp only); omega), rfl⟩ (Nat.le_of_ble_eq_true rfl) (Nat.le_of_ble_eq_true rfl)
  ·
    refine y_aload_n hM hl 0 rfl rfl dX3_priceRowOf_7 ?_
    refine y_get hM hC hF.1 rfl rfl (by decide +kernel) 0 ⟨by decide, rfl, rfl, rfl⟩ (by decide +kernel) (congrArg (fun q => some (va_rf q)) hF.2.2.2.2.2.2.1) dX3_priceRowOf_8 ?_
    refine W.eq (g2 := F0 m 11 ls [.ref (ad 1 0)]) rfl ?_
    refine y_iload_n hM hl 1 rfl rfl dX3_priceRowOf_11 ?_
    refine y_aald hM hC hF.2.1 0 rfl rfl ⟨by omega, by omega⟩ (by decide) (hRK _ (by omega)).2.2.2.2.1 dX3_priceRowOf_12 ?_
    refine W.eq (g2 := F0 m 13 ls [.ref (ad 6 z.toNat)]) rfl ?_
    refine lv_goto (tgt := 17) hM.1 hM.2.1 dX3_priceRowOf_13 (by decide) ?_
    refine lv_astore_n (lv' := [(2, .ref (ad 6 z.toNat)), (0, .ref (ad 0 0)), (1, .int (iI (z)))]) hM.1 hM.2.1 dX3_priceRowOf_17 rfl hl (by decide) rfl (fun ls hl => ?_)
    refine y_aload_n hM hl 0 rfl rfl dX3_priceRowOf_18 ?_
    refine lv_ifnonnull (tgt := 32) hM.1 hM.2.1 dX3_priceRowOf_19 (by decide) ?_
    refine y_aload_n hM hl 0 rfl rfl dX3_priceRowOf_32 ?_
    exact y_aret hM hr hlk hC ⟨rfl, (by omega), rfl⟩ (Nat.le_of_ble_eq_true rfl) (Nat.le_of_ble_eq_true rfl) dX3_priceRowOf_33

set_option maxRecDepth 100000 in
set_option maxHeartbeats 8000000 in
theorem c_priceNow (l : Launch) (hfl : l.stackTraces = false) (G : GG) (b0 : Nat) (ks : KK) (ad : AD) (T : TT) (P : PP) (z : Int) (hz : 0 ≤ z ∧ z < 5) (hF : FI ks ad P) (hRK : RK ks ad P) (hRN : RN T) (hDN : DN T) : vx_Met l yX3_priceNow wsX3_priceNow (rmX 7 1 6 104) (va_Pc [.ref (ad 0 0), .int (iI (z))] (Ok G b0 (ks, ad, T, P))) (Qr (pI (fun r => r = valT T z.toNat (T 0 0 5)) (ks, ad, T, P)) G b0) (Xr (noX) G b0) 1 6 (Wx b0) := by
  refine vx_ofW (cc := cX3_priceNow) (maxL := 2) (ret := (some .int)) (by decide +kernel) rfl ?_
  intro p e s m args below meth c s₁ B hml hto hv
  obtain ⟨rfl, hok⟩ := hv
  have hM : CallFix p m c cX3_priceNow 2 s _ wsX3_priceNow RX3 := ⟨B.exec, B.bytes, hml, findClass_of_methodNamed B.named, atoms_spec (ws := wsX3_priceNow) B.pre⟩
  have hr := B.returns
  have hlk := B.notSynchronized
  have hC := hok.cur
  have hl := lv_entry ([.ref (ad 0 0), .int (iI (z))]) (n := 2) (Nat.le_of_ble_eq_true rfl)
  rw [lg_entry_eq]
  generalize (lg_sl ([.ref (ad 0 0), .int (iI (z))]) ++ List.replicate (2 - (lg_sl ([.ref (ad 0 0), .int (iI (z))])).length) Slot.unset).toArray = ls at hl ⊢
  have hl : lv_has ls 2 [(0, .ref (ad 0 0)), (1, .int (iI (z)))] := hl
  obtain ⟨hd0, hd1, hd2, hd3⟩ := hDN
  refine y_aload_n hM hl 0 rfl rfl dX3_priceNow_0 ?_
  refine y_iload_n hM hl 1 rfl rfl dX3_priceNow_1 ?_
  refine y_callV hM hC (c_priceRowOf l hfl G b0 ks ad T P (z) (by constructor <;> omega) hF hRK) (cwV 1 hM.2.2.2.2 gX3_priceNow_X3_priceRowOf rfl rfl rfl (by decide +kernel) ⟨(Nat.le_of_ble_eq_true rfl), (Nat.le_of_ble_eq_true rfl)⟩) (y_recv hC hF.1 rfl rfl) rfl hl.1 rfl (Nat.le_of_ble_eq_true rfl) dX3_priceNow_2 ⟨(Nat.le_of_ble_eq_true rfl), (Nat.le_of_ble_eq_true rfl)⟩ (fun E ce q9 u1 H locs hx hC hce hcv hcl => by
      obtain ⟨x, rfl, hx, hu⟩ := hx; rw [hu] at hC; clear hu; try dsimp only at hx
      exact False.elim (by omega)) (fun v u1 H locs hp hC => ?_)
  obtain ⟨rfl, h_2, hu⟩ := hp; rw [hu] at hC; clear hu
  try dsimp only at h_2
  refine W.eq (g2 := F0 m 5 ls [.ref (ad 6 (z).toNat)]) rfl ?_
  refine y_aload_n hM hl 0 rfl rfl dX3_priceNow_5 ?_
  refine y_get hM hC hF.1 rfl rfl (by decide +kernel) 5 ⟨by decide, rfl, rfl, rfl⟩ (by decide +kernel) rfl dX3_priceNow_6 ?_
  refine y_callV hM hC (c_valueOn l hfl G b0 ks ad T P (z).toNat (by omega) hRK hRN (T 0 0 5) (by constructor <;> omega)) (cwV 1 hM.2.2.2.2 gX3_priceNow_X1_valueOn rfl rfl rfl (by decide +kernel) ⟨(Nat.le_of_ble_eq_true rfl), (Nat.le_of_ble_eq_true rfl)⟩) (y_recv hC (hRK _ (by omega)).1 rfl rfl) rfl hl.1 rfl (Nat.le_of_ble_eq_true rfl) dX3_priceNow_9 ⟨(Nat.le_of_ble_eq_true rfl), (Nat.le_of_ble_eq_true rfl)⟩ (fun E ce q9 u1 H locs hx hC hce hcv hcl => hx.elim) (fun v u1 H locs hp hC => ?_)
  obtain ⟨r_9, rfl, h_9, hu⟩ := hp; rw [hu] at hC; clear hu
  try dsimp only at h_9
  refine W.eq (g2 := F0 m 12 ls [.int (iI (r_9))]) rfl ?_
  exact y_iret hM hr hlk hC ⟨_, rfl, h_9, rfl⟩ (Nat.le_of_ble_eq_true rfl) (Nat.le_of_ble_eq_true rfl) dX3_priceNow_12

set_option maxRecDepth 100000 in
set_option maxHeartbeats 8000000 in
theorem c_saverAt (l : Launch) (hfl : l.stackTraces = false) (G : GG) (b0 : Nat) (ks : KK) (ad : AD) (T : TT) (P : PP) (z : Int) (hz : inI z) (hF : FI ks ad P) (hSK : SK ks ad T P) : vx_Met l yX3_saverAt wsX3_saverAt (rmX 6 1 6 82) (va_Pc [.ref (ad 0 0), .int (iI (z))] (Ok G b0 (ks, ad, T, P))) (Qr (pA (ad 10 z.toNat) (0 ≤ z ∧ z < T 0 0 7) (ks, ad, T, P)) G b0) (Xr (pX (fun x => x = 3 ∧ (z < 0 ∨ T 0 0 7 ≤ z)) (ks, ad, T, P)) G b0) 1 6 (Wx b0) := by
  refine vx_ofW (cc := cX3_saverAt) (maxL := 3) (ret := (some (.object "FundMoves$Saver"))) (by decide +kernel) rfl ?_
  intro p e s m args below meth c s₁ B hml hto hv
  obtain ⟨rfl, hok⟩ := hv
  have hM : CallFix p m c cX3_saverAt 3 s _ wsX3_saverAt RX3 := ⟨B.exec, B.bytes, hml, findClass_of_methodNamed B.named, atoms_spec (ws := wsX3_saverAt) B.pre⟩
  have hr := B.returns
  have hlk := B.notSynchronized
  have hC := hok.cur
  have hl := lv_entry ([.ref (ad 0 0), .int (iI (z))]) (n := 3) (Nat.le_of_ble_eq_true rfl)
  rw [lg_entry_eq]
  generalize (lg_sl ([.ref (ad 0 0), .int (iI (z))]) ++ List.replicate (3 - (lg_sl ([.ref (ad 0 0), .int (iI (z))])).length) Slot.unset).toArray = ls at hl ⊢
  have hl : lv_has ls 3 [(0, .ref (ad 0 0)), (1, .int (iI (z)))] := hl
  obtain ⟨hn0, hn1, hn2, hn3⟩ := id hSK
  refine y_iload_n hM hl 1 rfl rfl dX3_saverAt_0 ?_
  refine y_iconst hM dX3_saverAt_1 ?_
  refine y_bipush hM dX3_saverAt_2 (by decide) ?_
  refine y_callS hM hC (c_isOutside l hfl G b0 (ks, ad, T, P) (z) (0) (9) (by constructor <;> omega) (by constructor <;> omega) (by constructor <;> omega)) (va_cwS 3 hM.2.2.2.2 gX3_saverAt_X3_isOutside rfl rfl rfl (by decide +kernel) ⟨(Nat.le_of_ble_eq_true rfl), (Nat.le_of_ble_eq_true rfl)⟩) rfl hl.1 rfl (Nat.le_of_ble_eq_true rfl) dX3_saverAt_4 ⟨(Nat.le_of_ble_eq_true rfl), (Nat.le_of_ble_eq_true rfl)⟩ (fun E ce q9 u1 H locs hx hC hce hcv hcl => hx.elim) (fun v u1 H locs hp hC => ?_)
  obtain ⟨r_4, rfl, h_4, hu⟩ := hp; rw [hu] at hC; clear hu
  try dsimp only at h_4
  refine W.eq (g2 := F0 m 7 ls [.int (iI (r_4))]) rfl ?_
  refine y_if_eq hM (by constructor <;> omega) (tgt := 14) dX3_saverAt_7 (by decide) (fun c_7 => ?_) (fun c_7 => ?_)
  ·
    refine y_aload_n hM hl 0 rfl rfl dX3_saverAt_14 ?_
    refine y_get hM hC hF.1 rfl rfl (by decide +kernel) 3 ⟨by decide, rfl, rfl, rfl⟩ (by decide +kernel) (congrArg (fun q => some (va_rf q)) hF.2.2.2.2.2.2.2.2.2.1) dX3_saverAt_15 ?_
    refine W.eq (g2 := F0 m 18 ls [.ref (ad 4 0)]) rfl ?_
    refine y_iload_n hM hl 1 rfl rfl dX3_saverAt_18 ?_
    rcases Int.lt_or_le z (T 0 0 7) with hlt | hge
    ·
      refine y_aald hM hC hF.2.2.2.2.1 3 rfl rfl ⟨by omega, by omega⟩ (by decide) ((hn2 _ (by omega)).trans (if_pos (by omega))) dX3_saverAt_19 ?_
      refine W.eq (g2 := F0 m 20 ls [.ref (ad 10 z.toNat)]) rfl ?_
      refine lv_astore_n (lv' := [(2, .ref (ad 10 z.toNat)), (0, .ref (ad 0 0)), (1, .int (iI (z)))]) hM.1 hM.2.1 dX3_saverAt_20 rfl hl (by decide) rfl (fun ls hl => ?_)
      refine y_aload_n hM hl 0 rfl rfl dX3_saverAt_21 ?_
      refine lv_ifnonnull (tgt := 35) hM.1 hM.2.1 dX3_saverAt_22 (by decide) ?_
      refine y_aload_n hM hl 0 rfl rfl dX3_saverAt_35 ?_
      exact y_aret hM hr hlk hC ⟨rfl, (by omega), rfl⟩ (Nat.le_of_ble_eq_true rfl) (Nat.le_of_ble_eq_true rfl) dX3_saverAt_36
    ·
      refine y_aald hM hC hF.2.2.2.2.1 3 rfl rfl ⟨by omega, by omega⟩ (by decide) ((hn2 _ (by omega)).trans (if_neg (by omega))) dX3_saverAt_19 ?_
      refine W.eq (g2 := F0 m 20 ls [.null]) rfl ?_
      refine lv_astore_nN (lv' := [(2, .null), (0, .ref (ad 0 0)), (1, .int (iI (z)))]) hM.1 hM.2.1 dX3_saverAt_20 rfl hl (by decide) rfl (fun ls hl => ?_)
      refine y_aload_nN hM hl 0 rfl rfl dX3_saverAt_21 ?_
      refine lv_ifnonnullN hM.1 hM.2.1 dX3_saverAt_22 ?_
      exact y_throw hM hto hfl hlk hl.1 hC caB (text := "no such saver") (by decide +kernel) ngB goB ⟨(by decide +kernel), (by decide +kernel)⟩ (by decide +kernel) dX3_saverAt_25 dX3_saverAt_28 dX3_saverAt_29 dX3_saverAt_31 dX3_saverAt_34 ⟨(Nat.le_of_ble_eq_true rfl), (Nat.le_of_ble_eq_true rfl), (Nat.le_of_ble_eq_true rfl), (Nat.le_of_ble_eq_true rfl)⟩ ⟨3, rfl, (by (try dsimp only); omega), rfl⟩ (Nat.le_of_ble_eq_true rfl) (Nat.le_of_ble_eq_true rfl)
  ·
    refine lv_null hM.1 hM.2.1 dX3_saverAt_10 ?_
    refine lv_goto (tgt := 20) hM.1 hM.2.1 dX3_saverAt_11 (by decide) ?_
    refine lv_astore_nN (lv' := [(2, .null), (0, .ref (ad 0 0)), (1, .int (iI (z)))]) hM.1 hM.2.1 dX3_saverAt_20 rfl hl (by decide) rfl (fun ls hl => ?_)
    refine y_aload_nN hM hl 0 rfl rfl dX3_saverAt_21 ?_
    refine lv_ifnonnullN hM.1 hM.2.1 dX3_saverAt_22 ?_
    exact y_throw hM hto hfl hlk hl.1 hC caB (text := "no such saver") (by decide +kernel) ngB goB ⟨(by decide +kernel), (by decide +kernel)⟩ (by decide +kernel) dX3_saverAt_25 dX3_saverAt_28 dX3_saverAt_29 dX3_saverAt_31 dX3_saverAt_34 ⟨(Nat.le_of_ble_eq_true rfl), (Nat.le_of_ble_eq_true rfl), (Nat.le_of_ble_eq_true rfl), (Nat.le_of_ble_eq_true rfl)⟩ ⟨3, rfl, (by (try dsimp only); omega), rfl⟩ (Nat.le_of_ble_eq_true rfl) (Nat.le_of_ble_eq_true rfl)

set_option maxRecDepth 100000 in
set_option maxHeartbeats 8000000 in
theorem c_orderAt (l : Launch) (hfl : l.stackTraces = false) (G : GG) (b0 : Nat) (ks : KK) (ad : AD) (T : TT) (P : PP) (z : Int) (hz : inI z) (hF : FI ks ad P) (hOK : OK1 ks ad T P) : vx_Met l yX3_orderAt wsX3_orderAt (rmX 6 1 6 82) (va_Pc [.ref (ad 0 0), .int (iI (z))] (Ok G b0 (ks, ad, T, P))) (Qr (pA (ad 11 z.toNat) (0 ≤ z ∧ z < T 0 0 8) (ks, ad, T, P)) G b0) (Xr (pX (fun x => x = 3 ∧ (z < 0 ∨ T 0 0 8 ≤ z)) (ks, ad, T, P)) G b0) 1 6 (Wx b0) := by
  refine vx_ofW (cc := cX3_orderAt) (maxL := 3) (ret := (some (.object "FundMoves$Order"))) (by decide +kernel) rfl ?_
  intro p e s m args below meth c s₁ B hml hto hv
  obtain ⟨rfl, hok⟩ := hv
  have hM : CallFix p m c cX3_orderAt 3 s _ wsX3_orderAt RX3 := ⟨B.exec, B.bytes, hml, findClass_of_methodNamed B.named, atoms_spec (ws := wsX3_orderAt) B.pre⟩
  have hr := B.returns
  have hlk := B.notSynchronized
  have hC := hok.cur
  have hl := lv_entry ([.ref (ad 0 0), .int (iI (z))]) (n := 3) (Nat.le_of_ble_eq_true rfl)
  rw [lg_entry_eq]
  generalize (lg_sl ([.ref (ad 0 0), .int (iI (z))]) ++ List.replicate (3 - (lg_sl ([.ref (ad 0 0), .int (iI (z))])).length) Slot.unset).toArray = ls at hl ⊢
  have hl : lv_has ls 3 [(0, .ref (ad 0 0)), (1, .int (iI (z)))] := hl
  obtain ⟨hn0, hn1, hn2, hn3⟩ := id hOK
  refine y_iload_n hM hl 1 rfl rfl dX3_orderAt_0 ?_
  refine y_iconst hM dX3_orderAt_1 ?_
  refine y_bipush hM dX3_orderAt_2 (by decide) ?_
  refine y_callS hM hC (c_isOutside l hfl G b0 (ks, ad, T, P) (z) (0) (29) (by constructor <;> omega) (by constructor <;> omega) (by constructor <;> omega)) (va_cwS 3 hM.2.2.2.2 gX3_orderAt_X3_isOutside rfl rfl rfl (by decide +kernel) ⟨(Nat.le_of_ble_eq_true rfl), (Nat.le_of_ble_eq_true rfl)⟩) rfl hl.1 rfl (Nat.le_of_ble_eq_true rfl) dX3_orderAt_4 ⟨(Nat.le_of_ble_eq_true rfl), (Nat.le_of_ble_eq_true rfl)⟩ (fun E ce q9 u1 H locs hx hC hce hcv hcl => hx.elim) (fun v u1 H locs hp hC => ?_)
  obtain ⟨r_4, rfl, h_4, hu⟩ := hp; rw [hu] at hC; clear hu
  try dsimp only at h_4
  refine W.eq (g2 := F0 m 7 ls [.int (iI (r_4))]) rfl ?_
  refine y_if_eq hM (by constructor <;> omega) (tgt := 14) dX3_orderAt_7 (by decide) (fun c_7 => ?_) (fun c_7 => ?_)
  ·
    refine y_aload_n hM hl 0 rfl rfl dX3_orderAt_14 ?_
    refine y_get hM hC hF.1 rfl rfl (by decide +kernel) 4 ⟨by decide, rfl, rfl, rfl⟩ (by decide +kernel) (congrArg (fun q => some (va_rf q)) hF.2.2.2.2.2.2.2.2.2.2) dX3_orderAt_15 ?_
    refine W.eq (g2 := F0 m 18 ls [.ref (ad 5 0)]) rfl ?_
    refine y_iload_n hM hl 1 rfl rfl dX3_orderAt_18 ?_
    rcases Int.lt_or_le z (T 0 0 8) with hlt | hge
    ·
      refine y_aald hM hC hF.2.2.2.2.2.1 4 rfl rfl ⟨by omega, by omega⟩ (by decide) ((hn2 _ (by omega)).trans (if_pos (by omega))) dX3_orderAt_19 ?_
      refine W.eq (g2 := F0 m 20 ls [.ref (ad 11 z.toNat)]) rfl ?_
      refine lv_astore_n (lv' := [(2, .ref (ad 11 z.toNat)), (0, .ref (ad 0 0)), (1, .int (iI (z)))]) hM.1 hM.2.1 dX3_orderAt_20 rfl hl (by decide) rfl (fun ls hl => ?_)
      refine y_aload_n hM hl 0 rfl rfl dX3_orderAt_21 ?_
      refine lv_ifnonnull (tgt := 35) hM.1 hM.2.1 dX3_orderAt_22 (by decide) ?_
      refine y_aload_n hM hl 0 rfl rfl dX3_orderAt_35 ?_
      exact y_aret hM hr hlk hC ⟨rfl, (by omega), rfl⟩ (Nat.le_of_ble_eq_true rfl) (Nat.le_of_ble_eq_true rfl) dX3_orderAt_36
    ·
      refine y_aald hM hC hF.2.2.2.2.2.1 4 rfl rfl ⟨by omega, by omega⟩ (by decide) ((hn2 _ (by omega)).trans (if_neg (by omega))) dX3_orderAt_19 ?_
      refine W.eq (g2 := F0 m 20 ls [.null]) rfl ?_
      refine lv_astore_nN (lv' := [(2, .null), (0, .ref (ad 0 0)), (1, .int (iI (z)))]) hM.1 hM.2.1 dX3_orderAt_20 rfl hl (by decide) rfl (fun ls hl => ?_)
      refine y_aload_nN hM hl 0 rfl rfl dX3_orderAt_21 ?_
      refine lv_ifnonnullN hM.1 hM.2.1 dX3_orderAt_22 ?_
      exact y_throw hM hto hfl hlk hl.1 hC caB (text := "no such order") (by decide +kernel) ngB goB ⟨(by decide +kernel), (by decide +kernel)⟩ (by decide +kernel) dX3_orderAt_25 dX3_orderAt_28 dX3_orderAt_29 dX3_orderAt_31 dX3_orderAt_34 ⟨(Nat.le_of_ble_eq_true rfl), (Nat.le_of_ble_eq_true rfl), (Nat.le_of_ble_eq_true rfl), (Nat.le_of_ble_eq_true rfl)⟩ ⟨3, rfl, (by (try dsimp only); omega), rfl⟩ (Nat.le_of_ble_eq_true rfl) (Nat.le_of_ble_eq_true rfl)
  ·
    refine lv_null hM.1 hM.2.1 dX3_orderAt_10 ?_
    refine lv_goto (tgt := 20) hM.1 hM.2.1 dX3_orderAt_11 (by decide) ?_
    refine lv_astore_nN (lv' := [(2, .null), (0, .ref (ad 0 0)), (1, .int (iI (z)))]) hM.1 hM.2.1 dX3_orderAt_20 rfl hl (by decide) rfl (fun ls hl => ?_)
    refine y_aload_nN hM hl 0 rfl rfl dX3_orderAt_21 ?_
    refine lv_ifnonnullN hM.1 hM.2.1 dX3_orderAt_22 ?_
    exact y_throw hM hto hfl hlk hl.1 hC caB (text := "no such order") (by decide +kernel) ngB goB ⟨(by decide +kernel), (by decide +kernel)⟩ (by decide +kernel) dX3_orderAt_25 dX3_orderAt_28 dX3_orderAt_29 dX3_orderAt_31 dX3_orderAt_34 ⟨(Nat.le_of_ble_eq_true rfl), (Nat.le_of_ble_eq_true rfl), (Nat.le_of_ble_eq_true rfl), (Nat.le_of_ble_eq_true rfl)⟩ ⟨3, rfl, (by (try dsimp only); omega), rfl⟩ (Nat.le_of_ble_eq_true rfl) (Nat.le_of_ble_eq_true rfl)

set_option maxRecDepth 100000 in
set_option maxHeartbeats 8000000 in
theorem c_openOrderAt (l : Launch) (hfl : l.stackTraces = false) (G : GG) (b0 : Nat) (ks : KK) (ad : AD) (T : TT) (P : PP) (z : Int) (hz : inI z) (hF : FI ks ad P) (hOK : OK1 ks ad T P) (hON : ON T) : vx_Met l yX3_openOrderAt wsX3_openOrderAt (rmX 7 2 12 104) (va_Pc [.ref (ad 0 0), .int (iI (z))] (Ok G b0 (ks, ad, T, P))) (Qr (pA (ad 11 z.toNat) (0 ≤ z ∧ z < T 0 0 8 ∧ T 11 z.toNat 3 ≠ 3) (ks, ad, T, P)) G b0) (Xr (pX (fun x => (x = 3 ∧ (z < 0 ∨ T 0 0 8 ≤ z)) ∨ (x = 2 ∧ 0 ≤ z ∧ z < T 0 0 8 ∧ T 11 z.toNat 3 = 3)) (ks, ad, T, P)) G b0) 2 12 (Wx b0) := by
  refine vx_ofW (cc := cX3_openOrderAt) (maxL := 3) (ret := (some (.object "FundMoves$Order"))) (by decide +kernel) rfl ?_
  intro p e s m args below meth c s₁ B hml hto hv
  obtain ⟨rfl, hok⟩ := hv
  have hM : CallFix p m c cX3_openOrderAt 3 s _ wsX3_openOrderAt RX3 := ⟨B.exec, B.bytes, hml, findClass_of_methodNamed B.named, atoms_spec (ws := wsX3_openOrderAt) B.pre⟩
  have hr := B.returns
  have hlk := B.notSynchronized
  have hC := hok.cur
  have hl := lv_entry ([.ref (ad 0 0), .int (iI (z))]) (n := 3) (Nat.le_of_ble_eq_true rfl)
  rw [lg_entry_eq]
  generalize (lg_sl ([.ref (ad 0 0), .int (iI (z))]) ++ List.replicate (3 - (lg_sl ([.ref (ad 0 0), .int (iI (z))])).length) Slot.unset).toArray = ls at hl ⊢
  have hl : lv_has ls 3 [(0, .ref (ad 0 0)), (1, .int (iI (z)))] := hl
  refine y_aload_n hM hl 0 rfl rfl dX3_openOrderAt_0 ?_
  refine y_iload_n hM hl 1 rfl rfl dX3_openOrderAt_1 ?_
  refine y_callV hM hC (c_orderAt l hfl G b0 ks ad T P (z) (by constructor <;> omega) hF hOK) (cwV 1 hM.2.2.2.2 gX3_openOrderAt_X3_orderAt rfl rfl rfl (by decide +kernel) ⟨(Nat.le_of_ble_eq_true rfl), (Nat.le_of_ble_eq_true rfl)⟩) (y_recv hC hF.1 rfl rfl) rfl hl.1 rfl (Nat.le_of_ble_eq_true rfl) dX3_openOrderAt_2 ⟨(Nat.le_of_ble_eq_true rfl), (Nat.le_of_ble_eq_true rfl)⟩ (fun E ce q9 u1 H locs hx hC hce hcv hcl => by
      obtain ⟨x, rfl, hx, hu⟩ := hx; rw [hu] at hC; clear hu; try dsimp only at hx
      exact y_out hto hlk hC hce hcv hcl ⟨x, rfl, (by (try dsimp only); omega), rfl⟩ (Nat.le_of_ble_eq_true rfl) (Nat.le_of_ble_eq_true rfl)) (fun v u1 H locs hp hC => ?_)
  obtain ⟨rfl, h_2, hu⟩ := hp; rw [hu] at hC; clear hu
  try dsimp only at h_2
  refine W.eq (g2 := F0 m 5 ls [.ref (ad 11 (z).toNat)]) rfl ?_
  have ho := hON z.toNat (by omega)
  refine lv_astore_n (lv' := [(2, .ref (ad 11 (z).toNat)), (0, .ref (ad 0 0)), (1, .int (iI (z)))]) hM.1 hM.2.1 dX3_openOrderAt_5 rfl hl (by decide) rfl (fun ls hl => ?_)
  refine y_aload_n hM hl 0 rfl rfl dX3_openOrderAt_6 ?_
  refine y_getN hM hC (hOK.2.2.2 _ (by omega)).1 rfl rfl (by decide +kernel) 3 0 ⟨by decide, rfl, rfl, rfl⟩ (by decide +kernel) rfl dX3_openOrderAt_7 ?_
  refine y_iconst hM dX3_openOrderAt_10 ?_
  refine y_icmp_ne hM (by constructor <;> omega) (by constructor <;> omega) (tgt := 24) dX3_openOrderAt_11 (by decide) (fun c_11 => ?_) (fun c_11 => ?_)
  ·
    refine y_aload_n hM hl 0 rfl rfl dX3_openOrderAt_24 ?_
    exact y_aret hM hr hlk hC ⟨rfl, (by omega), rfl⟩ (Nat.le_of_ble_eq_true rfl) (Nat.le_of_ble_eq_true rfl) dX3_openOrderAt_25
  ·
    exact y_throw hM hto hfl hlk hl.1 hC caS (text := "the order is done") (by decide +kernel) ngS goS ⟨(by decide +kernel), (by decide +kernel)⟩ (by decide +kernel) dX3_openOrderAt_14 dX3_openOrderAt_17 dX3_openOrderAt_18 dX3_openOrderAt_20 dX3_openOrderAt_23 ⟨(Nat.le_of_ble_eq_true rfl), (Nat.le_of_ble_eq_true rfl), (Nat.le_of_ble_eq_true rfl), (Nat.le_of_ble_eq_true rfl)⟩ ⟨2, rfl, (by (try dsimp only); omega), rfl⟩ (Nat.le_of_ble_eq_true rfl) (Nat.le_of_ble_eq_true rfl)

set_option maxRecDepth 100000 in
set_option maxHeartbeats 8000000 in
theorem c_sell (l : Launch) (hfl : l.stackTraces = false) (G : GG) (b0 : Nat) (ks : KK) (ad : AD) (T : TT) (P : PP) (k : Nat) (hkn : (k : Int) < T 0 0 8) (f : Int) (hf : f = 0 ∨ f = 1) (hF : FI ks ad P) (hRK : RK ks ad P) (hRN : RN T) (hDN : DN T) (hSK : SK ks ad T P) (hSN : SN T) (hOK : OK1 ks ad T P) (hON : ON T)  : vx_Met l yX3_sell wsX3_sell (rmX 8 1 6 125) (va_Pc [.ref (ad 0 0), .ref (ad 11 k), .int (iI (f))] (Ok G b0 (ks, ad, T, P))) (Qr (pV True (ks, ad, sellT T k f, P)) G b0) (Xr (noX) G b0) 1 6 (Wx b0) := by
  refine vx_ofW (cc := cX3_sell) (maxL := 3) (ret := none) (by decide +kernel) rfl ?_
  intro p e s m args below meth c s₁ B hml hto hv
  obtain ⟨rfl, hok⟩ := hv
  have hM : CallFix p m c cX3_sell 3 s _ wsX3_sell RX3 := ⟨B.exec, B.bytes, hml, findClass_of_methodNamed B.named, atoms_spec (ws := wsX3_sell) B.pre⟩
  have hr := B.returns
  have hlk := B.notSynchronized
  have hC := hok.cur
  have hl := lv_entry ([.ref (ad 0 0), .ref (ad 11 k), .int (iI (f))]) (n := 3) (Nat.le_of_ble_eq_true rfl)
  rw [lg_entry_eq]
  generalize (lg_sl ([.ref (ad 0 0), .ref (ad 11 k), .int (iI (f))]) ++ List.replicate (3 - (lg_sl ([.ref (ad 0 0), .ref (ad 11 k), .int (iI (f))])).length) Slot.unset).toArray = ls at hl ⊢
  have hl : lv_has ls 3 [(0, .ref (ad 0 0)), (1, .ref (ad 11 k)), (2, .int (iI (f)))] := hl
  obtain ⟨hk11, hpm, hm0, hm1⟩ := hOK.2.2.2 k hkn
  have ho := hON k hkn
  have hs := hSN (mvT T k) (by unfold mvT; omega)
  have hk10 := hSK.2.2.2 (mvT T k) (by unfold mvT; omega)
  obtain ⟨hd0, hd1, hd2, hd3⟩ := id hDN
  refine y_aload_n hM hl 1 rfl rfl dX3_sell_0 ?_
  refine y_aload_n hM hl 1 rfl rfl dX3_sell_1 ?_
  refine y_getN hM hC hk11 rfl rfl (by decide +kernel) 0 3 ⟨by decide, rfl, rfl, rfl⟩ (by decide +kernel) (congrArg (fun q => some (va_rf q)) hpm) dX3_sell_2 ?_
  refine W.eq (g2 := F0 m 5 ls [.ref (ad 10 (mvT T k)), .ref (ad 11 k)]) rfl ?_
  refine y_getN hM hC hk10 rfl rfl (by decide +kernel) 1 1 ⟨by decide, rfl, rfl, rfl⟩ (by decide +kernel) rfl dX3_sell_5 ?_
  refine y_putN hM hC hk11 rfl rfl (by decide +kernel) tyX0 tyX0_ok nmX0 7 1 ⟨by decide, rfl, rfl, rfl, rfl⟩ (by decide +kernel) (ty := .long) (by decide +kernel) rfl rfl (Nat.le_of_ble_eq_true rfl) (T' := (up T 11 k 7 (T 10 (mvT T k) 1))) (P' := P) (cF_up rfl) (fun _ _ h => up_ne h) (fun _ _ _ => rfl) dX3_sell_8 (fun H locs hC => ?_)
  refine y_aload_n hM hl 1 rfl rfl dX3_sell_11 ?_
  refine y_aload_n hM hl 1 rfl rfl dX3_sell_12 ?_
  refine y_getN hM hC hk11 rfl rfl (by decide +kernel) 7 1 ⟨by decide, rfl, rfl, rfl⟩ (by decide +kernel) (congrArg (fun q => some (Value.long (lI q))) (show (up T 11 k 7 (T 10 (mvT T k) 1)) 11 k 7 = T 10 (mvT T k) 1 from by simp [up])) dX3_sell_13 ?_
  refine y_iload_n hM hl 2 rfl rfl dX3_sell_16 ?_
  refine y_if_eq hM (by constructor <;> omega) (tgt := 27) dX3_sell_17 (by decide) (fun c_17 => ?_) (fun c_17 => ?_)
  ·
    refine y_aload_n hM hl 0 rfl rfl dX3_sell_27 ?_
    refine y_aload_n hM hl 1 rfl rfl dX3_sell_28 ?_
    refine y_getN hM hC hk11 rfl rfl (by decide +kernel) 1 0 ⟨by decide, rfl, rfl, rfl⟩ (by decide +kernel) (congrArg (fun q => some (Value.int (iI q))) (show (up T 11 k 7 (T 10 (mvT T k) 1)) 11 k 1 = T 11 k 1 from by simp [up])) dX3_sell_29 ?_
    refine y_callV hM hC (c_priceNow l hfl G b0 ks ad (up T 11 k 7 (T 10 (mvT T k) 1)) P (T 11 k 1) ⟨by omega, by omega⟩ hF hRK (RN_up (by decide) hRN) (DN_up (by decide) hDN)) (cwV 1 hM.2.2.2.2 gX3_sell_X3_priceNow rfl rfl rfl (by decide +kernel) ⟨(Nat.le_of_ble_eq_true rfl), (Nat.le_of_ble_eq_true rfl)⟩) (y_recv hC hF.1 rfl rfl) rfl hl.1 rfl (Nat.le_of_ble_eq_true rfl) dX3_sell_32 ⟨(Nat.le_of_ble_eq_true rfl), (Nat.le_of_ble_eq_true rfl)⟩ (fun E ce q9 u1 H locs hx hC hce hcv hcl => hx.elim) (fun v u1 H locs hp hC => ?_)
    obtain ⟨r_32, rfl, h_32, hu⟩ := hp; rw [hu] at hC; clear hu
    try dsimp only at h_32
    refine W.eq (g2 := F0 m 35 ls [.int (iI (r_32)), .long (lI (T 10 (mvT T k) 1)), .ref (ad 11 k)]) rfl ?_
    have h_32 : r_32 = valT T (T 11 k 1).toNat (T 0 0 5) := by
      rw [h_32, valT_up (by decide)]
      simp [up]
    have hv_32 := valT_in hRN (p := (T 11 k 1).toNat) (by omega) (T 0 0 5)
    refine y_callS hM hC (c_moneyFor l hfl G b0 (ks, ad, (up T 11 k 7 (T 10 (mvT T k) 1)), P) (T 10 (mvT T k) 1) (r_32) ⟨by omega, by omega⟩ ⟨by omega, by omega⟩) (va_cwS 2 hM.2.2.2.2 gX3_sell_X3_moneyFor rfl rfl rfl (by decide +kernel) ⟨(Nat.le_of_ble_eq_true rfl), (Nat.le_of_ble_eq_true rfl)⟩) rfl hl.1 rfl (Nat.le_of_ble_eq_true rfl) dX3_sell_35 ⟨(Nat.le_of_ble_eq_true rfl), (Nat.le_of_ble_eq_true rfl)⟩ (fun E ce q9 u1 H locs hx hC hce hcv hcl => hx.elim) (fun v u1 H locs hp hC => ?_)
    obtain ⟨r_35, rfl, h_35, hu⟩ := hp; rw [hu] at hC; clear hu
    try dsimp only at h_35
    refine W.eq (g2 := F0 m 38 ls [.long (lI (r_35)), .ref (ad 11 k)]) rfl ?_
    refine y_putN hM hC hk11 rfl rfl (by decide +kernel) tyX0 tyX0_ok nmX0 8 1 ⟨by decide, rfl, rfl, rfl, rfl⟩ (by decide +kernel) (ty := .long) (by decide +kernel) rfl rfl (Nat.le_of_ble_eq_true rfl) (T' := (up (up T 11 k 7 (T 10 (mvT T k) 1)) 11 k 8 (r_35))) (P' := P) (cF_up rfl) (fun _ _ h => up_ne h) (fun _ _ _ => rfl) dX3_sell_38 (fun H locs hC => ?_)
    refine y_aload_n hM hl 1 rfl rfl dX3_sell_41 ?_
    refine y_getN hM hC hk11 rfl rfl (by decide +kernel) 0 3 ⟨by decide, rfl, rfl, rfl⟩ (by decide +kernel) (congrArg (fun q => some (va_rf q)) hpm) dX3_sell_42 ?_
    refine W.eq (g2 := F0 m 45 ls [.ref (ad 10 (mvT T k))]) rfl ?_
    refine y_lconst hM 0 (by decide) dX3_sell_45 ?_
    refine y_putN hM hC hk10 rfl rfl (by decide +kernel) tyX2 tyX2_ok nmX2 1 1 ⟨by decide, rfl, rfl, rfl, rfl⟩ (by decide +kernel) (ty := .long) (by decide +kernel) rfl rfl (Nat.le_of_ble_eq_true rfl) (T' := (up (up (up T 11 k 7 (T 10 (mvT T k) 1)) 11 k 8 (r_35)) 10 (mvT T k) 1 (0))) (P' := P) (cF_up rfl) (fun _ _ h => up_ne h) (fun _ _ _ => rfl) dX3_sell_46 (fun H locs hC => ?_)
    exact y_vret hM hr hlk hC ⟨rfl, trivial, (by rw [h_35]; unfold sellT prF; rw [if_pos c_17, ← h_32])⟩ (Nat.le_of_ble_eq_true rfl) (Nat.le_of_ble_eq_true rfl) dX3_sell_49
  ·
    refine y_aload_n hM hl 0 rfl rfl dX3_sell_20 ?_
    refine y_get hM hC hF.1 rfl rfl (by decide +kernel) 6 ⟨by decide, rfl, rfl, rfl⟩ (by decide +kernel) (congrArg (fun q => some (Value.int (iI q))) (show (up T 11 k 7 (T 10 (mvT T k) 1)) 0 0 6 = T 0 0 6 from by simp [up])) dX3_sell_21 ?_
    refine lv_goto (tgt := 35) hM.1 hM.2.1 dX3_sell_24 (by decide) ?_
    refine y_callS hM hC (c_moneyFor l hfl G b0 (ks, ad, (up T 11 k 7 (T 10 (mvT T k) 1)), P) (T 10 (mvT T k) 1) (T 0 0 6) ⟨by omega, by omega⟩ ⟨by omega, by omega⟩) (va_cwS 2 hM.2.2.2.2 gX3_sell_X3_moneyFor rfl rfl rfl (by decide +kernel) ⟨(Nat.le_of_ble_eq_true rfl), (Nat.le_of_ble_eq_true rfl)⟩) rfl hl.1 rfl (Nat.le_of_ble_eq_true rfl) dX3_sell_35 ⟨(Nat.le_of_ble_eq_true rfl), (Nat.le_of_ble_eq_true rfl)⟩ (fun E ce q9 u1 H locs hx hC hce hcv hcl => hx.elim) (fun v u1 H locs hp hC => ?_)
    obtain ⟨r_35, rfl, h_35, hu⟩ := hp; rw [hu] at hC; clear hu
    try dsimp only at h_35
    refine W.eq (g2 := F0 m 38 ls [.long (lI (r_35)), .ref (ad 11 k)]) rfl ?_
    refine y_putN hM hC hk11 rfl rfl (by decide +kernel) tyX0 tyX0_ok nmX0 8 1 ⟨by decide, rfl, rfl, rfl, rfl⟩ (by decide +kernel) (ty := .long) (by decide +kernel) rfl rfl (Nat.le_of_ble_eq_true rfl) (T' := (up (up T 11 k 7 (T 10 (mvT T k) 1)) 11 k 8 (r_35))) (P' := P) (cF_up rfl) (fun _ _ h => up_ne h) (fun _ _ _ => rfl) dX3_sell_38 (fun H locs hC => ?_)
    refine y_aload_n hM hl 1 rfl rfl dX3_sell_41 ?_
    refine y_getN hM hC hk11 rfl rfl (by decide +kernel) 0 3 ⟨by decide, rfl, rfl, rfl⟩ (by decide +kernel) (congrArg (fun q => some (va_rf q)) hpm) dX3_sell_42 ?_
    refine W.eq (g2 := F0 m 45 ls [.ref (ad 10 (mvT T k))]) rfl ?_
    refine y_lconst hM 0 (by decide) dX3_sell_45 ?_
    refine y_putN hM hC hk10 rfl rfl (by decide +kernel) tyX2 tyX2_ok nmX2 1 1 ⟨by decide, rfl, rfl, rfl, rfl⟩ (by decide +kernel) (ty := .long) (by decide +kernel) rfl rfl (Nat.le_of_ble_eq_true rfl) (T' := (up (up (up T 11 k 7 (T 10 (mvT T k) 1)) 11 k 8 (r_35)) 10 (mvT T k) 1 (0))) (P' := P) (cF_up rfl) (fun _ _ h => up_ne h) (fun _ _ _ => rfl) dX3_sell_46 (fun H locs hC => ?_)
    exact y_vret hM hr hlk hC ⟨rfl, trivial, (by rw [h_35]; unfold sellT prF; rw [if_neg c_17])⟩ (Nat.le_of_ble_eq_true rfl) (Nat.le_of_ble_eq_true rfl) dX3_sell_49

set_option maxRecDepth 100000 in
set_option maxHeartbeats 8000000 in
theorem c_timely (l : Launch) (hfl : l.stackTraces = false) (G : GG) (b0 : Nat) (ks : KK) (ad : AD) (T : TT) (P : PP) (k : Nat) (hkn : (k : Int) < T 0 0 8) (al : Int) (hal : 0 ≤ al ∧ al ≤ 10000) (hF : FI ks ad P) (hRK : RK ks ad P) (hRN : RN T) (hDN : DN T) (hSK : SK ks ad T P) (hSN : SN T) (hOK : OK1 ks ad T P) (hON : ON T)  : vx_Met l yX3_timelyThousandths wsX3_timelyThousandths (rmX 7 2 12 104) (va_Pc [.ref (ad 0 0), .ref (ad 11 k), .int (iI (al))] (Ok G b0 (ks, ad, T, P))) (Qr (pJ (fun r => r = timT T k al) (ks, ad, T, P)) G b0) (Xr (noX) G b0) 2 12 (Wx b0) := by
  refine vx_ofW (cc := cX3_timelyThousandths) (maxL := 7) (ret := (some .long)) (by decide +kernel) rfl ?_
  intro p e s m args below meth c s₁ B hml hto hv
  obtain ⟨rfl, hok⟩ := hv
  have hM : CallFix p m c cX3_timelyThousandths 7 s _ wsX3_timelyThousandths RX3 := ⟨B.exec, B.bytes, hml, findClass_of_methodNamed B.named, atoms_spec (ws := wsX3_timelyThousandths) B.pre⟩
  have hr := B.returns
  have hlk := B.notSynchronized
  have hC := hok.cur
  have hl := lv_entry ([.ref (ad 0 0), .ref (ad 11 k), .int (iI (al))]) (n := 7) (Nat.le_of_ble_eq_true rfl)
  rw [lg_entry_eq]
  generalize (lg_sl ([.ref (ad 0 0), .ref (ad 11 k), .int (iI (al))]) ++ List.replicate (7 - (lg_sl ([.ref (ad 0 0), .ref (ad 11 k), .int (iI (al))])).length) Slot.unset).toArray = ls at hl ⊢
  have hl : lv_has ls 7 [(0, .ref (ad 0 0)), (1, .ref (ad 11 k)), (2, .int (iI (al)))] := hl
  obtain ⟨hk11, hpm, hm0, hm1⟩ := hOK.2.2.2 k hkn
  have ho := hON k hkn
  have hs := hSN (mvT T k) (by unfold mvT; omega)
  have hk10 := hSK.2.2.2 (mvT T k) (by unfold mvT; omega)
  obtain ⟨hd0, hd1, hd2, hd3⟩ := id hDN
  refine y_aload_n hM hl 1 rfl rfl dX3_timelyThousandths_0 ?_
  refine y_getN hM hC hk11 rfl rfl (by decide +kernel) 4 0 ⟨by decide, rfl, rfl, rfl⟩ (by decide +kernel) rfl dX3_timelyThousandths_1 ?_
  refine y_aload_n hM hl 1 rfl rfl dX3_timelyThousandths_4 ?_
  refine y_getN hM hC hk11 rfl rfl (by decide +kernel) 5 0 ⟨by decide, rfl, rfl, rfl⟩ (by decide +kernel) rfl dX3_timelyThousandths_5 ?_
  refine y_isub hM dX3_timelyThousandths_8 ?_
  refine lv_istore_n (lv' := [(3, .int (iI ((T 11 k 4) - (T 11 k 5)))), (0, .ref (ad 0 0)), (1, .ref (ad 11 k)), (2, .int (iI (al)))]) hM.1 hM.2.1 dX3_timelyThousandths_9 rfl hl (by decide) rfl (fun ls hl => ?_)
  refine y_aload_n hM hl 1 rfl rfl dX3_timelyThousandths_10 ?_
  refine y_get hM hC hF.1 rfl rfl (by decide +kernel) 5 ⟨by decide, rfl, rfl, rfl⟩ (by decide +kernel) rfl dX3_timelyThousandths_11 ?_
  refine y_iload_n hM hl 3 rfl rfl dX3_timelyThousandths_14 ?_
  refine y_isub hM dX3_timelyThousandths_15 ?_
  refine lv_istore (lv' := [(4, .int (iI ((T 0 0 5) - (al)))), (3, .int (iI ((T 11 k 4) - (T 11 k 5)))), (0, .ref (ad 0 0)), (1, .ref (ad 11 k)), (2, .int (iI (al)))]) hM.1 hM.2.1 dX3_timelyThousandths_16 hl (by decide) rfl (fun ls hl => ?_)
  refine y_aload_n hM hl 3 rfl rfl dX3_timelyThousandths_18 ?_
  refine y_getN hM hC hk11 rfl rfl (by decide +kernel) 7 1 ⟨by decide, rfl, rfl, rfl⟩ (by decide +kernel) rfl dX3_timelyThousandths_19 ?_
  refine y_aload_n hM hl 2 rfl rfl dX3_timelyThousandths_22 ?_
  refine y_aload_n hM hl 3 rfl rfl dX3_timelyThousandths_23 ?_
  refine y_getN hM hC hk11 rfl rfl (by decide +kernel) 1 0 ⟨by decide, rfl, rfl, rfl⟩ (by decide +kernel) rfl dX3_timelyThousandths_24 ?_
  refine y_callV hM hC (c_priceRowOf l hfl G b0 ks ad T P (T 11 k 1) (by constructor <;> omega) hF hRK) (cwV 1 hM.2.2.2.2 gX3_timelyThousandths_X3_priceRowOf rfl rfl rfl (by decide +kernel) ⟨(Nat.le_of_ble_eq_true rfl), (Nat.le_of_ble_eq_true rfl)⟩) (y_recv hC hF.1 rfl rfl) rfl hl.1 rfl (Nat.le_of_ble_eq_true rfl) dX3_timelyThousandths_27 ⟨(Nat.le_of_ble_eq_true rfl), (Nat.le_of_ble_eq_true rfl)⟩ (fun E ce q9 u1 H locs hx hC hce hcv hcl => by
      obtain ⟨x, rfl, hx, hu⟩ := hx; rw [hu] at hC; clear hu; try dsimp only at hx
      exact False.elim (by omega)) (fun v u1 H locs hp hC => ?_)
  obtain ⟨rfl, h_27, hu⟩ := hp; rw [hu] at hC; clear hu
  try dsimp only at h_27
  refine W.eq (g2 := F0 m 30 ls [.ref (ad 6 (T 11 k 1).toNat), .long (lI (T 11 k 7))]) rfl ?_
  refine y_iload_n hM hl 1 rfl rfl dX3_timelyThousandths_30 ?_
  refine y_callV hM hC (c_valueOn l hfl G b0 ks ad T P (T 11 k 1).toNat (by omega) hRK hRN ((T 11 k 4) - (T 11 k 5)) (by constructor <;> omega)) (cwV 1 hM.2.2.2.2 gX3_timelyThousandths_X1_valueOn rfl rfl rfl (by decide +kernel) ⟨(Nat.le_of_ble_eq_true rfl), (Nat.le_of_ble_eq_true rfl)⟩) (y_recv hC (hRK _ (by omega)).1 rfl rfl) rfl hl.1 rfl (Nat.le_of_ble_eq_true rfl) dX3_timelyThousandths_31 ⟨(Nat.le_of_ble_eq_true rfl), (Nat.le_of_ble_eq_true rfl)⟩ (fun E ce q9 u1 H locs hx hC hce hcv hcl => hx.elim) (fun v u1 H locs hp hC => ?_)
  obtain ⟨r_31, rfl, h_31, hu⟩ := hp; rw [hu] at hC; clear hu
  try dsimp only at h_31
  refine W.eq (g2 := F0 m 34 ls [.int (iI (r_31)), .long (lI (T 11 k 7))]) rfl ?_
  have hv_31 := valT_in hRN (p := (T 11 k 1).toNat) (by omega) (T 11 k 4 - T 11 k 5)
  refine y_callS hM hC (c_moneyFor l hfl G b0 (ks, ad, T, P) (T 11 k 7) (r_31) ⟨by omega, by omega⟩ ⟨by omega, by omega⟩) (va_cwS 2 hM.2.2.2.2 gX3_timelyThousandths_X3_moneyFor rfl rfl rfl (by decide +kernel) ⟨(Nat.le_of_ble_eq_true rfl), (Nat.le_of_ble_eq_true rfl)⟩) rfl hl.1 rfl (Nat.le_of_ble_eq_true rfl) dX3_timelyThousandths_34 ⟨(Nat.le_of_ble_eq_true rfl), (Nat.le_of_ble_eq_true rfl)⟩ (fun E ce q9 u1 H locs hx hC hce hcv hcl => hx.elim) (fun v u1 H locs hp hC => ?_)
  obtain ⟨r_34, rfl, h_34, hu⟩ := hp; rw [hu] at hC; clear hu
  try dsimp only at h_34
  refine W.eq (g2 := F0 m 37 ls [.long (lI (r_34))]) rfl ?_
  have hm_34 := moF_in (u := T 11 k 7) (pr := r_31) (by omega) (by omega)
  refine lv_lstore (lv' := [(5, .long (lI (r_34))), (4, .int (iI ((T 0 0 5) - (al)))), (3, .int (iI ((T 11 k 4) - (T 11 k 5)))), (0, .ref (ad 0 0)), (1, .ref (ad 11 k)), (2, .int (iI (al)))]) hM.1 hM.2.1 dX3_timelyThousandths_37 hl (by decide) rfl (fun ls hl => ?_)
  refine y_lload hM hl 0 rfl dX3_timelyThousandths_39 ?_
  refine y_aload_n hM hl 3 rfl rfl dX3_timelyThousandths_41 ?_
  refine y_aload_n hM hl 4 rfl rfl dX3_timelyThousandths_42 ?_
  refine y_getN hM hC hk11 rfl rfl (by decide +kernel) 2 0 ⟨by decide, rfl, rfl, rfl⟩ (by decide +kernel) rfl dX3_timelyThousandths_43 ?_
  refine y_callV hM hC (c_priceRowOf l hfl G b0 ks ad T P (T 11 k 2) (by constructor <;> omega) hF hRK) (cwV 1 hM.2.2.2.2 gX3_timelyThousandths_X3_priceRowOf rfl rfl rfl (by decide +kernel) ⟨(Nat.le_of_ble_eq_true rfl), (Nat.le_of_ble_eq_true rfl)⟩) (y_recv hC hF.1 rfl rfl) rfl hl.1 rfl (Nat.le_of_ble_eq_true rfl) dX3_timelyThousandths_46 ⟨(Nat.le_of_ble_eq_true rfl), (Nat.le_of_ble_eq_true rfl)⟩ (fun E ce q9 u1 H locs hx hC hce hcv hcl => by
      obtain ⟨x, rfl, hx, hu⟩ := hx; rw [hu] at hC; clear hu; try dsimp only at hx
      exact False.elim (by omega)) (fun v u1 H locs hp hC => ?_)
  obtain ⟨rfl, h_46, hu⟩ := hp; rw [hu] at hC; clear hu
  try dsimp only at h_46
  refine W.eq (g2 := F0 m 49 ls [.ref (ad 6 (T 11 k 2).toNat), .long (lI (r_34))]) rfl ?_
  refine y_iload hM hl 1 rfl dX3_timelyThousandths_49 ?_
  refine y_callV hM hC (c_valueOn l hfl G b0 ks ad T P (T 11 k 2).toNat (by omega) hRK hRN ((T 0 0 5) - (al)) (by constructor <;> omega)) (cwV 1 hM.2.2.2.2 gX3_timelyThousandths_X1_valueOn rfl rfl rfl (by decide +kernel) ⟨(Nat.le_of_ble_eq_true rfl), (Nat.le_of_ble_eq_true rfl)⟩) (y_recv hC (hRK _ (by omega)).1 rfl rfl) rfl hl.1 rfl (Nat.le_of_ble_eq_true rfl) dX3_timelyThousandths_51 ⟨(Nat.le_of_ble_eq_true rfl), (Nat.le_of_ble_eq_true rfl)⟩ (fun E ce q9 u1 H locs hx hC hce hcv hcl => hx.elim) (fun v u1 H locs hp hC => ?_)
  obtain ⟨r_51, rfl, h_51, hu⟩ := hp; rw [hu] at hC; clear hu
  try dsimp only at h_51
  refine W.eq (g2 := F0 m 54 ls [.int (iI (r_51)), .long (lI (r_34))]) rfl ?_
  have hv_51 := valT_in hRN (p := (T 11 k 2).toNat) (by omega) (T 0 0 5 - al)
  refine y_callS hM hC (c_thousandthsFor l hfl G b0 (ks, ad, T, P) (r_34) (r_51) ⟨by omega, by omega⟩ ⟨by omega, by omega⟩) (va_cwS 2 hM.2.2.2.2 gX3_timelyThousandths_X3_thousandthsFor rfl rfl rfl (by decide +kernel) ⟨(Nat.le_of_ble_eq_true rfl), (Nat.le_of_ble_eq_true rfl)⟩) rfl hl.1 rfl (Nat.le_of_ble_eq_true rfl) dX3_timelyThousandths_54 ⟨(Nat.le_of_ble_eq_true rfl), (Nat.le_of_ble_eq_true rfl)⟩ (fun E ce q9 u1 H locs hx hC hce hcv hcl => hx.elim) (fun v u1 H locs hp hC => ?_)
  obtain ⟨r_54, rfl, h_54, hu⟩ := hp; rw [hu] at hC; clear hu
  try dsimp only at h_54
  refine W.eq (g2 := F0 m 57 ls [.long (lI (r_54))]) rfl ?_
  exact y_lret hM hr hlk hC ⟨_, rfl, (by (try dsimp only); rw [h_54, h_34, h_31, h_51]; rfl), rfl⟩ (Nat.le_of_ble_eq_true rfl) (Nat.le_of_ble_eq_true rfl) dX3_timelyThousandths_57

set_option maxRecDepth 100000 in
set_option maxHeartbeats 8000000 in
theorem c_share (l : Launch) (hfl : l.stackTraces = false) (G : GG) (b0 : Nat) (ks : KK) (ad : AD) (T : TT) (P : PP) (k : Nat) (hkn : (k : Int) < T 0 0 8) (co al : Int) (hco : 0 ≤ co ∧ co ≤ 1000000000) (hal : inI al) (hF : FI ks ad P) (hRK : RK ks ad P) (hRN : RN T) (hDN : DN T) (hSK : SK ks ad T P) (hSN : SN T) (hOK : OK1 ks ad T P) (hON : ON T)  : vx_Met l yX3_shareCost wsX3_shareCost (rmX 0 0 0 0) (va_Pc [.ref (ad 0 0), .ref (ad 11 k), .long (lI (co)), .int (iI (al))] (Ok G b0 (ks, ad, T, P))) (Qr (pV True (ks, ad, shaT T k co al, P)) G b0) (Xr (noX) G b0) 0 0 (Wx b0) := by
  refine vx_ofW (cc := cX3_shareCost) (maxL := 7) (ret := none) (by decide +kernel) rfl ?_
  intro p e s m args below meth c s₁ B hml hto hv
  obtain ⟨rfl, hok⟩ := hv
  have hM : CallFix p m c cX3_shareCost 7 s _ wsX3_shareCost RX3 := ⟨B.exec, B.bytes, hml, findClass_of_methodNamed B.named, atoms_spec (ws := wsX3_shareCost) B.pre⟩
  have hr := B.returns
  have hlk := B.notSynchronized
  have hC := hok.cur
  have hl := lv_entry ([.ref (ad 0 0), .ref (ad 11 k), .long (lI (co)), .int (iI (al))]) (n := 7) (Nat.le_of_ble_eq_true rfl)
  rw [lg_entry_eq]
  generalize (lg_sl ([.ref (ad 0 0), .ref (ad 11 k), .long (lI (co)), .int (iI (al))]) ++ List.replicate (7 - (lg_sl ([.ref (ad 0 0), .ref (ad 11 k), .long (lI (co)), .int (iI (al))])).length) Slot.unset).toArray = ls at hl ⊢
  have hl : lv_has ls 7 [(0, .ref (ad 0 0)), (1, .ref (ad 11 k)), (2, .long (lI (co))), (4, .int (iI (al)))] := hl
  obtain ⟨hk11, hpm, hm0, hm1⟩ := hOK.2.2.2 k hkn
  have ho := hON k hkn
  have hs := hSN (mvT T k) (by unfold mvT; omega)
  have hk10 := hSK.2.2.2 (mvT T k) (by unfold mvT; omega)
  obtain ⟨hd0, hd1, hd2, hd3⟩ := id hDN
  have hq1 : 0 ≤ co * T 11 k 5 := Int.mul_nonneg (by omega) (by omega)
  have hq2 : co * T 11 k 5 ≤ 1000000000 * 2000 := Int.mul_le_mul (by omega) (by omega) (by omega) (by omega)
  refine y_iload hM hl 3 rfl dX3_shareCost_0 ?_
  refine y_if_gt hM (by constructor <;> omega) (tgt := 6) dX3_shareCost_2 (by decide) (fun c_2 => ?_) (fun c_2 => ?_)
  ·
    refine y_lload_n hM hl 2 rfl rfl dX3_shareCost_6 ?_
    refine y_aload_n hM hl 1 rfl rfl dX3_shareCost_7 ?_
    refine y_getN hM hC hk11 rfl rfl (by decide +kernel) 5 0 ⟨by decide, rfl, rfl, rfl⟩ (by decide +kernel) rfl dX3_shareCost_8 ?_
    refine y_i2l hM (by constructor <;> omega) dX3_shareCost_11 ?_
    refine y_lmul hM dX3_shareCost_12 ?_
    refine y_iload hM hl 3 rfl dX3_shareCost_13 ?_
    refine y_i2l hM (by constructor <;> omega) dX3_shareCost_15 ?_
    refine y_ldiv hM ⟨by omega, by omega, by omega, by omega⟩ dX3_shareCost_16 ?_
    refine lv_lstore (lv' := [(5, .long (lI (((co) * (T 11 k 5)) / (al)))), (0, .ref (ad 0 0)), (1, .ref (ad 11 k)), (2, .long (lI (co))), (4, .int (iI (al)))]) hM.1 hM.2.1 dX3_shareCost_17 hl (by decide) rfl (fun ls hl => ?_)
    refine y_aload_n hM hl 1 rfl rfl dX3_shareCost_19 ?_
    refine y_get hM hC hF.1 rfl rfl (by decide +kernel) 1 ⟨by decide, rfl, rfl, rfl⟩ (by decide +kernel) (congrArg (fun q => some (va_rf q)) hF.2.2.2.2.2.2.2.1) dX3_shareCost_20 ?_
    refine W.eq (g2 := F0 m 23 ls [.ref (ad 2 0)]) rfl ?_
    refine y_aload_n hM hl 2 rfl rfl dX3_shareCost_23 ?_
    refine y_getN hM hC hk11 rfl rfl (by decide +kernel) 1 0 ⟨by decide, rfl, rfl, rfl⟩ (by decide +kernel) rfl dX3_shareCost_24 ?_
    refine y_aaldA hM hC hF.2.2.1 rfl ⟨by omega, by omega⟩ (by decide) (hRK _ (by omega)).2.2.2.2.2.1 dX3_shareCost_27 ?_
    refine W.eq (g2 := F0 m 28 ls [.ref (ad 9 (T 11 k 1).toNat)]) rfl ?_
    refine y_aload_n hM hl 2 rfl rfl dX3_shareCost_28 ?_
    refine y_getN hM hC hk11 rfl rfl (by decide +kernel) 2 0 ⟨by decide, rfl, rfl, rfl⟩ (by decide +kernel) rfl dX3_shareCost_29 ?_
    refine lv_dup2_11 hM.1 hM.2.1 dX3_shareCost_32 rfl rfl ?_
    refine y_lald hM hC (hRK _ (by omega)).2.2.2.1 rfl ⟨by omega, by omega⟩ (by decide) (x := T 9 (T 11 k 1).toNat (T 11 k 2).toNat) rfl dX3_shareCost_33 ?_
    refine y_lload hM hl 0 rfl dX3_shareCost_34 ?_
    refine y_ladd hM dX3_shareCost_36 ?_
    refine y_last hM hC (hRK _ (by omega)).2.2.2.1 (fun _ _ => rfl) ⟨by omega, by omega⟩ (by decide) dX3_shareCost_37 (fun H locs hC => ?_)
    refine y_aload_n hM hl 1 rfl rfl dX3_shareCost_38 ?_
    refine y_get hM hC hF.1 rfl rfl (by decide +kernel) 2 ⟨by decide, rfl, rfl, rfl⟩ (by decide +kernel) (congrArg (fun q => some (va_rf q)) hF.2.2.2.2.2.2.2.2.1) dX3_shareCost_39 ?_
    refine W.eq (g2 := F0 m 42 ls [.ref (ad 3 0)]) rfl ?_
    refine y_aload_n hM hl 2 rfl rfl dX3_shareCost_42 ?_
    refine y_getN hM hC hk11 rfl rfl (by decide +kernel) 2 0 ⟨by decide, rfl, rfl, rfl⟩ (by decide +kernel) (congrArg (fun q => some (Value.int (iI q))) (show (up T 9 (T 11 k 1).toNat ((T 11 k 2).toNat) ((T 9 (T 11 k 1).toNat (T 11 k 2).toNat) + (((co) * (T 11 k 5)) / (al)))) 11 k 2 = T 11 k 2 from by simp [up])) dX3_shareCost_43 ?_
    refine lv_dup2_11 hM.1 hM.2.1 dX3_shareCost_46 rfl rfl ?_
    refine y_lald hM hC hF.2.2.2.1 rfl ⟨by omega, by omega⟩ (by decide) (x := T 3 0 (T 11 k 2).toNat) (by simp [up]) dX3_shareCost_47 ?_
    refine y_lload_n hM hl 3 rfl rfl dX3_shareCost_48 ?_
    refine y_lload hM hl 0 rfl dX3_shareCost_49 ?_
    refine y_lsub hM dX3_shareCost_51 ?_
    refine y_ladd hM dX3_shareCost_52 ?_
    refine y_last hM hC hF.2.2.2.1 (fun _ _ => rfl) ⟨by omega, by omega⟩ (by decide) dX3_shareCost_53 (fun H locs hC => ?_)
    exact y_vret hM hr hlk hC ⟨rfl, trivial, (by unfold shaT; rw [if_neg (by omega)])⟩ (Nat.le_of_ble_eq_true rfl) (Nat.le_of_ble_eq_true rfl) dX3_shareCost_54
  ·
    exact y_vret hM hr hlk hC ⟨rfl, trivial, (by unfold shaT; rw [if_pos (by omega)])⟩ (Nat.le_of_ble_eq_true rfl) (Nat.le_of_ble_eq_true rfl) dX3_shareCost_5
end
section
set_option maxRecDepth 100000 in
set_option maxHeartbeats 8000000 in
theorem c_buy (l : Launch) (hfl : l.stackTraces = false) (G : GG) (b0 : Nat) (ks : KK) (ad : AD) (T : TT) (P : PP) (k : Nat) (hkn : (k : Int) < T 0 0 8) (lb f : Int) (hlb : 0 ≤ lb ∧ lb ≤ 2000) (hf : f = 0 ∨ f = 1) (hF : FI ks ad P) (hRK : RK ks ad P) (hRN : RN T) (hDN : DN T) (hSK : SK ks ad T P) (hSN : SN T) (hOK : OK1 ks ad T P) (hON : ON T)  : vx_Met l yX3_buy wsX3_buy (rmX 8 4 24 130) (va_Pc [.ref (ad 0 0), .ref (ad 11 k), .int (iI (lb)), .int (iI (f))] (Ok G b0 (ks, ad, T, P))) (Qr (pV (gotT T k f + lakT T k lb f ≤ 100000000) (ks, ad, buyT T k lb f, P)) G b0) (Xr (pX (fun x => x = 2 ∧ 100000000 < gotT T k f + lakT T k lb f) (ks, ad, T, P)) G b0) 4 24 (Wx b0) := by
  refine vx_ofW (cc := cX3_buy) (maxL := 10) (ret := none) (by decide +kernel) rfl ?_
  intro p e s m args below meth c s₁ B hml hto hv
  obtain ⟨rfl, hok⟩ := hv
  have hM : CallFix p m c cX3_buy 10 s _ wsX3_buy RX3 := ⟨B.exec, B.bytes, hml, findClass_of_methodNamed B.named, atoms_spec (ws := wsX3_buy) B.pre⟩
  have hr := B.returns
  have hlk := B.notSynchronized
  have hC := hok.cur
  have hl := lv_entry ([.ref (ad 0 0), .ref (ad 11 k), .int (iI (lb)), .int (iI (f))]) (n := 10) (Nat.le_of_ble_eq_true rfl)
  rw [lg_entry_eq]
  generalize (lg_sl ([.ref (ad 0 0), .ref (ad 11 k), .int (iI (lb)), .int (iI (f))]) ++ List.replicate (10 - (lg_sl ([.ref (ad 0 0), .ref (ad 11 k), .int (iI (lb)), .int (iI (f))])).length) Slot.unset).toArray = ls at hl ⊢
  have hl : lv_has ls 10 [(0, .ref (ad 0 0)), (1, .ref (ad 11 k)), (2, .int (iI (lb))), (3, .int (iI (f)))] := hl
  obtain ⟨hk11, hpm, hm0, hm1⟩ := hOK.2.2.2 k hkn
  have ho := hON k hkn
  have hs := hSN (mvT T k) (by unfold mvT; omega)
  have hk10 := hSK.2.2.2 (mvT T k) (by unfold mvT; omega)
  obtain ⟨hd0, hd1, hd2, hd3⟩ := id hDN
  obtain ⟨la, hla⟩ : ∃ la : Int, la = lakT T k lb f := ⟨_, rfl⟩
  have hlan := lakT_nn T k lb f
  have hlal := lakT_le (k := k) hRN hDN (by omega) (by omega) (by omega) (by omega) lb f
  have hgn := gotT_nn (k := k) hRN hDN (by omega) (by omega) f
  have hgl := gotT_le (k := k) hRN hDN (by omega) (by omega) f
  have htl := timT_in (k := k) hRN (by omega) (by omega) (by omega) (T 11 k 5 + lb)
  refine y_aload_n hM hl 0 rfl rfl dX3_buy_0 ?_
  refine y_aload_n hM hl 1 rfl rfl dX3_buy_1 ?_
  refine y_getN hM hC hk11 rfl rfl (by decide +kernel) 2 0 ⟨by decide, rfl, rfl, rfl⟩ (by decide +kernel) rfl dX3_buy_2 ?_
  refine y_callV hM hC (c_priceNow l hfl G b0 ks ad T P (T 11 k 2) ⟨by omega, by omega⟩ hF hRK hRN hDN) (cwV 1 hM.2.2.2.2 gX3_buy_X3_priceNow rfl rfl rfl (by decide +kernel) ⟨(Nat.le_of_ble_eq_true rfl), (Nat.le_of_ble_eq_true rfl)⟩) (y_recv hC hF.1 rfl rfl) rfl hl.1 rfl (Nat.le_of_ble_eq_true rfl) dX3_buy_5 ⟨(Nat.le_of_ble_eq_true rfl), (Nat.le_of_ble_eq_true rfl)⟩ (fun E ce q9 u1 H locs hx hC hce hcv hcl => hx.elim) (fun v u1 H locs hp hC => ?_)
  obtain ⟨r_5, rfl, h_5, hu⟩ := hp; rw [hu] at hC; clear hu
  try dsimp only at h_5
  refine W.eq (g2 := F0 m 8 ls [.int (iI (r_5))]) rfl ?_
  have hv_5 := valT_in hRN (p := (T 11 k 2).toNat) (by omega) (T 0 0 5)
  refine lv_istore (lv' := [(4, .int (iI (r_5))), (0, .ref (ad 0 0)), (1, .ref (ad 11 k)), (2, .int (iI (lb))), (3, .int (iI (f)))]) hM.1 hM.2.1 dX3_buy_8 hl (by decide) rfl (fun ls hl => ?_)
  refine y_aload_n hM hl 2 rfl rfl dX3_buy_10 ?_
  refine y_getN hM hC hk11 rfl rfl (by decide +kernel) 8 1 ⟨by decide, rfl, rfl, rfl⟩ (by decide +kernel) rfl dX3_buy_11 ?_
  refine y_iload_n hM hl 4 rfl rfl dX3_buy_14 ?_
  refine y_if_eq hM (by constructor <;> omega) (tgt := 25) dX3_buy_15 (by decide) (fun c_15 => ?_) (fun c_15 => ?_)
  ·
    refine y_iload hM hl 0 rfl dX3_buy_25 ?_
    refine y_callS hM hC (c_thousandthsFor l hfl G b0 (ks, ad, T, P) (T 11 k 8) (r_5) ⟨by omega, by omega⟩ ⟨by omega, by omega⟩) (va_cwS 2 hM.2.2.2.2 gX3_buy_X3_thousandthsFor rfl rfl rfl (by decide +kernel) ⟨(Nat.le_of_ble_eq_true rfl), (Nat.le_of_ble_eq_true rfl)⟩) rfl hl.1 rfl (Nat.le_of_ble_eq_true rfl) dX3_buy_27 ⟨(Nat.le_of_ble_eq_true rfl), (Nat.le_of_ble_eq_true rfl)⟩ (fun E ce q9 u1 H locs hx hC hce hcv hcl => hx.elim) (fun v u1 H locs hp hC => ?_)
    obtain ⟨r_27, rfl, h_27, hu⟩ := hp; rw [hu] at hC; clear hu
    try dsimp only at h_27
    refine W.eq (g2 := F0 m 30 ls [.long (lI (r_27))]) rfl ?_
    have hg : r_27 = gotT T k f := by
      rw [h_27, h_5]
      unfold gotT prF
      rw [if_pos c_15]
    refine lv_lstore (lv' := [(5, .long (lI (r_27))), (4, .int (iI (r_5))), (0, .ref (ad 0 0)), (1, .ref (ad 11 k)), (2, .int (iI (lb))), (3, .int (iI (f)))]) hM.1 hM.2.1 dX3_buy_30 hl (by decide) rfl (fun ls hl => ?_)
    refine y_aload_n hM hl 3 rfl rfl dX3_buy_32 ?_
    refine y_getN hM hC hk11 rfl rfl (by decide +kernel) 5 0 ⟨by decide, rfl, rfl, rfl⟩ (by decide +kernel) rfl dX3_buy_33 ?_
    refine y_iload_n hM hl 4 rfl rfl dX3_buy_36 ?_
    refine y_iadd hM dX3_buy_37 ?_
    refine lv_istore (lv' := [(7, .int (iI ((T 11 k 5) + (lb)))), (5, .long (lI (r_27))), (4, .int (iI (r_5))), (0, .ref (ad 0 0)), (1, .ref (ad 11 k)), (2, .int (iI (lb))), (3, .int (iI (f)))]) hM.1 hM.2.1 dX3_buy_38 hl (by decide) rfl (fun ls hl => ?_)
    refine y_lconst hM 0 (by decide) dX3_buy_40 ?_
    refine lv_lstore (lv' := [(8, .long (lI (0))), (7, .int (iI ((T 11 k 5) + (lb)))), (5, .long (lI (r_27))), (4, .int (iI (r_5))), (0, .ref (ad 0 0)), (1, .ref (ad 11 k)), (2, .int (iI (lb))), (3, .int (iI (f)))]) hM.1 hM.2.1 dX3_buy_41 hl (by decide) rfl (fun ls hl => ?_)
    refine y_iload hM hl 1 rfl dX3_buy_43 ?_
    refine y_if_le hM (by constructor <;> omega) (tgt := 64) dX3_buy_45 (by decide) (fun c_45 => ?_) (fun c_45 => ?_)
    ·
      have hla0 : la = 0 := by
        rw [hla]
        unfold lakT
        rw [if_neg (show ¬ 0 < allL T k lb by unfold allL; omega)]
      subst hla0
      refine y_lload hM hl 2 rfl dX3_buy_64 ?_
      refine y_lload hM hl 0 rfl dX3_buy_66 ?_
      refine y_ladd hM dX3_buy_68 ?_
      refine y_callS hM hC (c_checkHolding l hfl G b0 (ks, ad, T, P) ((r_27) + (0)) (by constructor <;> omega)) (va_cwS 1 hM.2.2.2.2 gX3_buy_X3_checkHolding rfl rfl rfl (by decide +kernel) ⟨(Nat.le_of_ble_eq_true rfl), (Nat.le_of_ble_eq_true rfl)⟩) rfl hl.1 rfl (Nat.le_of_ble_eq_true rfl) dX3_buy_69 ⟨(Nat.le_of_ble_eq_true rfl), (Nat.le_of_ble_eq_true rfl)⟩ (fun E ce q9 u1 H locs hx hC hce hcv hcl => by
          obtain ⟨x, rfl, hx, hu⟩ := hx; rw [hu] at hC; clear hu; try dsimp only at hx
          exact y_out hto hlk hC hce hcv hcl ⟨x, rfl, (by (try dsimp only); omega), rfl⟩ (Nat.le_of_ble_eq_true rfl) (Nat.le_of_ble_eq_true rfl)) (fun v u1 H locs hp hC => ?_)
      obtain ⟨rfl, h_69, hu⟩ := hp; rw [hu] at hC; clear hu
      try dsimp only at h_69
      refine W.eq (g2 := F0 m 72 ls []) rfl ?_
      refine y_aload_n hM hl 4 rfl rfl dX3_buy_72 ?_
      refine y_aload_n hM hl 5 rfl rfl dX3_buy_73 ?_
      refine y_lload hM hl 0 rfl dX3_buy_74 ?_
      refine y_iload hM hl 3 rfl dX3_buy_76 ?_
      refine y_callS hM hC (c_costOf l hfl G b0 (ks, ad, T, P) (0) (r_5) ⟨by omega, by omega⟩ ⟨by omega, by omega⟩) (va_cwS 2 hM.2.2.2.2 gX3_buy_X3_costOf rfl rfl rfl (by decide +kernel) ⟨(Nat.le_of_ble_eq_true rfl), (Nat.le_of_ble_eq_true rfl)⟩) rfl hl.1 rfl (Nat.le_of_ble_eq_true rfl) dX3_buy_78 ⟨(Nat.le_of_ble_eq_true rfl), (Nat.le_of_ble_eq_true rfl)⟩ (fun E ce q9 u1 H locs hx hC hce hcv hcl => hx.elim) (fun v u1 H locs hp hC => ?_)
      obtain ⟨r_78, rfl, h_78, hu⟩ := hp; rw [hu] at hC; clear hu
      try dsimp only at h_78
      refine W.eq (g2 := F0 m 81 ls [.long (lI (r_78)), .ref (ad 11 k), .ref (ad 0 0)]) rfl ?_
      have hc_78 := coF_in (u := 0) (pr := r_5) (by omega) (by omega)
      refine y_iload hM hl 1 rfl dX3_buy_81 ?_
      refine y_callV hM hC (c_share l hfl G b0 ks ad T P k hkn (r_78) ((T 11 k 5) + (lb)) ⟨by omega, by omega⟩ (by constructor <;> omega) hF hRK hRN hDN hSK hSN hOK hON) (cwV 3 hM.2.2.2.2 gX3_buy_X3_shareCost rfl rfl rfl (by decide +kernel) ⟨(Nat.le_of_ble_eq_true rfl), (Nat.le_of_ble_eq_true rfl)⟩) (y_recv hC hF.1 rfl rfl) rfl hl.1 rfl (Nat.le_of_ble_eq_true rfl) dX3_buy_83 ⟨(Nat.le_of_ble_eq_true rfl), (Nat.le_of_ble_eq_true rfl)⟩ (fun E ce q9 u1 H locs hx hC hce hcv hcl => hx.elim) (fun v u1 H locs hp hC => ?_)
      obtain ⟨rfl, h_83, hu⟩ := hp; rw [hu] at hC; clear hu
      try dsimp only at h_83
      refine W.eq (g2 := F0 m 86 ls []) rfl ?_
      refine y_aload_n hM hl 5 rfl rfl dX3_buy_86 ?_
      refine y_lload hM hl 0 rfl dX3_buy_87 ?_
      refine y_putN hM hC hk11 rfl rfl (by decide +kernel) tyX0 tyX0_ok nmX0 9 1 ⟨by decide, rfl, rfl, rfl, rfl⟩ (by decide +kernel) (ty := .long) (by decide +kernel) rfl rfl (Nat.le_of_ble_eq_true rfl) (T' := (up (shaT T k (r_78) ((T 11 k 5) + (lb))) 11 k 9 (0))) (P' := P) (cF_up rfl) (fun _ _ h => up_ne h) (fun _ _ _ => rfl) dX3_buy_89 (fun H locs hC => ?_)
      refine y_aload_n hM hl 5 rfl rfl dX3_buy_92 ?_
      refine y_getN hM hC hk11 rfl rfl (by decide +kernel) 0 3 ⟨by decide, rfl, rfl, rfl⟩ (by decide +kernel) (congrArg (fun q => some (va_rf q)) hpm) dX3_buy_93 ?_
      refine W.eq (g2 := F0 m 96 ls [.ref (ad 10 (mvT T k))]) rfl ?_
      refine y_aload_n hM hl 5 rfl rfl dX3_buy_96 ?_
      refine y_getN hM hC hk11 rfl rfl (by decide +kernel) 2 0 ⟨by decide, rfl, rfl, rfl⟩ (by decide +kernel) (congrArg (fun q => some (Value.int (iI q))) (show (up (shaT T k (r_78) ((T 11 k 5) + (lb))) 11 k 9 (0)) 11 k 2 = T 11 k 2 from (by rw [up_row, uR, if_neg (by decide), shaT_at k (by decide)]))) dX3_buy_97 ?_
      refine y_lload hM hl 2 rfl dX3_buy_100 ?_
      refine y_lload hM hl 0 rfl dX3_buy_102 ?_
      refine y_ladd hM dX3_buy_104 ?_
      refine y_callV hM hC (c_arrive l hfl G b0 ks ad (up (shaT T k (r_78) ((T 11 k 5) + (lb))) 11 k 9 (0)) P (mvT T k) hk10 (T 11 k 2) ((r_27) + (0))) (cwV 2 hM.2.2.2.2 gX3_buy_X2_arrive rfl rfl rfl (by decide +kernel) ⟨(Nat.le_of_ble_eq_true rfl), (Nat.le_of_ble_eq_true rfl)⟩) (y_recv hC hk10 rfl rfl) rfl hl.1 rfl (Nat.le_of_ble_eq_true rfl) dX3_buy_105 ⟨(Nat.le_of_ble_eq_true rfl), (Nat.le_of_ble_eq_true rfl)⟩ (fun E ce q9 u1 H locs hx hC hce hcv hcl => hx.elim) (fun v u1 H locs hp hC => ?_)
      obtain ⟨rfl, h_105, hu⟩ := hp; rw [hu] at hC; clear hu
      try dsimp only at h_105
      refine W.eq (g2 := F0 m 108 ls []) rfl ?_
      exact y_vret hM hr hlk hC ⟨rfl, (by omega), (by unfold buyT; rw [← hla, ← hg, h_78, ← h_5]; rfl)⟩ (Nat.le_of_ble_eq_true rfl) (Nat.le_of_ble_eq_true rfl) dX3_buy_108
    ·
      refine y_lconst hM 0 (by decide) dX3_buy_48 ?_
      refine y_aload_n hM hl 4 rfl rfl dX3_buy_49 ?_
      refine y_aload_n hM hl 5 rfl rfl dX3_buy_50 ?_
      refine y_iload hM hl 1 rfl dX3_buy_51 ?_
      refine y_callV hM hC (c_timely l hfl G b0 ks ad T P k hkn ((T 11 k 5) + (lb)) ⟨by omega, by omega⟩ hF hRK hRN hDN hSK hSN hOK hON) (cwV 2 hM.2.2.2.2 gX3_buy_X3_timelyThousandths rfl rfl rfl (by decide +kernel) ⟨(Nat.le_of_ble_eq_true rfl), (Nat.le_of_ble_eq_true rfl)⟩) (y_recv hC hF.1 rfl rfl) rfl hl.1 rfl (Nat.le_of_ble_eq_true rfl) dX3_buy_53 ⟨(Nat.le_of_ble_eq_true rfl), (Nat.le_of_ble_eq_true rfl)⟩ (fun E ce q9 u1 H locs hx hC hce hcv hcl => hx.elim) (fun v u1 H locs hp hC => ?_)
      obtain ⟨r_53, rfl, h_53, hu⟩ := hp; rw [hu] at hC; clear hu
      try dsimp only at h_53
      refine W.eq (g2 := F0 m 56 ls [.long (lI (r_53)), .long (lI (0))]) rfl ?_
      refine y_lload hM hl 2 rfl dX3_buy_56 ?_
      refine y_lsub hM dX3_buy_58 ?_
      refine va_mmax_long hM.1 hM.2.1 (by rw [hM.2.2.1]; exact hl.1.symm) hM.2.2.2.1 (hM.2.2.2.2 (.methodLink RX3 199 Lib.MathLoose.max_long.x) (by decide +kernel)) (hM.2.2.2.2 (.static Lib.MathLoose.max_long.x) (by decide +kernel)) (hM.2.2.2.2 (.initialized "java/lang/Math") (by decide +kernel)) (hM.2.2.2.2 (.code Lib.MathLoose.max_long.x Lib.MathLoose.max_long.code 4 (some .long)) (by decide +kernel)) (Nat.le_of_ble_eq_true rfl) (Nat.le_of_ble_eq_true rfl) (Nat.le_of_ble_eq_true rfl) (Nat.le_of_ble_eq_true rfl) dX3_buy_59 ?_
      rw [show (if lI ((r_53) - (r_27)) < lI (0) then lI (0) else lI ((r_53) - (r_27))) = lI (la) from (by
    simp only [lI_lt (a := r_53 - r_27) (b := 0) ⟨by omega, by omega⟩ ⟨by omega, by omega⟩]
    rw [hla]
    unfold lakT
    rw [if_pos (show 0 < allL T k lb by unfold allL; omega), show timT T k (allL T k lb) = r_53 from h_53.symm, ← hg]
    split <;> split <;> first | rfl | (exact False.elim (by omega)) | (exact congrArg lI (by omega)))]
      refine lv_lstore (lv' := [(8, .long (lI (la))), (7, .int (iI ((T 11 k 5) + (lb)))), (5, .long (lI (r_27))), (4, .int (iI (r_5))), (0, .ref (ad 0 0)), (1, .ref (ad 11 k)), (2, .int (iI (lb))), (3, .int (iI (f)))]) hM.1 hM.2.1 dX3_buy_62 hl (by decide) rfl (fun ls hl => ?_)
      refine y_lload hM hl 2 rfl dX3_buy_64 ?_
      refine y_lload hM hl 0 rfl dX3_buy_66 ?_
      refine y_ladd hM dX3_buy_68 ?_
      refine y_callS hM hC (c_checkHolding l hfl G b0 (ks, ad, T, P) ((r_27) + (la)) (by constructor <;> omega)) (va_cwS 1 hM.2.2.2.2 gX3_buy_X3_checkHolding rfl rfl rfl (by decide +kernel) ⟨(Nat.le_of_ble_eq_true rfl), (Nat.le_of_ble_eq_true rfl)⟩) rfl hl.1 rfl (Nat.le_of_ble_eq_true rfl) dX3_buy_69 ⟨(Nat.le_of_ble_eq_true rfl), (Nat.le_of_ble_eq_true rfl)⟩ (fun E ce q9 u1 H locs hx hC hce hcv hcl => by
          obtain ⟨x, rfl, hx, hu⟩ := hx; rw [hu] at hC; clear hu; try dsimp only at hx
          exact y_out hto hlk hC hce hcv hcl ⟨x, rfl, (by (try dsimp only); omega), rfl⟩ (Nat.le_of_ble_eq_true rfl) (Nat.le_of_ble_eq_true rfl)) (fun v u1 H locs hp hC => ?_)
      obtain ⟨rfl, h_69, hu⟩ := hp; rw [hu] at hC; clear hu
      try dsimp only at h_69
      refine W.eq (g2 := F0 m 72 ls []) rfl ?_
      refine y_aload_n hM hl 4 rfl rfl dX3_buy_72 ?_
      refine y_aload_n hM hl 5 rfl rfl dX3_buy_73 ?_
      refine y_lload hM hl 0 rfl dX3_buy_74 ?_
      refine y_iload hM hl 3 rfl dX3_buy_76 ?_
      refine y_callS hM hC (c_costOf l hfl G b0 (ks, ad, T, P) (la) (r_5) ⟨by omega, by omega⟩ ⟨by omega, by omega⟩) (va_cwS 2 hM.2.2.2.2 gX3_buy_X3_costOf rfl rfl rfl (by decide +kernel) ⟨(Nat.le_of_ble_eq_true rfl), (Nat.le_of_ble_eq_true rfl)⟩) rfl hl.1 rfl (Nat.le_of_ble_eq_true rfl) dX3_buy_78 ⟨(Nat.le_of_ble_eq_true rfl), (Nat.le_of_ble_eq_true rfl)⟩ (fun E ce q9 u1 H locs hx hC hce hcv hcl => hx.elim) (fun v u1 H locs hp hC => ?_)
      obtain ⟨r_78, rfl, h_78, hu⟩ := hp; rw [hu] at hC; clear hu
      try dsimp only at h_78
      refine W.eq (g2 := F0 m 81 ls [.long (lI (r_78)), .ref (ad 11 k), .ref (ad 0 0)]) rfl ?_
      have hc_78 := coF_in (u := la) (pr := r_5) (by omega) (by omega)
      refine y_iload hM hl 1 rfl dX3_buy_81 ?_
      refine y_callV hM hC (c_share l hfl G b0 ks ad T P k hkn (r_78) ((T 11 k 5) + (lb)) ⟨by omega, by omega⟩ (by constructor <;> omega) hF hRK hRN hDN hSK hSN hOK hON) (cwV 3 hM.2.2.2.2 gX3_buy_X3_shareCost rfl rfl rfl (by decide +kernel) ⟨(Nat.le_of_ble_eq_true rfl), (Nat.le_of_ble_eq_true rfl)⟩) (y_recv hC hF.1 rfl rfl) rfl hl.1 rfl (Nat.le_of_ble_eq_true rfl) dX3_buy_83 ⟨(Nat.le_of_ble_eq_true rfl), (Nat.le_of_ble_eq_true rfl)⟩ (fun E ce q9 u1 H locs hx hC hce hcv hcl => hx.elim) (fun v u1 H locs hp hC => ?_)
      obtain ⟨rfl, h_83, hu⟩ := hp; rw [hu] at hC; clear hu
      try dsimp only at h_83
      refine W.eq (g2 := F0 m 86 ls []) rfl ?_
      refine y_aload_n hM hl 5 rfl rfl dX3_buy_86 ?_
      refine y_lload hM hl 0 rfl dX3_buy_87 ?_
      refine y_putN hM hC hk11 rfl rfl (by decide +kernel) tyX0 tyX0_ok nmX0 9 1 ⟨by decide, rfl, rfl, rfl, rfl⟩ (by decide +kernel) (ty := .long) (by decide +kernel) rfl rfl (Nat.le_of_ble_eq_true rfl) (T' := (up (shaT T k (r_78) ((T 11 k 5) + (lb))) 11 k 9 (la))) (P' := P) (cF_up rfl) (fun _ _ h => up_ne h) (fun _ _ _ => rfl) dX3_buy_89 (fun H locs hC => ?_)
      refine y_aload_n hM hl 5 rfl rfl dX3_buy_92 ?_
      refine y_getN hM hC hk11 rfl rfl (by decide +kernel) 0 3 ⟨by decide, rfl, rfl, rfl⟩ (by decide +kernel) (congrArg (fun q => some (va_rf q)) hpm) dX3_buy_93 ?_
      refine W.eq (g2 := F0 m 96 ls [.ref (ad 10 (mvT T k))]) rfl ?_
      refine y_aload_n hM hl 5 rfl rfl dX3_buy_96 ?_
      refine y_getN hM hC hk11 rfl rfl (by decide +kernel) 2 0 ⟨by decide, rfl, rfl, rfl⟩ (by decide +kernel) (congrArg (fun q => some (Value.int (iI q))) (show (up (shaT T k (r_78) ((T 11 k 5) + (lb))) 11 k 9 (la)) 11 k 2 = T 11 k 2 from (by rw [up_row, uR, if_neg (by decide), shaT_at k (by decide)]))) dX3_buy_97 ?_
      refine y_lload hM hl 2 rfl dX3_buy_100 ?_
      refine y_lload hM hl 0 rfl dX3_buy_102 ?_
      refine y_ladd hM dX3_buy_104 ?_
      refine y_callV hM hC (c_arrive l hfl G b0 ks ad (up (shaT T k (r_78) ((T 11 k 5) + (lb))) 11 k 9 (la)) P (mvT T k) hk10 (T 11 k 2) ((r_27) + (la))) (cwV 2 hM.2.2.2.2 gX3_buy_X2_arrive rfl rfl rfl (by decide +kernel) ⟨(Nat.le_of_ble_eq_true rfl), (Nat.le_of_ble_eq_true rfl)⟩) (y_recv hC hk10 rfl rfl) rfl hl.1 rfl (Nat.le_of_ble_eq_true rfl) dX3_buy_105 ⟨(Nat.le_of_ble_eq_true rfl), (Nat.le_of_ble_eq_true rfl)⟩ (fun E ce q9 u1 H locs hx hC hce hcv hcl => hx.elim) (fun v u1 H locs hp hC => ?_)
      obtain ⟨rfl, h_105, hu⟩ := hp; rw [hu] at hC; clear hu
      try dsimp only at h_105
      refine W.eq (g2 := F0 m 108 ls []) rfl ?_
      exact y_vret hM hr hlk hC ⟨rfl, (by omega), (by unfold buyT; rw [← hla, ← hg, h_78, ← h_5]; rfl)⟩ (Nat.le_of_ble_eq_true rfl) (Nat.le_of_ble_eq_true rfl) dX3_buy_108
  ·
    refine y_aload_n hM hl 1 rfl rfl dX3_buy_18 ?_
    refine y_get hM hC hF.1 rfl rfl (by decide +kernel) 6 ⟨by decide, rfl, rfl, rfl⟩ (by decide +kernel) rfl dX3_buy_19 ?_
    refine lv_goto (tgt := 27) hM.1 hM.2.1 dX3_buy_22 (by decide) ?_
    refine y_callS hM hC (c_thousandthsFor l hfl G b0 (ks, ad, T, P) (T 11 k 8) (T 0 0 6) ⟨by omega, by omega⟩ ⟨by omega, by omega⟩) (va_cwS 2 hM.2.2.2.2 gX3_buy_X3_thousandthsFor rfl rfl rfl (by decide +kernel) ⟨(Nat.le_of_ble_eq_true rfl), (Nat.le_of_ble_eq_true rfl)⟩) rfl hl.1 rfl (Nat.le_of_ble_eq_true rfl) dX3_buy_27 ⟨(Nat.le_of_ble_eq_true rfl), (Nat.le_of_ble_eq_true rfl)⟩ (fun E ce q9 u1 H locs hx hC hce hcv hcl => hx.elim) (fun v u1 H locs hp hC => ?_)
    obtain ⟨r_27, rfl, h_27, hu⟩ := hp; rw [hu] at hC; clear hu
    try dsimp only at h_27
    refine W.eq (g2 := F0 m 30 ls [.long (lI (r_27))]) rfl ?_
    have hg : r_27 = gotT T k f := by
      rw [h_27]
      unfold gotT prF
      rw [if_neg c_15]
    refine lv_lstore (lv' := [(5, .long (lI (r_27))), (4, .int (iI (r_5))), (0, .ref (ad 0 0)), (1, .ref (ad 11 k)), (2, .int (iI (lb))), (3, .int (iI (f)))]) hM.1 hM.2.1 dX3_buy_30 hl (by decide) rfl (fun ls hl => ?_)
    refine y_aload_n hM hl 3 rfl rfl dX3_buy_32 ?_
    refine y_getN hM hC hk11 rfl rfl (by decide +kernel) 5 0 ⟨by decide, rfl, rfl, rfl⟩ (by decide +kernel) rfl dX3_buy_33 ?_
    refine y_iload_n hM hl 4 rfl rfl dX3_buy_36 ?_
    refine y_iadd hM dX3_buy_37 ?_
    refine lv_istore (lv' := [(7, .int (iI ((T 11 k 5) + (lb)))), (5, .long (lI (r_27))), (4, .int (iI (r_5))), (0, .ref (ad 0 0)), (1, .ref (ad 11 k)), (2, .int (iI (lb))), (3, .int (iI (f)))]) hM.1 hM.2.1 dX3_buy_38 hl (by decide) rfl (fun ls hl => ?_)
    refine y_lconst hM 0 (by decide) dX3_buy_40 ?_
    refine lv_lstore (lv' := [(8, .long (lI (0))), (7, .int (iI ((T 11 k 5) + (lb)))), (5, .long (lI (r_27))), (4, .int (iI (r_5))), (0, .ref (ad 0 0)), (1, .ref (ad 11 k)), (2, .int (iI (lb))), (3, .int (iI (f)))]) hM.1 hM.2.1 dX3_buy_41 hl (by decide) rfl (fun ls hl => ?_)
    refine y_iload hM hl 1 rfl dX3_buy_43 ?_
    refine y_if_le hM (by constructor <;> omega) (tgt := 64) dX3_buy_45 (by decide) (fun c_45 => ?_) (fun c_45 => ?_)
    ·
      have hla0 : la = 0 := by
        rw [hla]
        unfold lakT
        rw [if_neg (show ¬ 0 < allL T k lb by unfold allL; omega)]
      subst hla0
      refine y_lload hM hl 2 rfl dX3_buy_64 ?_
      refine y_lload hM hl 0 rfl dX3_buy_66 ?_
      refine y_ladd hM dX3_buy_68 ?_
      refine y_callS hM hC (c_checkHolding l hfl G b0 (ks, ad, T, P) ((r_27) + (0)) (by constructor <;> omega)) (va_cwS 1 hM.2.2.2.2 gX3_buy_X3_checkHolding rfl rfl rfl (by decide +kernel) ⟨(Nat.le_of_ble_eq_true rfl), (Nat.le_of_ble_eq_true rfl)⟩) rfl hl.1 rfl (Nat.le_of_ble_eq_true rfl) dX3_buy_69 ⟨(Nat.le_of_ble_eq_true rfl), (Nat.le_of_ble_eq_true rfl)⟩ (fun E ce q9 u1 H locs hx hC hce hcv hcl => by
          obtain ⟨x, rfl, hx, hu⟩ := hx; rw [hu] at hC; clear hu; try dsimp only at hx
          exact y_out hto hlk hC hce hcv hcl ⟨x, rfl, (by (try dsimp only); omega), rfl⟩ (Nat.le_of_ble_eq_true rfl) (Nat.le_of_ble_eq_true rfl)) (fun v u1 H locs hp hC => ?_)
      obtain ⟨rfl, h_69, hu⟩ := hp; rw [hu] at hC; clear hu
      try dsimp only at h_69
      refine W.eq (g2 := F0 m 72 ls []) rfl ?_
      refine y_aload_n hM hl 4 rfl rfl dX3_buy_72 ?_
      refine y_aload_n hM hl 5 rfl rfl dX3_buy_73 ?_
      refine y_lload hM hl 0 rfl dX3_buy_74 ?_
      refine y_iload hM hl 3 rfl dX3_buy_76 ?_
      refine y_callS hM hC (c_costOf l hfl G b0 (ks, ad, T, P) (0) (r_5) ⟨by omega, by omega⟩ ⟨by omega, by omega⟩) (va_cwS 2 hM.2.2.2.2 gX3_buy_X3_costOf rfl rfl rfl (by decide +kernel) ⟨(Nat.le_of_ble_eq_true rfl), (Nat.le_of_ble_eq_true rfl)⟩) rfl hl.1 rfl (Nat.le_of_ble_eq_true rfl) dX3_buy_78 ⟨(Nat.le_of_ble_eq_true rfl), (Nat.le_of_ble_eq_true rfl)⟩ (fun E ce q9 u1 H locs hx hC hce hcv hcl => hx.elim) (fun v u1 H locs hp hC => ?_)
      obtain ⟨r_78, rfl, h_78, hu⟩ := hp; rw [hu] at hC; clear hu
      try dsimp only at h_78
      refine W.eq (g2 := F0 m 81 ls [.long (lI (r_78)), .ref (ad 11 k), .ref (ad 0 0)]) rfl ?_
      have hc_78 := coF_in (u := 0) (pr := r_5) (by omega) (by omega)
      refine y_iload hM hl 1 rfl dX3_buy_81 ?_
      refine y_callV hM hC (c_share l hfl G b0 ks ad T P k hkn (r_78) ((T 11 k 5) + (lb)) ⟨by omega, by omega⟩ (by constructor <;> omega) hF hRK hRN hDN hSK hSN hOK hON) (cwV 3 hM.2.2.2.2 gX3_buy_X3_shareCost rfl rfl rfl (by decide +kernel) ⟨(Nat.le_of_ble_eq_true rfl), (Nat.le_of_ble_eq_true rfl)⟩) (y_recv hC hF.1 rfl rfl) rfl hl.1 rfl (Nat.le_of_ble_eq_true rfl) dX3_buy_83 ⟨(Nat.le_of_ble_eq_true rfl), (Nat.le_of_ble_eq_true rfl)⟩ (fun E ce q9 u1 H locs hx hC hce hcv hcl => hx.elim) (fun v u1 H locs hp hC => ?_)
      obtain ⟨rfl, h_83, hu⟩ := hp; rw [hu] at hC; clear hu
      try dsimp only at h_83
      refine W.eq (g2 := F0 m 86 ls []) rfl ?_
      refine y_aload_n hM hl 5 rfl rfl dX3_buy_86 ?_
      refine y_lload hM hl 0 rfl dX3_buy_87 ?_
      refine y_putN hM hC hk11 rfl rfl (by decide +kernel) tyX0 tyX0_ok nmX0 9 1 ⟨by decide, rfl, rfl, rfl, rfl⟩ (by decide +kernel) (ty := .long) (by decide +kernel) rfl rfl (Nat.le_of_ble_eq_true rfl) (T' := (up (shaT T k (r_78) ((T 11 k 5) + (lb))) 11 k 9 (0))) (P' := P) (cF_up rfl) (fun _ _ h => up_ne h) (fun _ _ _ => rfl) dX3_buy_89 (fun H locs hC => ?_)
      refine y_aload_n hM hl 5 rfl rfl dX3_buy_92 ?_
      refine y_getN hM hC hk11 rfl rfl (by decide +kernel) 0 3 ⟨by decide, rfl, rfl, rfl⟩ (by decide +kernel) (congrArg (fun q => some (va_rf q)) hpm) dX3_buy_93 ?_
      refine W.eq (g2 := F0 m 96 ls [.ref (ad 10 (mvT T k))]) rfl ?_
      refine y_aload_n hM hl 5 rfl rfl dX3_buy_96 ?_
      refine y_getN hM hC hk11 rfl rfl (by decide +kernel) 2 0 ⟨by decide, rfl, rfl, rfl⟩ (by decide +kernel) (congrArg (fun q => some (Value.int (iI q))) (show (up (shaT T k (r_78) ((T 11 k 5) + (lb))) 11 k 9 (0)) 11 k 2 = T 11 k 2 from (by rw [up_row, uR, if_neg (by decide), shaT_at k (by decide)]))) dX3_buy_97 ?_
      refine y_lload hM hl 2 rfl dX3_buy_100 ?_
      refine y_lload hM hl 0 rfl dX3_buy_102 ?_
      refine y_ladd hM dX3_buy_104 ?_
      refine y_callV hM hC (c_arrive l hfl G b0 ks ad (up (shaT T k (r_78) ((T 11 k 5) + (lb))) 11 k 9 (0)) P (mvT T k) hk10 (T 11 k 2) ((r_27) + (0))) (cwV 2 hM.2.2.2.2 gX3_buy_X2_arrive rfl rfl rfl (by decide +kernel) ⟨(Nat.le_of_ble_eq_true rfl), (Nat.le_of_ble_eq_true rfl)⟩) (y_recv hC hk10 rfl rfl) rfl hl.1 rfl (Nat.le_of_ble_eq_true rfl) dX3_buy_105 ⟨(Nat.le_of_ble_eq_true rfl), (Nat.le_of_ble_eq_true rfl)⟩ (fun E ce q9 u1 H locs hx hC hce hcv hcl => hx.elim) (fun v u1 H locs hp hC => ?_)
      obtain ⟨rfl, h_105, hu⟩ := hp; rw [hu] at hC; clear hu
      try dsimp only at h_105
      refine W.eq (g2 := F0 m 108 ls []) rfl ?_
      exact y_vret hM hr hlk hC ⟨rfl, (by omega), (by unfold buyT; rw [← hla, ← hg, h_78, ← h_5]; rfl)⟩ (Nat.le_of_ble_eq_true rfl) (Nat.le_of_ble_eq_true rfl) dX3_buy_108
    ·
      refine y_lconst hM 0 (by decide) dX3_buy_48 ?_
      refine y_aload_n hM hl 4 rfl rfl dX3_buy_49 ?_
      refine y_aload_n hM hl 5 rfl rfl dX3_buy_50 ?_
      refine y_iload hM hl 1 rfl dX3_buy_51 ?_
      refine y_callV hM hC (c_timely l hfl G b0 ks ad T P k hkn ((T 11 k 5) + (lb)) ⟨by omega, by omega⟩ hF hRK hRN hDN hSK hSN hOK hON) (cwV 2 hM.2.2.2.2 gX3_buy_X3_timelyThousandths rfl rfl rfl (by decide +kernel) ⟨(Nat.le_of_ble_eq_true rfl), (Nat.le_of_ble_eq_true rfl)⟩) (y_recv hC hF.1 rfl rfl) rfl hl.1 rfl (Nat.le_of_ble_eq_true rfl) dX3_buy_53 ⟨(Nat.le_of_ble_eq_true rfl), (Nat.le_of_ble_eq_true rfl)⟩ (fun E ce q9 u1 H locs hx hC hce hcv hcl => hx.elim) (fun v u1 H locs hp hC => ?_)
      obtain ⟨r_53, rfl, h_53, hu⟩ := hp; rw [hu] at hC; clear hu
      try dsimp only at h_53
      refine W.eq (g2 := F0 m 56 ls [.long (lI (r_53)), .long (lI (0))]) rfl ?_
      refine y_lload hM hl 2 rfl dX3_buy_56 ?_
      refine y_lsub hM dX3_buy_58 ?_
      refine va_mmax_long hM.1 hM.2.1 (by rw [hM.2.2.1]; exact hl.1.symm) hM.2.2.2.1 (hM.2.2.2.2 (.methodLink RX3 199 Lib.MathLoose.max_long.x) (by decide +kernel)) (hM.2.2.2.2 (.static Lib.MathLoose.max_long.x) (by decide +kernel)) (hM.2.2.2.2 (.initialized "java/lang/Math") (by decide +kernel)) (hM.2.2.2.2 (.code Lib.MathLoose.max_long.x Lib.MathLoose.max_long.code 4 (some .long)) (by decide +kernel)) (Nat.le_of_ble_eq_true rfl) (Nat.le_of_ble_eq_true rfl) (Nat.le_of_ble_eq_true rfl) (Nat.le_of_ble_eq_true rfl) dX3_buy_59 ?_
      rw [show (if lI ((r_53) - (r_27)) < lI (0) then lI (0) else lI ((r_53) - (r_27))) = lI (la) from (by
    simp only [lI_lt (a := r_53 - r_27) (b := 0) ⟨by omega, by omega⟩ ⟨by omega, by omega⟩]
    rw [hla]
    unfold lakT
    rw [if_pos (show 0 < allL T k lb by unfold allL; omega), show timT T k (allL T k lb) = r_53 from h_53.symm, ← hg]
    split <;> split <;> first | rfl | (exact False.elim (by omega)) | (exact congrArg lI (by omega)))]
      refine lv_lstore (lv' := [(8, .long (lI (la))), (7, .int (iI ((T 11 k 5) + (lb)))), (5, .long (lI (r_27))), (4, .int (iI (r_5))), (0, .ref (ad 0 0)), (1, .ref (ad 11 k)), (2, .int (iI (lb))), (3, .int (iI (f)))]) hM.1 hM.2.1 dX3_buy_62 hl (by decide) rfl (fun ls hl => ?_)
      refine y_lload hM hl 2 rfl dX3_buy_64 ?_
      refine y_lload hM hl 0 rfl dX3_buy_66 ?_
      refine y_ladd hM dX3_buy_68 ?_
      refine y_callS hM hC (c_checkHolding l hfl G b0 (ks, ad, T, P) ((r_27) + (la)) (by constructor <;> omega)) (va_cwS 1 hM.2.2.2.2 gX3_buy_X3_checkHolding rfl rfl rfl (by decide +kernel) ⟨(Nat.le_of_ble_eq_true rfl), (Nat.le_of_ble_eq_true rfl)⟩) rfl hl.1 rfl (Nat.le_of_ble_eq_true rfl) dX3_buy_69 ⟨(Nat.le_of_ble_eq_true rfl), (Nat.le_of_ble_eq_true rfl)⟩ (fun E ce q9 u1 H locs hx hC hce hcv hcl => by
          obtain ⟨x, rfl, hx, hu⟩ := hx; rw [hu] at hC; clear hu; try dsimp only at hx
          exact y_out hto hlk hC hce hcv hcl ⟨x, rfl, (by (try dsimp only); omega), rfl⟩ (Nat.le_of_ble_eq_true rfl) (Nat.le_of_ble_eq_true rfl)) (fun v u1 H locs hp hC => ?_)
      obtain ⟨rfl, h_69, hu⟩ := hp; rw [hu] at hC; clear hu
      try dsimp only at h_69
      refine W.eq (g2 := F0 m 72 ls []) rfl ?_
      refine y_aload_n hM hl 4 rfl rfl dX3_buy_72 ?_
      refine y_aload_n hM hl 5 rfl rfl dX3_buy_73 ?_
      refine y_lload hM hl 0 rfl dX3_buy_74 ?_
      refine y_iload hM hl 3 rfl dX3_buy_76 ?_
      refine y_callS hM hC (c_costOf l hfl G b0 (ks, ad, T, P) (la) (r_5) ⟨by omega, by omega⟩ ⟨by omega, by omega⟩) (va_cwS 2 hM.2.2.2.2 gX3_buy_X3_costOf rfl rfl rfl (by decide +kernel) ⟨(Nat.le_of_ble_eq_true rfl), (Nat.le_of_ble_eq_true rfl)⟩) rfl hl.1 rfl (Nat.le_of_ble_eq_true rfl) dX3_buy_78 ⟨(Nat.le_of_ble_eq_true rfl), (Nat.le_of_ble_eq_true rfl)⟩ (fun E ce q9 u1 H locs hx hC hce hcv hcl => hx.elim) (fun v u1 H locs hp hC => ?_)
      obtain ⟨r_78, rfl, h_78, hu⟩ := hp; rw [hu] at hC; clear hu
      try dsimp only at h_78
      refine W.eq (g2 := F0 m 81 ls [.long (lI (r_78)), .ref (ad 11 k), .ref (ad 0 0)]) rfl ?_
      have hc_78 := coF_in (u := la) (pr := r_5) (by omega) (by omega)
      refine y_iload hM hl 1 rfl dX3_buy_81 ?_
      refine y_callV hM hC (c_share l hfl G b0 ks ad T P k hkn (r_78) ((T 11 k 5) + (lb)) ⟨by omega, by omega⟩ (by constructor <;> omega) hF hRK hRN hDN hSK hSN hOK hON) (cwV 3 hM.2.2.2.2 gX3_buy_X3_shareCost rfl rfl rfl (by decide +kernel) ⟨(Nat.le_of_ble_eq_true rfl), (Nat.le_of_ble_eq_true rfl)⟩) (y_recv hC hF.1 rfl rfl) rfl hl.1 rfl (Nat.le_of_ble_eq_true rfl) dX3_buy_83 ⟨(Nat.le_of_ble_eq_true rfl), (Nat.le_of_ble_eq_true rfl)⟩ (fun E ce q9 u1 H locs hx hC hce hcv hcl => hx.elim) (fun v u1 H locs hp hC => ?_)
      obtain ⟨rfl, h_83, hu⟩ := hp; rw [hu] at hC; clear hu
      try dsimp only at h_83
      refine W.eq (g2 := F0 m 86 ls []) rfl ?_
      refine y_aload_n hM hl 5 rfl rfl dX3_buy_86 ?_
      refine y_lload hM hl 0 rfl dX3_buy_87 ?_
      refine y_putN hM hC hk11 rfl rfl (by decide +kernel) tyX0 tyX0_ok nmX0 9 1 ⟨by decide, rfl, rfl, rfl, rfl⟩ (by decide +kernel) (ty := .long) (by decide +kernel) rfl rfl (Nat.le_of_ble_eq_true rfl) (T' := (up (shaT T k (r_78) ((T 11 k 5) + (lb))) 11 k 9 (la))) (P' := P) (cF_up rfl) (fun _ _ h => up_ne h) (fun _ _ _ => rfl) dX3_buy_89 (fun H locs hC => ?_)
      refine y_aload_n hM hl 5 rfl rfl dX3_buy_92 ?_
      refine y_getN hM hC hk11 rfl rfl (by decide +kernel) 0 3 ⟨by decide, rfl, rfl, rfl⟩ (by decide +kernel) (congrArg (fun q => some (va_rf q)) hpm) dX3_buy_93 ?_
      refine W.eq (g2 := F0 m 96 ls [.ref (ad 10 (mvT T k))]) rfl ?_
      refine y_aload_n hM hl 5 rfl rfl dX3_buy_96 ?_
      refine y_getN hM hC hk11 rfl rfl (by decide +kernel) 2 0 ⟨by decide, rfl, rfl, rfl⟩ (by decide +kernel) (congrArg (fun q => some (Value.int (iI q))) (show (up (shaT T k (r_78) ((T 11 k 5) + (lb))) 11 k 9 (la)) 11 k 2 = T 11 k 2 from (by rw [up_row, uR, if_neg (by decide), shaT_at k (by decide)]))) dX3_buy_97 ?_
      refine y_lload hM hl 2 rfl dX3_buy_100 ?_
      refine y_lload hM hl 0 rfl dX3_buy_102 ?_
      refine y_ladd hM dX3_buy_104 ?_
      refine y_callV hM hC (c_arrive l hfl G b0 ks ad (up (shaT T k (r_78) ((T 11 k 5) + (lb))) 11 k 9 (la)) P (mvT T k) hk10 (T 11 k 2) ((r_27) + (la))) (cwV 2 hM.2.2.2.2 gX3_buy_X2_arrive rfl rfl rfl (by decide +kernel) ⟨(Nat.le_of_ble_eq_true rfl), (Nat.le_of_ble_eq_true rfl)⟩) (y_recv hC hk10 rfl rfl) rfl hl.1 rfl (Nat.le_of_ble_eq_true rfl) dX3_buy_105 ⟨(Nat.le_of_ble_eq_true rfl), (Nat.le_of_ble_eq_true rfl)⟩ (fun E ce q9 u1 H locs hx hC hce hcv hcl => hx.elim) (fun v u1 H locs hp hC => ?_)
      obtain ⟨rfl, h_105, hu⟩ := hp; rw [hu] at hC; clear hu
      try dsimp only at h_105
      refine W.eq (g2 := F0 m 108 ls []) rfl ?_
      exact y_vret hM hr hlk hC ⟨rfl, (by omega), (by unfold buyT; rw [← hla, ← hg, h_78, ← h_5]; rfl)⟩ (Nat.le_of_ble_eq_true rfl) (Nat.le_of_ble_eq_true rfl) dX3_buy_108

set_option maxRecDepth 100000 in
set_option maxHeartbeats 8000000 in
theorem c_doNextStep (l : Launch) (hfl : l.stackTraces = false) (G : GG) (b0 : Nat) (ks : KK) (ad : AD) (T : TT) (P : PP) (k : Nat) (hkn : (k : Int) < T 0 0 8) (f : Int) (hf : f = 0 ∨ f = 1) (hF : FI ks ad P) (hRK : RK ks ad P) (hRN : RN T) (hDN : DN T) (hSK : SK ks ad T P) (hSN : SN T) (hOK : OK1 ks ad T P) (hON : ON T)  : vx_Met l yX3_doNextStep wsX3_doNextStep (rmX 9 4 24 159) (va_Pc [.ref (ad 0 0), .ref (ad 11 k), .int (iI (f))] (Ok G b0 (ks, ad, T, P))) (Qr (pI (fun r => r = lateT T k (T 0 0 5) ∧ (T 11 k 3 = 2 → gotT T k f + lakT T k (lateT T k (T 0 0 5)) f ≤ 100000000)) (ks, ad, stpT T k f, P)) G b0) (Xr (pX (fun x => x = 2 ∧ T 11 k 3 = 2 ∧ 100000000 < gotT T k f + lakT T k (lateT T k (T 0 0 5)) f) (ks, ad, T, P)) G b0) 4 24 (Wx b0) := by
  refine vx_ofW (cc := cX3_doNextStep) (maxL := 4) (ret := (some .int)) (by decide +kernel) rfl ?_
  intro p e s m args below meth c s₁ B hml hto hv
  obtain ⟨rfl, hok⟩ := hv
  have hM : CallFix p m c cX3_doNextStep 4 s _ wsX3_doNextStep RX3 := ⟨B.exec, B.bytes, hml, findClass_of_methodNamed B.named, atoms_spec (ws := wsX3_doNextStep) B.pre⟩
  have hr := B.returns
  have hlk := B.notSynchronized
  have hC := hok.cur
  have hl := lv_entry ([.ref (ad 0 0), .ref (ad 11 k), .int (iI (f))]) (n := 4) (Nat.le_of_ble_eq_true rfl)
  rw [lg_entry_eq]
  generalize (lg_sl ([.ref (ad 0 0), .ref (ad 11 k), .int (iI (f))]) ++ List.replicate (4 - (lg_sl ([.ref (ad 0 0), .ref (ad 11 k), .int (iI (f))])).length) Slot.unset).toArray = ls at hl ⊢
  have hl : lv_has ls 4 [(0, .ref (ad 0 0)), (1, .ref (ad 11 k)), (2, .int (iI (f)))] := hl
  obtain ⟨hk11, hpm, hm0, hm1⟩ := hOK.2.2.2 k hkn
  have ho := hON k hkn
  have hs := hSN (mvT T k) (by unfold mvT; omega)
  have hk10 := hSK.2.2.2 (mvT T k) (by unfold mvT; omega)
  obtain ⟨hd0, hd1, hd2, hd3⟩ := id hDN
  refine y_aload_n hM hl 1 rfl rfl dX3_doNextStep_0 ?_
  refine y_aload_n hM hl 0 rfl rfl dX3_doNextStep_1 ?_
  refine y_get hM hC hF.1 rfl rfl (by decide +kernel) 5 ⟨by decide, rfl, rfl, rfl⟩ (by decide +kernel) rfl dX3_doNextStep_2 ?_
  refine y_callV hM hC (c_latenessOn l hfl G b0 ks ad T P k hk11 (T 0 0 5) (by constructor <;> omega) ⟨by omega, by omega⟩ ⟨by omega, by omega⟩) (cwV 1 hM.2.2.2.2 gX3_doNextStep_X0_latenessOn rfl rfl rfl (by decide +kernel) ⟨(Nat.le_of_ble_eq_true rfl), (Nat.le_of_ble_eq_true rfl)⟩) (y_recv hC hk11 rfl rfl) rfl hl.1 rfl (Nat.le_of_ble_eq_true rfl) dX3_doNextStep_5 ⟨(Nat.le_of_ble_eq_true rfl), (Nat.le_of_ble_eq_true rfl)⟩ (fun E ce q9 u1 H locs hx hC hce hcv hcl => hx.elim) (fun v u1 H locs hp hC => ?_)
  obtain ⟨r_5, rfl, h_5, hu⟩ := hp; rw [hu] at hC; clear hu
  try dsimp only at h_5
  refine W.eq (g2 := F0 m 8 ls [.int (iI (r_5))]) rfl ?_
  have hl_5 := lateT_in (T := T) (k := k) (by omega) (d := T 0 0 5) ⟨by omega, by omega⟩
  refine lv_istore_n (lv' := [(3, .int (iI (r_5))), (0, .ref (ad 0 0)), (1, .ref (ad 11 k)), (2, .int (iI (f)))]) hM.1 hM.2.1 dX3_doNextStep_8 rfl hl (by decide) rfl (fun ls hl => ?_)
  refine y_aload_n hM hl 2 rfl rfl dX3_doNextStep_9 ?_
  refine y_getN hM hC hk11 rfl rfl (by decide +kernel) 3 0 ⟨by decide, rfl, rfl, rfl⟩ (by decide +kernel) rfl dX3_doNextStep_10 ?_
  refine y_iconst hM dX3_doNextStep_13 ?_
  refine y_icmp_ne hM (by constructor <;> omega) (by constructor <;> omega) (tgt := 26) dX3_doNextStep_14 (by decide) (fun c_14 => ?_) (fun c_14 => ?_)
  ·
    refine y_aload_n hM hl 2 rfl rfl dX3_doNextStep_26 ?_
    refine y_getN hM hC hk11 rfl rfl (by decide +kernel) 3 0 ⟨by decide, rfl, rfl, rfl⟩ (by decide +kernel) rfl dX3_doNextStep_27 ?_
    refine y_iconst hM dX3_doNextStep_30 ?_
    refine y_icmp_ne hM (by constructor <;> omega) (by constructor <;> omega) (tgt := 41) dX3_doNextStep_31 (by decide) (fun c_31 => ?_) (fun c_31 => ?_)
    ·
      refine y_aload_n hM hl 2 rfl rfl dX3_doNextStep_41 ?_
      refine y_aload_n hM hl 1 rfl rfl dX3_doNextStep_42 ?_
      refine y_get hM hC hF.1 rfl rfl (by decide +kernel) 5 ⟨by decide, rfl, rfl, rfl⟩ (by decide +kernel) rfl dX3_doNextStep_43 ?_
      refine y_iload_n hM hl 0 rfl rfl dX3_doNextStep_46 ?_
      refine y_callV hM hC (c_goOn l hfl G b0 ks ad T P k hk11 (T 0 0 5) (r_5) (by constructor <;> omega)) (cwV 2 hM.2.2.2.2 gX3_doNextStep_X0_goOn rfl rfl rfl (by decide +kernel) ⟨(Nat.le_of_ble_eq_true rfl), (Nat.le_of_ble_eq_true rfl)⟩) (y_recv hC hk11 rfl rfl) rfl hl.1 rfl (Nat.le_of_ble_eq_true rfl) dX3_doNextStep_47 ⟨(Nat.le_of_ble_eq_true rfl), (Nat.le_of_ble_eq_true rfl)⟩ (fun E ce q9 u1 H locs hx hC hce hcv hcl => hx.elim) (fun v u1 H locs hp hC => ?_)
      obtain ⟨rfl, h_47, hu⟩ := hp; rw [hu] at hC; clear hu
      try dsimp only at h_47
      refine W.eq (g2 := F0 m 50 ls []) rfl ?_
      refine y_iload_n hM hl 0 rfl rfl dX3_doNextStep_50 ?_
      exact y_iret hM hr hlk hC ⟨_, rfl, ⟨h_5, fun q => by omega⟩, (by unfold stpT; rw [if_neg c_14, if_neg c_31, h_5])⟩ (Nat.le_of_ble_eq_true rfl) (Nat.le_of_ble_eq_true rfl) dX3_doNextStep_51
    ·
      refine y_aload_n hM hl 1 rfl rfl dX3_doNextStep_34 ?_
      refine y_aload_n hM hl 2 rfl rfl dX3_doNextStep_35 ?_
      refine y_iload_n hM hl 0 rfl rfl dX3_doNextStep_36 ?_
      refine y_iload_n hM hl 3 rfl rfl dX3_doNextStep_37 ?_
      refine y_callV hM hC (c_buy l hfl G b0 ks ad T P k hkn (r_5) (f) ⟨by omega, by omega⟩ hf hF hRK hRN hDN hSK hSN hOK hON) (cwV 3 hM.2.2.2.2 gX3_doNextStep_X3_buy rfl rfl rfl (by decide +kernel) ⟨(Nat.le_of_ble_eq_true rfl), (Nat.le_of_ble_eq_true rfl)⟩) (y_recv hC hF.1 rfl rfl) rfl hl.1 rfl (Nat.le_of_ble_eq_true rfl) dX3_doNextStep_38 ⟨(Nat.le_of_ble_eq_true rfl), (Nat.le_of_ble_eq_true rfl)⟩ (fun E ce q9 u1 H locs hx hC hce hcv hcl => by
          obtain ⟨x, rfl, hx, hu⟩ := hx; rw [hu] at hC; clear hu; try dsimp only at hx
          exact y_out hto hlk hC hce hcv hcl ⟨x, rfl, (by (try dsimp only); rw [← h_5]; exact ⟨hx.1, c_31, hx.2⟩), rfl⟩ (Nat.le_of_ble_eq_true rfl) (Nat.le_of_ble_eq_true rfl)) (fun v u1 H locs hp hC => ?_)
      obtain ⟨rfl, h_38, hu⟩ := hp; rw [hu] at hC; clear hu
      try dsimp only at h_38
      refine W.eq (g2 := F0 m 41 ls []) rfl ?_
      refine y_aload_n hM hl 2 rfl rfl dX3_doNextStep_41 ?_
      refine y_aload_n hM hl 1 rfl rfl dX3_doNextStep_42 ?_
      refine y_get hM hC hF.1 rfl rfl (by decide +kernel) 5 ⟨by decide, rfl, rfl, rfl⟩ (by decide +kernel) (congrArg (fun q => some (Value.int (iI q))) (show (buyT T k (r_5) (f)) 0 0 5 = T 0 0 5 from (congrFun (buyT_at (fun q => absurd q.1 (by decide)) (by decide)) 5))) dX3_doNextStep_43 ?_
      refine y_iload_n hM hl 0 rfl rfl dX3_doNextStep_46 ?_
      refine y_callV hM hC (c_goOn l hfl G b0 ks ad (buyT T k (r_5) (f)) P k hk11 (T 0 0 5) (r_5) (by rw [buyT_3]; constructor <;> omega)) (cwV 2 hM.2.2.2.2 gX3_doNextStep_X0_goOn rfl rfl rfl (by decide +kernel) ⟨(Nat.le_of_ble_eq_true rfl), (Nat.le_of_ble_eq_true rfl)⟩) (y_recv hC hk11 rfl rfl) rfl hl.1 rfl (Nat.le_of_ble_eq_true rfl) dX3_doNextStep_47 ⟨(Nat.le_of_ble_eq_true rfl), (Nat.le_of_ble_eq_true rfl)⟩ (fun E ce q9 u1 H locs hx hC hce hcv hcl => hx.elim) (fun v u1 H locs hp hC => ?_)
      obtain ⟨rfl, h_47, hu⟩ := hp; rw [hu] at hC; clear hu
      try dsimp only at h_47
      refine W.eq (g2 := F0 m 50 ls []) rfl ?_
      refine y_iload_n hM hl 0 rfl rfl dX3_doNextStep_50 ?_
      exact y_iret hM hr hlk hC ⟨_, rfl, ⟨h_5, fun _ => by rw [← h_5]; exact h_38⟩, (by unfold stpT; rw [if_neg c_14, if_pos c_31, h_5])⟩ (Nat.le_of_ble_eq_true rfl) (Nat.le_of_ble_eq_true rfl) dX3_doNextStep_51
  ·
    refine y_aload_n hM hl 1 rfl rfl dX3_doNextStep_17 ?_
    refine y_aload_n hM hl 2 rfl rfl dX3_doNextStep_18 ?_
    refine y_iload_n hM hl 3 rfl rfl dX3_doNextStep_19 ?_
    refine y_callV hM hC (c_sell l hfl G b0 ks ad T P k hkn (f) hf hF hRK hRN hDN hSK hSN hOK hON) (cwV 2 hM.2.2.2.2 gX3_doNextStep_X3_sell rfl rfl rfl (by decide +kernel) ⟨(Nat.le_of_ble_eq_true rfl), (Nat.le_of_ble_eq_true rfl)⟩) (y_recv hC hF.1 rfl rfl) rfl hl.1 rfl (Nat.le_of_ble_eq_true rfl) dX3_doNextStep_20 ⟨(Nat.le_of_ble_eq_true rfl), (Nat.le_of_ble_eq_true rfl)⟩ (fun E ce q9 u1 H locs hx hC hce hcv hcl => hx.elim) (fun v u1 H locs hp hC => ?_)
    obtain ⟨rfl, h_20, hu⟩ := hp; rw [hu] at hC; clear hu
    try dsimp only at h_20
    refine W.eq (g2 := F0 m 23 ls []) rfl ?_
    refine lv_goto (tgt := 41) hM.1 hM.2.1 dX3_doNextStep_23 (by decide) ?_
    refine y_aload_n hM hl 2 rfl rfl dX3_doNextStep_41 ?_
    refine y_aload_n hM hl 1 rfl rfl dX3_doNextStep_42 ?_
    refine y_get hM hC hF.1 rfl rfl (by decide +kernel) 5 ⟨by decide, rfl, rfl, rfl⟩ (by decide +kernel) (congrArg (fun q => some (Value.int (iI q))) (show (sellT T k (f)) 0 0 5 = T 0 0 5 from (congrFun (sellT_at (fun q => absurd q.1 (by decide)) (by decide)) 5))) dX3_doNextStep_43 ?_
    refine y_iload_n hM hl 0 rfl rfl dX3_doNextStep_46 ?_
    refine y_callV hM hC (c_goOn l hfl G b0 ks ad (sellT T k (f)) P k hk11 (T 0 0 5) (r_5) (by rw [sellT_3]; constructor <;> omega)) (cwV 2 hM.2.2.2.2 gX3_doNextStep_X0_goOn rfl rfl rfl (by decide +kernel) ⟨(Nat.le_of_ble_eq_true rfl), (Nat.le_of_ble_eq_true rfl)⟩) (y_recv hC hk11 rfl rfl) rfl hl.1 rfl (Nat.le_of_ble_eq_true rfl) dX3_doNextStep_47 ⟨(Nat.le_of_ble_eq_true rfl), (Nat.le_of_ble_eq_true rfl)⟩ (fun E ce q9 u1 H locs hx hC hce hcv hcl => hx.elim) (fun v u1 H locs hp hC => ?_)
    obtain ⟨rfl, h_47, hu⟩ := hp; rw [hu] at hC; clear hu
    try dsimp only at h_47
    refine W.eq (g2 := F0 m 50 ls []) rfl ?_
    refine y_iload_n hM hl 0 rfl rfl dX3_doNextStep_50 ?_
    exact y_iret hM hr hlk hC ⟨_, rfl, ⟨h_5, fun q => by omega⟩, (by unfold stpT; rw [if_pos c_14, h_5])⟩ (Nat.le_of_ble_eq_true rfl) (Nat.le_of_ble_eq_true rfl) dX3_doNextStep_51
end
section
set_option maxRecDepth 100000 in
set_option maxHeartbeats 8000000 in
theorem c_pass (l : Launch) (hfl : l.stackTraces = false) (G : GG) (b0 : Nat) (ks : KK) (ad : AD) (T : TT) (P : PP) (z : Int) (hz : inI z) (hF : FI ks ad P) (hDN : DN T) : vx_Met l yX3_pass wsX3_pass (rmX 6 1 6 82) (va_Pc [.ref (ad 0 0), .int (iI (z))] (Ok G b0 (ks, ad, T, P))) (Qr (pI (fun r => r = T 0 0 5 + z ∧ 1 ≤ z ∧ z ≤ 100 ∧ T 0 0 5 + z ≤ 2000) (ks, ad, up T 0 0 5 (T 0 0 5 + z), P)) G b0) (Xr (pX (fun x => (x = 1 ∧ (z < 1 ∨ 100 < z)) ∨ (x = 2 ∧ 1 ≤ z ∧ z ≤ 100 ∧ 2000 < T 0 0 5 + z)) (ks, ad, T, P)) G b0) 1 6 (Wx b0) := by
  refine vx_ofW (cc := cX3_pass) (maxL := 2) (ret := (some .int)) (by decide +kernel) rfl ?_
  intro p e s m args below meth c s₁ B hml hto hv
  obtain ⟨rfl, hok⟩ := hv
  have hM : CallFix p m c cX3_pass 2 s _ wsX3_pass RX3 := ⟨B.exec, B.bytes, hml, findClass_of_methodNamed B.named, atoms_spec (ws := wsX3_pass) B.pre⟩
  have hr := B.returns
  have hlk := B.notSynchronized
  have hC := hok.cur
  have hl := lv_entry ([.ref (ad 0 0), .int (iI (z))]) (n := 2) (Nat.le_of_ble_eq_true rfl)
  rw [lg_entry_eq]
  generalize (lg_sl ([.ref (ad 0 0), .int (iI (z))]) ++ List.replicate (2 - (lg_sl ([.ref (ad 0 0), .int (iI (z))])).length) Slot.unset).toArray = ls at hl ⊢
  have hl : lv_has ls 2 [(0, .ref (ad 0 0)), (1, .int (iI (z)))] := hl
  obtain ⟨hd0, hd1, hd2, hd3⟩ := id hDN
  refine y_iload_n hM hl 1 rfl rfl dX3_pass_0 ?_
  refine y_iconst hM dX3_pass_1 ?_
  refine y_bipush hM dX3_pass_2 (by decide) ?_
  refine y_callS hM hC (c_isOutside l hfl G b0 (ks, ad, T, P) (z) (1) (100) (by constructor <;> omega) (by constructor <;> omega) (by constructor <;> omega)) (va_cwS 3 hM.2.2.2.2 gX3_pass_X3_isOutside rfl rfl rfl (by decide +kernel) ⟨(Nat.le_of_ble_eq_true rfl), (Nat.le_of_ble_eq_true rfl)⟩) rfl hl.1 rfl (Nat.le_of_ble_eq_true rfl) dX3_pass_4 ⟨(Nat.le_of_ble_eq_true rfl), (Nat.le_of_ble_eq_true rfl)⟩ (fun E ce q9 u1 H locs hx hC hce hcv hcl => hx.elim) (fun v u1 H locs hp hC => ?_)
  obtain ⟨r_4, rfl, h_4, hu⟩ := hp; rw [hu] at hC; clear hu
  try dsimp only at h_4
  refine W.eq (g2 := F0 m 7 ls [.int (iI (r_4))]) rfl ?_
  refine y_if_eq hM (by constructor <;> omega) (tgt := 20) dX3_pass_7 (by decide) (fun c_7 => ?_) (fun c_7 => ?_)
  ·
    refine y_aload_n hM hl 0 rfl rfl dX3_pass_20 ?_
    refine y_get hM hC hF.1 rfl rfl (by decide +kernel) 5 ⟨by decide, rfl, rfl, rfl⟩ (by decide +kernel) rfl dX3_pass_21 ?_
    refine y_iload_n hM hl 1 rfl rfl dX3_pass_24 ?_
    refine y_iadd hM dX3_pass_25 ?_
    refine y_sipush hM dX3_pass_26 (by decide) ?_
    refine y_icmp_le hM (by constructor <;> omega) (by constructor <;> omega) (tgt := 42) dX3_pass_29 (by decide) (fun c_29 => ?_) (fun c_29 => ?_)
    ·
      refine y_aload_n hM hl 0 rfl rfl dX3_pass_42 ?_
      refine lv_dup hM.1 hM.2.1 dX3_pass_43 rfl ?_
      refine y_get hM hC hF.1 rfl rfl (by decide +kernel) 5 ⟨by decide, rfl, rfl, rfl⟩ (by decide +kernel) rfl dX3_pass_44 ?_
      refine y_iload_n hM hl 1 rfl rfl dX3_pass_47 ?_
      refine y_iadd hM dX3_pass_48 ?_
      refine y_put hM hC hF.1 rfl rfl (by decide +kernel) tyX3 tyX3_ok nmX3 5 ⟨by decide, rfl, rfl, rfl, rfl⟩ (by decide +kernel) (ty := .int) (by decide +kernel) rfl rfl (Nat.le_of_ble_eq_true rfl) (T' := (up T 0 0 5 ((T 0 0 5) + (z)))) (P' := P) (cF_up rfl) (fun _ _ h => up_ne h) (fun _ _ _ => rfl) dX3_pass_49 (fun H locs hC => ?_)
      refine y_aload_n hM hl 0 rfl rfl dX3_pass_52 ?_
      refine y_get hM hC hF.1 rfl rfl (by decide +kernel) 5 ⟨by decide, rfl, rfl, rfl⟩ (by decide +kernel) (congrArg (fun q => some (Value.int (iI q))) (show (up T 0 0 5 ((T 0 0 5) + (z))) 0 0 5 = (T 0 0 5) + (z) from by simp [up])) dX3_pass_53 ?_
      exact y_iret hM hr hlk hC ⟨_, rfl, (by (try dsimp only); omega), rfl⟩ (Nat.le_of_ble_eq_true rfl) (Nat.le_of_ble_eq_true rfl) dX3_pass_56
    ·
      exact y_throw hM hto hfl hlk hl.1 hC caS (text := "later than the last day") (by decide +kernel) ngS goS ⟨(by decide +kernel), (by decide +kernel)⟩ (by decide +kernel) dX3_pass_32 dX3_pass_35 dX3_pass_36 dX3_pass_38 dX3_pass_41 ⟨(Nat.le_of_ble_eq_true rfl), (Nat.le_of_ble_eq_true rfl), (Nat.le_of_ble_eq_true rfl), (Nat.le_of_ble_eq_true rfl)⟩ ⟨2, rfl, (by (try dsimp only); omega), rfl⟩ (Nat.le_of_ble_eq_true rfl) (Nat.le_of_ble_eq_true rfl)
  ·
    exact y_throw hM hto hfl hlk hl.1 hC caA (text := "days out of range") (by decide +kernel) ngA goA ⟨(by decide +kernel), (by decide +kernel)⟩ (by decide +kernel) dX3_pass_10 dX3_pass_13 dX3_pass_14 dX3_pass_16 dX3_pass_19 ⟨(Nat.le_of_ble_eq_true rfl), (Nat.le_of_ble_eq_true rfl), (Nat.le_of_ble_eq_true rfl), (Nat.le_of_ble_eq_true rfl)⟩ ⟨1, rfl, (by (try dsimp only); omega), rfl⟩ (Nat.le_of_ble_eq_true rfl) (Nat.le_of_ble_eq_true rfl)

set_option maxRecDepth 100000 in
set_option maxHeartbeats 8000000 in
theorem c_today (l : Launch) (hfl : l.stackTraces = false) (G : GG) (b0 : Nat) (ks : KK) (ad : AD) (T : TT) (P : PP) (hF : FI ks ad P) : vx_Met l yX3_today wsX3_today (rmX 0 0 0 0) (va_Pc [.ref (ad 0 0)] (Ok G b0 (ks, ad, T, P))) (Qr (pI (fun r => r = T 0 0 5) (ks, ad, T, P)) G b0) (Xr (noX) G b0) 0 0 (Wx b0) := by
  refine vx_ofW (cc := cX3_today) (maxL := 1) (ret := (some .int)) (by decide +kernel) rfl ?_
  intro p e s m args below meth c s₁ B hml hto hv
  obtain ⟨rfl, hok⟩ := hv
  have hM : CallFix p m c cX3_today 1 s _ wsX3_today RX3 := ⟨B.exec, B.bytes, hml, findClass_of_methodNamed B.named, atoms_spec (ws := wsX3_today) B.pre⟩
  have hr := B.returns
  have hlk := B.notSynchronized
  have hC := hok.cur
  have hl := lv_entry ([.ref (ad 0 0)]) (n := 1) (Nat.le_of_ble_eq_true rfl)
  rw [lg_entry_eq]
  generalize (lg_sl ([.ref (ad 0 0)]) ++ List.replicate (1 - (lg_sl ([.ref (ad 0 0)])).length) Slot.unset).toArray = ls at hl ⊢
  have hl : lv_has ls 1 [(0, .ref (ad 0 0))] := hl
  refine y_aload_n hM hl 0 rfl rfl dX3_today_0 ?_
  refine y_get hM hC hF.1 rfl rfl (by decide +kernel) 5 ⟨by decide, rfl, rfl, rfl⟩ (by decide +kernel) rfl dX3_today_1 ?_
  exact y_iret hM hr hlk hC ⟨_, rfl, rfl, rfl⟩ (Nat.le_of_ble_eq_true rfl) (Nat.le_of_ble_eq_true rfl) dX3_today_4

set_option maxRecDepth 100000 in
set_option maxHeartbeats 8000000 in
theorem c_setPrice (l : Launch) (hfl : l.stackTraces = false) (G : GG) (b0 : Nat) (ks : KK) (ad : AD) (T : TT) (P : PP) (z v : Int) (hz : inI z) (hv : inI v) (hF : FI ks ad P) (hRK : RK ks ad P) (hRN : RN T) (hDN : DN T) : vx_Met l yX3_setPrice wsX3_setPrice (rmX 7 3 18 104) (va_Pc [.ref (ad 0 0), .int (iI (z)), .int (iI (v))] (Ok G b0 (ks, ad, T, P))) (Qr (pI (fun r => r = valT T z.toNat (T 0 0 5) ∧ 0 ≤ z ∧ z < 5 ∧ 100 ≤ v ∧ v ≤ 10000 ∧ (T 7 z.toNat (T 6 z.toNat 2).toNat = T 0 0 5 ∨ T 6 z.toNat 2 < 60)) (ks, ad, putT T z.toNat (T 0 0 5) v, P)) G b0) (Xr (pX (fun x => (x = 1 ∧ (z < 0 ∨ 5 ≤ z ∨ v < 100 ∨ 10000 < v)) ∨ (x = 2 ∧ 0 ≤ z ∧ z < 5 ∧ 100 ≤ v ∧ v ≤ 10000 ∧ T 7 z.toNat (T 6 z.toNat 2).toNat ≠ T 0 0 5 ∧ 60 ≤ T 6 z.toNat 2)) (ks, ad, T, P)) G b0) 3 18 (Wx b0) := by
  refine vx_ofW (cc := cX3_setPrice) (maxL := 5) (ret := (some .int)) (by decide +kernel) rfl ?_
  intro p e s m args below meth c s₁ B hml hto hv
  obtain ⟨rfl, hok⟩ := hv
  have hM : CallFix p m c cX3_setPrice 5 s _ wsX3_setPrice RX3 := ⟨B.exec, B.bytes, hml, findClass_of_methodNamed B.named, atoms_spec (ws := wsX3_setPrice) B.pre⟩
  have hr := B.returns
  have hlk := B.notSynchronized
  have hC := hok.cur
  have hl := lv_entry ([.ref (ad 0 0), .int (iI (z)), .int (iI (v))]) (n := 5) (Nat.le_of_ble_eq_true rfl)
  rw [lg_entry_eq]
  generalize (lg_sl ([.ref (ad 0 0), .int (iI (z)), .int (iI (v))]) ++ List.replicate (5 - (lg_sl ([.ref (ad 0 0), .int (iI (z)), .int (iI (v))])).length) Slot.unset).toArray = ls at hl ⊢
  have hl : lv_has ls 5 [(0, .ref (ad 0 0)), (1, .int (iI (z))), (2, .int (iI (v)))] := hl
  obtain ⟨hd0, hd1, hd2, hd3⟩ := id hDN
  refine y_aload_n hM hl 0 rfl rfl dX3_setPrice_0 ?_
  refine y_iload_n hM hl 1 rfl rfl dX3_setPrice_1 ?_
  refine y_callV hM hC (c_priceRowOf l hfl G b0 ks ad T P (z) (by constructor <;> omega) hF hRK) (cwV 1 hM.2.2.2.2 gX3_setPrice_X3_priceRowOf rfl rfl rfl (by decide +kernel) ⟨(Nat.le_of_ble_eq_true rfl), (Nat.le_of_ble_eq_true rfl)⟩) (y_recv hC hF.1 rfl rfl) rfl hl.1 rfl (Nat.le_of_ble_eq_true rfl) dX3_setPrice_2 ⟨(Nat.le_of_ble_eq_true rfl), (Nat.le_of_ble_eq_true rfl)⟩ (fun E ce q9 u1 H locs hx hC hce hcv hcl => by
      obtain ⟨x, rfl, hx, hu⟩ := hx; rw [hu] at hC; clear hu; try dsimp only at hx
      exact y_out hto hlk hC hce hcv hcl ⟨x, rfl, (by (try dsimp only); omega), rfl⟩ (Nat.le_of_ble_eq_true rfl) (Nat.le_of_ble_eq_true rfl)) (fun v u1 H locs hp hC => ?_)
  obtain ⟨rfl, h_2, hu⟩ := hp; rw [hu] at hC; clear hu
  try dsimp only at h_2
  refine W.eq (g2 := F0 m 5 ls [.ref (ad 6 (z).toNat)]) rfl ?_
  refine lv_astore_n (lv' := [(3, .ref (ad 6 (z).toNat)), (0, .ref (ad 0 0)), (1, .int (iI (z))), (2, .int (iI (v)))]) hM.1 hM.2.1 dX3_setPrice_5 rfl hl (by decide) rfl (fun ls hl => ?_)
  refine y_iload_n hM hl 3 rfl rfl dX3_setPrice_6 ?_
  refine y_callS hM hC (c_checkPrice l hfl G b0 (ks, ad, T, P) (v) (by constructor <;> omega)) (va_cwS 1 hM.2.2.2.2 gX3_setPrice_X3_checkPrice rfl rfl rfl (by decide +kernel) ⟨(Nat.le_of_ble_eq_true rfl), (Nat.le_of_ble_eq_true rfl)⟩) rfl hl.1 rfl (Nat.le_of_ble_eq_true rfl) dX3_setPrice_7 ⟨(Nat.le_of_ble_eq_true rfl), (Nat.le_of_ble_eq_true rfl)⟩ (fun E ce q9 u1 H locs hx hC hce hcv hcl => by
      obtain ⟨x, rfl, hx, hu⟩ := hx; rw [hu] at hC; clear hu; try dsimp only at hx
      exact y_out hto hlk hC hce hcv hcl ⟨x, rfl, (by (try dsimp only); omega), rfl⟩ (Nat.le_of_ble_eq_true rfl) (Nat.le_of_ble_eq_true rfl)) (fun v u1 H locs hp hC => ?_)
  obtain ⟨rfl, h_7, hu⟩ := hp; rw [hu] at hC; clear hu
  try dsimp only at h_7
  refine W.eq (g2 := F0 m 10 ls []) rfl ?_
  refine y_aload_n hM hl 0 rfl rfl dX3_setPrice_10 ?_
  refine y_aload_n hM hl 1 rfl rfl dX3_setPrice_11 ?_
  refine y_get hM hC hF.1 rfl rfl (by decide +kernel) 5 ⟨by decide, rfl, rfl, rfl⟩ (by decide +kernel) rfl dX3_setPrice_12 ?_
  refine y_callV hM hC (c_valueOn l hfl G b0 ks ad T P (z).toNat (by omega) hRK hRN (T 0 0 5) (by constructor <;> omega)) (cwV 1 hM.2.2.2.2 gX3_setPrice_X1_valueOn rfl rfl rfl (by decide +kernel) ⟨(Nat.le_of_ble_eq_true rfl), (Nat.le_of_ble_eq_true rfl)⟩) (y_recv hC (hRK _ (by omega)).1 rfl rfl) rfl hl.1 rfl (Nat.le_of_ble_eq_true rfl) dX3_setPrice_15 ⟨(Nat.le_of_ble_eq_true rfl), (Nat.le_of_ble_eq_true rfl)⟩ (fun E ce q9 u1 H locs hx hC hce hcv hcl => hx.elim) (fun v u1 H locs hp hC => ?_)
  obtain ⟨r_15, rfl, h_15, hu⟩ := hp; rw [hu] at hC; clear hu
  try dsimp only at h_15
  refine W.eq (g2 := F0 m 18 ls [.int (iI (r_15))]) rfl ?_
  refine lv_istore (lv' := [(4, .int (iI (r_15))), (3, .ref (ad 6 (z).toNat)), (0, .ref (ad 0 0)), (1, .int (iI (z))), (2, .int (iI (v)))]) hM.1 hM.2.1 dX3_setPrice_18 hl (by decide) rfl (fun ls hl => ?_)
  refine y_aload_n hM hl 1 rfl rfl dX3_setPrice_20 ?_
  refine y_aload_n hM hl 2 rfl rfl dX3_setPrice_21 ?_
  refine y_get hM hC hF.1 rfl rfl (by decide +kernel) 5 ⟨by decide, rfl, rfl, rfl⟩ (by decide +kernel) rfl dX3_setPrice_22 ?_
  refine y_iload_n hM hl 4 rfl rfl dX3_setPrice_25 ?_
  refine y_callV hM hC (c_put l hfl G b0 ks ad T P (z).toNat (by omega) hRK hRN (T 0 0 5) (v) (by constructor <;> omega)) (cwV 2 hM.2.2.2.2 gX3_setPrice_X1_put rfl rfl rfl (by decide +kernel) ⟨(Nat.le_of_ble_eq_true rfl), (Nat.le_of_ble_eq_true rfl)⟩) (y_recv hC (hRK _ (by omega)).1 rfl rfl) rfl hl.1 rfl (Nat.le_of_ble_eq_true rfl) dX3_setPrice_26 ⟨(Nat.le_of_ble_eq_true rfl), (Nat.le_of_ble_eq_true rfl)⟩ (fun E ce q9 u1 H locs hx hC hce hcv hcl => hx.elim) (fun v u1 H locs hp hC => ?_)
  obtain ⟨r_26, rfl, h_26, hu⟩ := hp; rw [hu] at hC; clear hu
  try dsimp only at h_26
  refine W.eq (g2 := F0 m 29 ls [.int (iI (r_26))]) rfl ?_
  refine y_if_ne hM (by constructor <;> omega) (tgt := 42) dX3_setPrice_29 (by decide) (fun c_29 => ?_) (fun c_29 => ?_)
  ·
    refine y_iload hM hl 0 rfl dX3_setPrice_42 ?_
    exact y_iret hM hr hlk hC ⟨_, rfl, (by (try dsimp only); omega), rfl⟩ (Nat.le_of_ble_eq_true rfl) (Nat.le_of_ble_eq_true rfl) dX3_setPrice_44
  ·
    exact y_throw hM hto hfl hlk hl.1 hC caS (text := "the provider has had all its prices") (by decide +kernel) ngS goS ⟨(by decide +kernel), (by decide +kernel)⟩ (by decide +kernel) dX3_setPrice_32 dX3_setPrice_35 dX3_setPrice_36 dX3_setPrice_38 dX3_setPrice_41 ⟨(Nat.le_of_ble_eq_true rfl), (Nat.le_of_ble_eq_true rfl), (Nat.le_of_ble_eq_true rfl), (Nat.le_of_ble_eq_true rfl)⟩ ⟨2, rfl, (by (try dsimp only); omega), (by unfold putT; rw [if_neg (by omega), if_pos (by omega)])⟩ (Nat.le_of_ble_eq_true rfl) (Nat.le_of_ble_eq_true rfl)

set_option maxRecDepth 100000 in
set_option maxHeartbeats 8000000 in
theorem c_price (l : Launch) (hfl : l.stackTraces = false) (G : GG) (b0 : Nat) (ks : KK) (ad : AD) (T : TT) (P : PP) (z dd : Int) (hz : inI z) (hd : inI dd) (hF : FI ks ad P) (hRK : RK ks ad P) (hRN : RN T) (hDN : DN T) : vx_Met l yX3_price wsX3_price (rmX 7 2 12 104) (va_Pc [.ref (ad 0 0), .int (iI (z)), .int (iI (dd))] (Ok G b0 (ks, ad, T, P))) (Qr (pI (fun r => r = valT T z.toNat dd ∧ 0 ≤ z ∧ z < 5 ∧ 0 ≤ dd ∧ dd ≤ T 0 0 5) (ks, ad, T, P)) G b0) (Xr (pX (fun x => x = 1 ∧ (z < 0 ∨ 5 ≤ z ∨ dd < 0 ∨ T 0 0 5 < dd)) (ks, ad, T, P)) G b0) 2 12 (Wx b0) := by
  refine vx_ofW (cc := cX3_price) (maxL := 4) (ret := (some .int)) (by decide +kernel) rfl ?_
  intro p e s m args below meth c s₁ B hml hto hv
  obtain ⟨rfl, hok⟩ := hv
  have hM : CallFix p m c cX3_price 4 s _ wsX3_price RX3 := ⟨B.exec, B.bytes, hml, findClass_of_methodNamed B.named, atoms_spec (ws := wsX3_price) B.pre⟩
  have hr := B.returns
  have hlk := B.notSynchronized
  have hC := hok.cur
  have hl := lv_entry ([.ref (ad 0 0), .int (iI (z)), .int (iI (dd))]) (n := 4) (Nat.le_of_ble_eq_true rfl)
  rw [lg_entry_eq]
  generalize (lg_sl ([.ref (ad 0 0), .int (iI (z)), .int (iI (dd))]) ++ List.replicate (4 - (lg_sl ([.ref (ad 0 0), .int (iI (z)), .int (iI (dd))])).length) Slot.unset).toArray = ls at hl ⊢
  have hl : lv_has ls 4 [(0, .ref (ad 0 0)), (1, .int (iI (z))), (2, .int (iI (dd)))] := hl
  obtain ⟨hd0, hd1, hd2, hd3⟩ := id hDN
  refine y_aload_n hM hl 0 rfl rfl dX3_price_0 ?_
  refine y_iload_n hM hl 1 rfl rfl dX3_price_1 ?_
  refine y_callV hM hC (c_priceRowOf l hfl G b0 ks ad T P (z) (by constructor <;> omega) hF hRK) (cwV 1 hM.2.2.2.2 gX3_price_X3_priceRowOf rfl rfl rfl (by decide +kernel) ⟨(Nat.le_of_ble_eq_true rfl), (Nat.le_of_ble_eq_true rfl)⟩) (y_recv hC hF.1 rfl rfl) rfl hl.1 rfl (Nat.le_of_ble_eq_true rfl) dX3_price_2 ⟨(Nat.le_of_ble_eq_true rfl), (Nat.le_of_ble_eq_true rfl)⟩ (fun E ce q9 u1 H locs hx hC hce hcv hcl => by
      obtain ⟨x, rfl, hx, hu⟩ := hx; rw [hu] at hC; clear hu; try dsimp only at hx
      exact y_out hto hlk hC hce hcv hcl ⟨x, rfl, (by (try dsimp only); omega), rfl⟩ (Nat.le_of_ble_eq_true rfl) (Nat.le_of_ble_eq_true rfl)) (fun v u1 H locs hp hC => ?_)
  obtain ⟨rfl, h_2, hu⟩ := hp; rw [hu] at hC; clear hu
  try dsimp only at h_2
  refine W.eq (g2 := F0 m 5 ls [.ref (ad 6 (z).toNat)]) rfl ?_
  refine lv_astore_n (lv' := [(3, .ref (ad 6 (z).toNat)), (0, .ref (ad 0 0)), (1, .int (iI (z))), (2, .int (iI (dd)))]) hM.1 hM.2.1 dX3_price_5 rfl hl (by decide) rfl (fun ls hl => ?_)
  refine y_iload_n hM hl 3 rfl rfl dX3_price_6 ?_
  refine y_iconst hM dX3_price_7 ?_
  refine y_aload_n hM hl 1 rfl rfl dX3_price_8 ?_
  refine y_get hM hC hF.1 rfl rfl (by decide +kernel) 5 ⟨by decide, rfl, rfl, rfl⟩ (by decide +kernel) rfl dX3_price_9 ?_
  refine y_callS hM hC (c_isOutside l hfl G b0 (ks, ad, T, P) (dd) (0) (T 0 0 5) (by constructor <;> omega) (by constructor <;> omega) (by constructor <;> omega)) (va_cwS 3 hM.2.2.2.2 gX3_price_X3_isOutside rfl rfl rfl (by decide +kernel) ⟨(Nat.le_of_ble_eq_true rfl), (Nat.le_of_ble_eq_true rfl)⟩) rfl hl.1 rfl (Nat.le_of_ble_eq_true rfl) dX3_price_12 ⟨(Nat.le_of_ble_eq_true rfl), (Nat.le_of_ble_eq_true rfl)⟩ (fun E ce q9 u1 H locs hx hC hce hcv hcl => hx.elim) (fun v u1 H locs hp hC => ?_)
  obtain ⟨r_12, rfl, h_12, hu⟩ := hp; rw [hu] at hC; clear hu
  try dsimp only at h_12
  refine W.eq (g2 := F0 m 15 ls [.int (iI (r_12))]) rfl ?_
  refine y_if_eq hM (by constructor <;> omega) (tgt := 28) dX3_price_15 (by decide) (fun c_15 => ?_) (fun c_15 => ?_)
  ·
    refine y_aload_n hM hl 0 rfl rfl dX3_price_28 ?_
    refine y_iload_n hM hl 3 rfl rfl dX3_price_29 ?_
    refine y_callV hM hC (c_valueOn l hfl G b0 ks ad T P (z).toNat (by omega) hRK hRN (dd) (by constructor <;> omega)) (cwV 1 hM.2.2.2.2 gX3_price_X1_valueOn rfl rfl rfl (by decide +kernel) ⟨(Nat.le_of_ble_eq_true rfl), (Nat.le_of_ble_eq_true rfl)⟩) (y_recv hC (hRK _ (by omega)).1 rfl rfl) rfl hl.1 rfl (Nat.le_of_ble_eq_true rfl) dX3_price_30 ⟨(Nat.le_of_ble_eq_true rfl), (Nat.le_of_ble_eq_true rfl)⟩ (fun E ce q9 u1 H locs hx hC hce hcv hcl => hx.elim) (fun v u1 H locs hp hC => ?_)
    obtain ⟨r_30, rfl, h_30, hu⟩ := hp; rw [hu] at hC; clear hu
    try dsimp only at h_30
    refine W.eq (g2 := F0 m 33 ls [.int (iI (r_30))]) rfl ?_
    exact y_iret hM hr hlk hC ⟨_, rfl, (by (try dsimp only); omega), rfl⟩ (Nat.le_of_ble_eq_true rfl) (Nat.le_of_ble_eq_true rfl) dX3_price_33
  ·
    exact y_throw hM hto hfl hlk hl.1 hC caA (text := "day out of range") (by decide +kernel) ngA goA ⟨(by decide +kernel), (by decide +kernel)⟩ (by decide +kernel) dX3_price_18 dX3_price_21 dX3_price_22 dX3_price_24 dX3_price_27 ⟨(Nat.le_of_ble_eq_true rfl), (Nat.le_of_ble_eq_true rfl), (Nat.le_of_ble_eq_true rfl), (Nat.le_of_ble_eq_true rfl)⟩ ⟨1, rfl, (by (try dsimp only); omega), rfl⟩ (Nat.le_of_ble_eq_true rfl) (Nat.le_of_ble_eq_true rfl)

set_option maxRecDepth 100000 in
set_option maxHeartbeats 8000000 in
theorem c_setDefault (l : Launch) (hfl : l.stackTraces = false) (G : GG) (b0 : Nat) (ks : KK) (ad : AD) (T : TT) (P : PP) (z : Int) (hz : inI z) (hF : FI ks ad P) (hDN : DN T) : vx_Met l yX3_setDefault wsX3_setDefault (rmX 7 1 6 102) (va_Pc [.ref (ad 0 0), .int (iI (z))] (Ok G b0 (ks, ad, T, P))) (Qr (pI (fun r => r = T 0 0 6 ∧ 100 ≤ z ∧ z ≤ 10000) (ks, ad, up T 0 0 6 z, P)) G b0) (Xr (pX (fun x => x = 1 ∧ (z < 100 ∨ 10000 < z)) (ks, ad, T, P)) G b0) 1 6 (Wx b0) := by
  refine vx_ofW (cc := cX3_setDefault) (maxL := 3) (ret := (some .int)) (by decide +kernel) rfl ?_
  intro p e s m args below meth c s₁ B hml hto hv
  obtain ⟨rfl, hok⟩ := hv
  have hM : CallFix p m c cX3_setDefault 3 s _ wsX3_setDefault RX3 := ⟨B.exec, B.bytes, hml, findClass_of_methodNamed B.named, atoms_spec (ws := wsX3_setDefault) B.pre⟩
  have hr := B.returns
  have hlk := B.notSynchronized
  have hC := hok.cur
  have hl := lv_entry ([.ref (ad 0 0), .int (iI (z))]) (n := 3) (Nat.le_of_ble_eq_true rfl)
  rw [lg_entry_eq]
  generalize (lg_sl ([.ref (ad 0 0), .int (iI (z))]) ++ List.replicate (3 - (lg_sl ([.ref (ad 0 0), .int (iI (z))])).length) Slot.unset).toArray = ls at hl ⊢
  have hl : lv_has ls 3 [(0, .ref (ad 0 0)), (1, .int (iI (z)))] := hl
  refine y_iload_n hM hl 1 rfl rfl dX3_setDefault_0 ?_
  refine y_callS hM hC (c_checkPrice l hfl G b0 (ks, ad, T, P) (z) (by constructor <;> omega)) (va_cwS 1 hM.2.2.2.2 gX3_setDefault_X3_checkPrice rfl rfl rfl (by decide +kernel) ⟨(Nat.le_of_ble_eq_true rfl), (Nat.le_of_ble_eq_true rfl)⟩) rfl hl.1 rfl (Nat.le_of_ble_eq_true rfl) dX3_setDefault_1 ⟨(Nat.le_of_ble_eq_true rfl), (Nat.le_of_ble_eq_true rfl)⟩ (fun E ce q9 u1 H locs hx hC hce hcv hcl => by
      obtain ⟨x, rfl, hx, hu⟩ := hx; rw [hu] at hC; clear hu; try dsimp only at hx
      exact y_out hto hlk hC hce hcv hcl ⟨x, rfl, (by (try dsimp only); omega), rfl⟩ (Nat.le_of_ble_eq_true rfl) (Nat.le_of_ble_eq_true rfl)) (fun v u1 H locs hp hC => ?_)
  obtain ⟨rfl, h_1, hu⟩ := hp; rw [hu] at hC; clear hu
  try dsimp only at h_1
  refine W.eq (g2 := F0 m 4 ls []) rfl ?_
  refine y_aload_n hM hl 0 rfl rfl dX3_setDefault_4 ?_
  refine y_get hM hC hF.1 rfl rfl (by decide +kernel) 6 ⟨by decide, rfl, rfl, rfl⟩ (by decide +kernel) rfl dX3_setDefault_5 ?_
  refine lv_istore_n (lv' := [(2, .int (iI (T 0 0 6))), (0, .ref (ad 0 0)), (1, .int (iI (z)))]) hM.1 hM.2.1 dX3_setDefault_8 rfl hl (by decide) rfl (fun ls hl => ?_)
  refine y_aload_n hM hl 1 rfl rfl dX3_setDefault_9 ?_
  refine y_iload_n hM hl 2 rfl rfl dX3_setDefault_10 ?_
  refine y_put hM hC hF.1 rfl rfl (by decide +kernel) tyX3 tyX3_ok nmX3 6 ⟨by decide, rfl, rfl, rfl, rfl⟩ (by decide +kernel) (ty := .int) (by decide +kernel) rfl rfl (Nat.le_of_ble_eq_true rfl) (T' := (up T 0 0 6 (z))) (P' := P) (cF_up rfl) (fun _ _ h => up_ne h) (fun _ _ _ => rfl) dX3_setDefault_11 (fun H locs hC => ?_)
  refine y_iload_n hM hl 0 rfl rfl dX3_setDefault_14 ?_
  exact y_iret hM hr hlk hC ⟨_, rfl, (by (try dsimp only); omega), rfl⟩ (Nat.le_of_ble_eq_true rfl) (Nat.le_of_ble_eq_true rfl) dX3_setDefault_15

set_option maxRecDepth 100000 in
set_option maxHeartbeats 8000000 in
theorem c_pay (l : Launch) (hfl : l.stackTraces = false) (G : GG) (b0 : Nat) (ks : KK) (ad : AD) (T : TT) (P : PP) (z v : Int) (hz : inI z) (hv : inI v) (hF : FI ks ad P) (hSK : SK ks ad T P) (hSN : SN T) (hRK : RK ks ad P) (hRN : RN T) (hDN : DN T) : vx_Met l yX3_pay wsX3_pay (rmX 8 3 18 125) (va_Pc [.ref (ad 0 0), .int (iI (z)), .int (iI (v))] (Ok G b0 (ks, ad, T, P))) (Qr (pI (fun r => r = thF v (valT T (T 10 z.toNat 0).toNat (T 0 0 5)) ∧ 0 ≤ z ∧ z < T 0 0 7 ∧ 1 ≤ v ∧ v ≤ 1000000 ∧ T 10 z.toNat 2 = 0 ∧ T 10 z.toNat 1 + thF v (valT T (T 10 z.toNat 0).toNat (T 0 0 5)) ≤ 100000000) (ks, ad, up T 10 z.toNat 1 (T 10 z.toNat 1 + thF v (valT T (T 10 z.toNat 0).toNat (T 0 0 5))), P)) G b0) (Xr (pX (fun x => (x = 3 ∧ (z < 0 ∨ T 0 0 7 ≤ z)) ∨ (x = 1 ∧ 0 ≤ z ∧ z < T 0 0 7 ∧ (v < 1 ∨ 1000000 < v)) ∨ (x = 2 ∧ 0 ≤ z ∧ z < T 0 0 7 ∧ 1 ≤ v ∧ v ≤ 1000000 ∧ (T 10 z.toNat 2 ≠ 0 ∨ 100000000 < T 10 z.toNat 1 + thF v (valT T (T 10 z.toNat 0).toNat (T 0 0 5))))) (ks, ad, T, P)) G b0) 3 18 (Wx b0) := by
  refine vx_ofW (cc := cX3_pay) (maxL := 6) (ret := (some .int)) (by decide +kernel) rfl ?_
  intro p e s m args below meth c s₁ B hml hto hv
  obtain ⟨rfl, hok⟩ := hv
  have hM : CallFix p m c cX3_pay 6 s _ wsX3_pay RX3 := ⟨B.exec, B.bytes, hml, findClass_of_methodNamed B.named, atoms_spec (ws := wsX3_pay) B.pre⟩
  have hr := B.returns
  have hlk := B.notSynchronized
  have hC := hok.cur
  have hl := lv_entry ([.ref (ad 0 0), .int (iI (z)), .int (iI (v))]) (n := 6) (Nat.le_of_ble_eq_true rfl)
  rw [lg_entry_eq]
  generalize (lg_sl ([.ref (ad 0 0), .int (iI (z)), .int (iI (v))]) ++ List.replicate (6 - (lg_sl ([.ref (ad 0 0), .int (iI (z)), .int (iI (v))])).length) Slot.unset).toArray = ls at hl ⊢
  have hl : lv_has ls 6 [(0, .ref (ad 0 0)), (1, .int (iI (z))), (2, .int (iI (v)))] := hl
  obtain ⟨hd0, hd1, hd2, hd3⟩ := id hDN
  refine y_aload_n hM hl 0 rfl rfl dX3_pay_0 ?_
  refine y_iload_n hM hl 1 rfl rfl dX3_pay_1 ?_
  refine y_callV hM hC (c_saverAt l hfl G b0 ks ad T P (z) (by constructor <;> omega) hF hSK) (cwV 1 hM.2.2.2.2 gX3_pay_X3_saverAt rfl rfl rfl (by decide +kernel) ⟨(Nat.le_of_ble_eq_true rfl), (Nat.le_of_ble_eq_true rfl)⟩) (y_recv hC hF.1 rfl rfl) rfl hl.1 rfl (Nat.le_of_ble_eq_true rfl) dX3_pay_2 ⟨(Nat.le_of_ble_eq_true rfl), (Nat.le_of_ble_eq_true rfl)⟩ (fun E ce q9 u1 H locs hx hC hce hcv hcl => by
      obtain ⟨x, rfl, hx, hu⟩ := hx; rw [hu] at hC; clear hu; try dsimp only at hx
      exact y_out hto hlk hC hce hcv hcl ⟨x, rfl, (by (try dsimp only); omega), rfl⟩ (Nat.le_of_ble_eq_true rfl) (Nat.le_of_ble_eq_true rfl)) (fun v u1 H locs hp hC => ?_)
  obtain ⟨rfl, h_2, hu⟩ := hp; rw [hu] at hC; clear hu
  try dsimp only at h_2
  refine W.eq (g2 := F0 m 5 ls [.ref (ad 10 (z).toNat)]) rfl ?_
  have hs := hSN z.toNat (by omega)
  refine lv_astore_n (lv' := [(3, .ref (ad 10 (z).toNat)), (0, .ref (ad 0 0)), (1, .int (iI (z))), (2, .int (iI (v)))]) hM.1 hM.2.1 dX3_pay_5 rfl hl (by decide) rfl (fun ls hl => ?_)
  refine y_iload_n hM hl 3 rfl rfl dX3_pay_6 ?_
  refine y_iconst hM dX3_pay_7 ?_
  refine y_ldc hM (v := 1000000) (1000000) (by decide) (by decide +kernel) dX3_pay_8 ?_
  refine y_callS hM hC (c_isOutside l hfl G b0 (ks, ad, T, P) (v) (1) (1000000) (by constructor <;> omega) (by constructor <;> omega) (by constructor <;> omega)) (va_cwS 3 hM.2.2.2.2 gX3_pay_X3_isOutside rfl rfl rfl (by decide +kernel) ⟨(Nat.le_of_ble_eq_true rfl), (Nat.le_of_ble_eq_true rfl)⟩) rfl hl.1 rfl (Nat.le_of_ble_eq_true rfl) dX3_pay_10 ⟨(Nat.le_of_ble_eq_true rfl), (Nat.le_of_ble_eq_true rfl)⟩ (fun E ce q9 u1 H locs hx hC hce hcv hcl => hx.elim) (fun v u1 H locs hp hC => ?_)
  obtain ⟨r_10, rfl, h_10, hu⟩ := hp; rw [hu] at hC; clear hu
  try dsimp only at h_10
  refine W.eq (g2 := F0 m 13 ls [.int (iI (r_10))]) rfl ?_
  refine y_if_eq hM (by constructor <;> omega) (tgt := 26) dX3_pay_13 (by decide) (fun c_13 => ?_) (fun c_13 => ?_)
  ·
    refine y_aload_n hM hl 0 rfl rfl dX3_pay_26 ?_
    refine y_getN hM hC (hSK.2.2.2 _ (by omega)) rfl rfl (by decide +kernel) 2 2 ⟨by decide, rfl, rfl, rfl⟩ (by decide +kernel) rfl dX3_pay_27 ?_
    refine y_if_eq hM (by constructor <;> omega) (tgt := 43) dX3_pay_30 (by decide) (fun c_30 => ?_) (fun c_30 => ?_)
    ·
      refine y_iload_n hM hl 3 rfl rfl dX3_pay_43 ?_
      refine y_i2l hM (by constructor <;> omega) dX3_pay_44 ?_
      refine y_aload_n hM hl 1 rfl rfl dX3_pay_45 ?_
      refine y_aload_n hM hl 0 rfl rfl dX3_pay_46 ?_
      refine y_getN hM hC (hSK.2.2.2 _ (by omega)) rfl rfl (by decide +kernel) 0 0 ⟨by decide, rfl, rfl, rfl⟩ (by decide +kernel) rfl dX3_pay_47 ?_
      refine y_callV hM hC (c_priceNow l hfl G b0 ks ad T P (T 10 (z).toNat 0) ⟨by omega, by omega⟩ hF hRK hRN hDN) (cwV 1 hM.2.2.2.2 gX3_pay_X3_priceNow rfl rfl rfl (by decide +kernel) ⟨(Nat.le_of_ble_eq_true rfl), (Nat.le_of_ble_eq_true rfl)⟩) (y_recv hC hF.1 rfl rfl) rfl hl.1 rfl (Nat.le_of_ble_eq_true rfl) dX3_pay_50 ⟨(Nat.le_of_ble_eq_true rfl), (Nat.le_of_ble_eq_true rfl)⟩ (fun E ce q9 u1 H locs hx hC hce hcv hcl => hx.elim) (fun v u1 H locs hp hC => ?_)
      obtain ⟨r_50, rfl, h_50, hu⟩ := hp; rw [hu] at hC; clear hu
      try dsimp only at h_50
      refine W.eq (g2 := F0 m 53 ls [.int (iI (r_50)), .long (lI (v))]) rfl ?_
      have hv_50 := valT_in hRN (p := (T 10 z.toNat 0).toNat) (by omega) (T 0 0 5)
      refine y_callS hM hC (c_thousandthsFor l hfl G b0 (ks, ad, T, P) (v) (r_50) ⟨by omega, by omega⟩ ⟨by omega, by omega⟩) (va_cwS 2 hM.2.2.2.2 gX3_pay_X3_thousandthsFor rfl rfl rfl (by decide +kernel) ⟨(Nat.le_of_ble_eq_true rfl), (Nat.le_of_ble_eq_true rfl)⟩) rfl hl.1 rfl (Nat.le_of_ble_eq_true rfl) dX3_pay_53 ⟨(Nat.le_of_ble_eq_true rfl), (Nat.le_of_ble_eq_true rfl)⟩ (fun E ce q9 u1 H locs hx hC hce hcv hcl => hx.elim) (fun v u1 H locs hp hC => ?_)
      obtain ⟨r_53, rfl, h_53, hu⟩ := hp; rw [hu] at hC; clear hu
      try dsimp only at h_53
      refine W.eq (g2 := F0 m 56 ls [.long (lI (r_53))]) rfl ?_
      have hn_53 := thF_nn (m := v) (pr := r_50) (by omega) (by omega)
      have hl_53 := thF_le (m := v) (pr := r_50) (by omega) (by omega)
      refine lv_lstore (lv' := [(4, .long (lI (r_53))), (3, .ref (ad 10 (z).toNat)), (0, .ref (ad 0 0)), (1, .int (iI (z))), (2, .int (iI (v)))]) hM.1 hM.2.1 dX3_pay_56 hl (by decide) rfl (fun ls hl => ?_)
      refine y_aload_n hM hl 1 rfl rfl dX3_pay_58 ?_
      refine y_getN hM hC (hSK.2.2.2 _ (by omega)) rfl rfl (by decide +kernel) 1 1 ⟨by decide, rfl, rfl, rfl⟩ (by decide +kernel) rfl dX3_pay_59 ?_
      refine y_lload hM hl 0 rfl dX3_pay_62 ?_
      refine y_ladd hM dX3_pay_64 ?_
      refine y_callS hM hC (c_checkHolding l hfl G b0 (ks, ad, T, P) ((T 10 (z).toNat 1) + (r_53)) (by constructor <;> omega)) (va_cwS 1 hM.2.2.2.2 gX3_pay_X3_checkHolding rfl rfl rfl (by decide +kernel) ⟨(Nat.le_of_ble_eq_true rfl), (Nat.le_of_ble_eq_true rfl)⟩) rfl hl.1 rfl (Nat.le_of_ble_eq_true rfl) dX3_pay_65 ⟨(Nat.le_of_ble_eq_true rfl), (Nat.le_of_ble_eq_true rfl)⟩ (fun E ce q9 u1 H locs hx hC hce hcv hcl => by
          obtain ⟨x, rfl, hx, hu⟩ := hx; rw [hu] at hC; clear hu; try dsimp only at hx
          exact y_out hto hlk hC hce hcv hcl ⟨x, rfl, (by (try dsimp only); rw [← h_50, ← h_53]; omega), rfl⟩ (Nat.le_of_ble_eq_true rfl) (Nat.le_of_ble_eq_true rfl)) (fun v u1 H locs hp hC => ?_)
      obtain ⟨rfl, h_65, hu⟩ := hp; rw [hu] at hC; clear hu
      try dsimp only at h_65
      refine W.eq (g2 := F0 m 68 ls []) rfl ?_
      refine y_aload_n hM hl 1 rfl rfl dX3_pay_68 ?_
      refine lv_dup hM.1 hM.2.1 dX3_pay_69 rfl ?_
      refine y_getN hM hC (hSK.2.2.2 _ (by omega)) rfl rfl (by decide +kernel) 1 1 ⟨by decide, rfl, rfl, rfl⟩ (by decide +kernel) rfl dX3_pay_70 ?_
      refine y_lload hM hl 0 rfl dX3_pay_73 ?_
      refine y_ladd hM dX3_pay_75 ?_
      refine y_putN hM hC (hSK.2.2.2 _ (by omega)) rfl rfl (by decide +kernel) tyX2 tyX2_ok nmX2 1 1 ⟨by decide, rfl, rfl, rfl, rfl⟩ (by decide +kernel) (ty := .long) (by decide +kernel) rfl rfl (Nat.le_of_ble_eq_true rfl) (T' := (up T 10 (z).toNat 1 ((T 10 (z).toNat 1) + (r_53)))) (P' := P) (cF_up rfl) (fun _ _ h => up_ne h) (fun _ _ _ => rfl) dX3_pay_76 (fun H locs hC => ?_)
      refine y_lload hM hl 0 rfl dX3_pay_79 ?_
      refine y_l2i hM dX3_pay_81 ?_
      exact y_iret hM hr hlk hC ⟨_, rfl, (by (try dsimp only); rw [← h_50, ← h_53]; omega), (by rw [← h_50, ← h_53])⟩ (Nat.le_of_ble_eq_true rfl) (Nat.le_of_ble_eq_true rfl) dX3_pay_82
    ·
      exact y_throw hM hto hfl hlk hl.1 hC caS (text := "an order of the saver goes on") (by decide +kernel) ngS goS ⟨(by decide +kernel), (by decide +kernel)⟩ (by decide +kernel) dX3_pay_33 dX3_pay_36 dX3_pay_37 dX3_pay_39 dX3_pay_42 ⟨(Nat.le_of_ble_eq_true rfl), (Nat.le_of_ble_eq_true rfl), (Nat.le_of_ble_eq_true rfl), (Nat.le_of_ble_eq_true rfl)⟩ ⟨2, rfl, (by (try dsimp only); omega), rfl⟩ (Nat.le_of_ble_eq_true rfl) (Nat.le_of_ble_eq_true rfl)
  ·
    exact y_throw hM hto hfl hlk hl.1 hC caA (text := "money out of range") (by decide +kernel) ngA goA ⟨(by decide +kernel), (by decide +kernel)⟩ (by decide +kernel) dX3_pay_16 dX3_pay_19 dX3_pay_20 dX3_pay_22 dX3_pay_25 ⟨(Nat.le_of_ble_eq_true rfl), (Nat.le_of_ble_eq_true rfl), (Nat.le_of_ble_eq_true rfl), (Nat.le_of_ble_eq_true rfl)⟩ ⟨1, rfl, (by (try dsimp only); omega), rfl⟩ (Nat.le_of_ble_eq_true rfl) (Nat.le_of_ble_eq_true rfl)

set_option maxRecDepth 100000 in
set_option maxHeartbeats 8000000 in
theorem c_units (l : Launch) (hfl : l.stackTraces = false) (G : GG) (b0 : Nat) (ks : KK) (ad : AD) (T : TT) (P : PP) (z : Int) (hz : inI z) (hF : FI ks ad P) (hSK : SK ks ad T P) (hSN : SN T)  : vx_Met l yX3_units wsX3_units (rmX 7 1 6 104) (va_Pc [.ref (ad 0 0), .int (iI (z))] (Ok G b0 (ks, ad, T, P))) (Qr (pJ (fun r => r = T 10 z.toNat 1 ∧ 0 ≤ z ∧ z < T 0 0 7) (ks, ad, T, P)) G b0) (Xr (pX (fun x => x = 3 ∧ (z < 0 ∨ T 0 0 7 ≤ z)) (ks, ad, T, P)) G b0) 1 6 (Wx b0) := by
  refine vx_ofW (cc := cX3_units) (maxL := 2) (ret := (some .long)) (by decide +kernel) rfl ?_
  intro p e s m args below meth c s₁ B hml hto hv
  obtain ⟨rfl, hok⟩ := hv
  have hM : CallFix p m c cX3_units 2 s _ wsX3_units RX3 := ⟨B.exec, B.bytes, hml, findClass_of_methodNamed B.named, atoms_spec (ws := wsX3_units) B.pre⟩
  have hr := B.returns
  have hlk := B.notSynchronized
  have hC := hok.cur
  have hl := lv_entry ([.ref (ad 0 0), .int (iI (z))]) (n := 2) (Nat.le_of_ble_eq_true rfl)
  rw [lg_entry_eq]
  generalize (lg_sl ([.ref (ad 0 0), .int (iI (z))]) ++ List.replicate (2 - (lg_sl ([.ref (ad 0 0), .int (iI (z))])).length) Slot.unset).toArray = ls at hl ⊢
  have hl : lv_has ls 2 [(0, .ref (ad 0 0)), (1, .int (iI (z)))] := hl
  refine y_aload_n hM hl 0 rfl rfl dX3_units_0 ?_
  refine y_iload_n hM hl 1 rfl rfl dX3_units_1 ?_
  refine y_callV hM hC (c_saverAt l hfl G b0 ks ad T P (z) (by constructor <;> omega) hF hSK) (cwV 1 hM.2.2.2.2 gX3_units_X3_saverAt rfl rfl rfl (by decide +kernel) ⟨(Nat.le_of_ble_eq_true rfl), (Nat.le_of_ble_eq_true rfl)⟩) (y_recv hC hF.1 rfl rfl) rfl hl.1 rfl (Nat.le_of_ble_eq_true rfl) dX3_units_2 ⟨(Nat.le_of_ble_eq_true rfl), (Nat.le_of_ble_eq_true rfl)⟩ (fun E ce q9 u1 H locs hx hC hce hcv hcl => by
      obtain ⟨x, rfl, hx, hu⟩ := hx; rw [hu] at hC; clear hu; try dsimp only at hx
      exact y_out hto hlk hC hce hcv hcl ⟨x, rfl, (by (try dsimp only); omega), rfl⟩ (Nat.le_of_ble_eq_true rfl) (Nat.le_of_ble_eq_true rfl)) (fun v u1 H locs hp hC => ?_)
  obtain ⟨rfl, h_2, hu⟩ := hp; rw [hu] at hC; clear hu
  try dsimp only at h_2
  refine W.eq (g2 := F0 m 5 ls [.ref (ad 10 (z).toNat)]) rfl ?_
  refine y_getN hM hC (hSK.2.2.2 _ (by omega)) rfl rfl (by decide +kernel) 1 1 ⟨by decide, rfl, rfl, rfl⟩ (by decide +kernel) rfl dX3_units_5 ?_
  exact y_lret hM hr hlk hC ⟨_, rfl, (by (try dsimp only); omega), rfl⟩ (Nat.le_of_ble_eq_true rfl) (Nat.le_of_ble_eq_true rfl) dX3_units_8

set_option maxRecDepth 100000 in
set_option maxHeartbeats 8000000 in
theorem c_provider (l : Launch) (hfl : l.stackTraces = false) (G : GG) (b0 : Nat) (ks : KK) (ad : AD) (T : TT) (P : PP) (z : Int) (hz : inI z) (hF : FI ks ad P) (hSK : SK ks ad T P) (hSN : SN T)  : vx_Met l yX3_provider wsX3_provider (rmX 7 1 6 104) (va_Pc [.ref (ad 0 0), .int (iI (z))] (Ok G b0 (ks, ad, T, P))) (Qr (pI (fun r => r = T 10 z.toNat 0 ∧ 0 ≤ z ∧ z < T 0 0 7) (ks, ad, T, P)) G b0) (Xr (pX (fun x => x = 3 ∧ (z < 0 ∨ T 0 0 7 ≤ z)) (ks, ad, T, P)) G b0) 1 6 (Wx b0) := by
  refine vx_ofW (cc := cX3_provider) (maxL := 2) (ret := (some .int)) (by decide +kernel) rfl ?_
  intro p e s m args below meth c s₁ B hml hto hv
  obtain ⟨rfl, hok⟩ := hv
  have hM : CallFix p m c cX3_provider 2 s _ wsX3_provider RX3 := ⟨B.exec, B.bytes, hml, findClass_of_methodNamed B.named, atoms_spec (ws := wsX3_provider) B.pre⟩
  have hr := B.returns
  have hlk := B.notSynchronized
  have hC := hok.cur
  have hl := lv_entry ([.ref (ad 0 0), .int (iI (z))]) (n := 2) (Nat.le_of_ble_eq_true rfl)
  rw [lg_entry_eq]
  generalize (lg_sl ([.ref (ad 0 0), .int (iI (z))]) ++ List.replicate (2 - (lg_sl ([.ref (ad 0 0), .int (iI (z))])).length) Slot.unset).toArray = ls at hl ⊢
  have hl : lv_has ls 2 [(0, .ref (ad 0 0)), (1, .int (iI (z)))] := hl
  refine y_aload_n hM hl 0 rfl rfl dX3_provider_0 ?_
  refine y_iload_n hM hl 1 rfl rfl dX3_provider_1 ?_
  refine y_callV hM hC (c_saverAt l hfl G b0 ks ad T P (z) (by constructor <;> omega) hF hSK) (cwV 1 hM.2.2.2.2 gX3_provider_X3_saverAt rfl rfl rfl (by decide +kernel) ⟨(Nat.le_of_ble_eq_true rfl), (Nat.le_of_ble_eq_true rfl)⟩) (y_recv hC hF.1 rfl rfl) rfl hl.1 rfl (Nat.le_of_ble_eq_true rfl) dX3_provider_2 ⟨(Nat.le_of_ble_eq_true rfl), (Nat.le_of_ble_eq_true rfl)⟩ (fun E ce q9 u1 H locs hx hC hce hcv hcl => by
      obtain ⟨x, rfl, hx, hu⟩ := hx; rw [hu] at hC; clear hu; try dsimp only at hx
      exact y_out hto hlk hC hce hcv hcl ⟨x, rfl, (by (try dsimp only); omega), rfl⟩ (Nat.le_of_ble_eq_true rfl) (Nat.le_of_ble_eq_true rfl)) (fun v u1 H locs hp hC => ?_)
  obtain ⟨rfl, h_2, hu⟩ := hp; rw [hu] at hC; clear hu
  try dsimp only at h_2
  refine W.eq (g2 := F0 m 5 ls [.ref (ad 10 (z).toNat)]) rfl ?_
  refine y_getN hM hC (hSK.2.2.2 _ (by omega)) rfl rfl (by decide +kernel) 0 0 ⟨by decide, rfl, rfl, rfl⟩ (by decide +kernel) rfl dX3_provider_5 ?_
  exact y_iret hM hr hlk hC ⟨_, rfl, (by (try dsimp only); omega), rfl⟩ (Nat.le_of_ble_eq_true rfl) (Nat.le_of_ble_eq_true rfl) dX3_provider_8

set_option maxRecDepth 100000 in
set_option maxHeartbeats 8000000 in
theorem c_stage (l : Launch) (hfl : l.stackTraces = false) (G : GG) (b0 : Nat) (ks : KK) (ad : AD) (T : TT) (P : PP) (z : Int) (hz : inI z) (hF : FI ks ad P) (hOK : OK1 ks ad T P) (hON : ON T)  : vx_Met l yX3_stage wsX3_stage (rmX 7 1 6 104) (va_Pc [.ref (ad 0 0), .int (iI (z))] (Ok G b0 (ks, ad, T, P))) (Qr (pI (fun r => r = T 11 z.toNat 3 ∧ 0 ≤ z ∧ z < T 0 0 8) (ks, ad, T, P)) G b0) (Xr (pX (fun x => x = 3 ∧ (z < 0 ∨ T 0 0 8 ≤ z)) (ks, ad, T, P)) G b0) 1 6 (Wx b0) := by
  refine vx_ofW (cc := cX3_stage) (maxL := 2) (ret := (some .int)) (by decide +kernel) rfl ?_
  intro p e s m args below meth c s₁ B hml hto hv
  obtain ⟨rfl, hok⟩ := hv
  have hM : CallFix p m c cX3_stage 2 s _ wsX3_stage RX3 := ⟨B.exec, B.bytes, hml, findClass_of_methodNamed B.named, atoms_spec (ws := wsX3_stage) B.pre⟩
  have hr := B.returns
  have hlk := B.notSynchronized
  have hC := hok.cur
  have hl := lv_entry ([.ref (ad 0 0), .int (iI (z))]) (n := 2) (Nat.le_of_ble_eq_true rfl)
  rw [lg_entry_eq]
  generalize (lg_sl ([.ref (ad 0 0), .int (iI (z))]) ++ List.replicate (2 - (lg_sl ([.ref (ad 0 0), .int (iI (z))])).length) Slot.unset).toArray = ls at hl ⊢
  have hl : lv_has ls 2 [(0, .ref (ad 0 0)), (1, .int (iI (z)))] := hl
  refine y_aload_n hM hl 0 rfl rfl dX3_stage_0 ?_
  refine y_iload_n hM hl 1 rfl rfl dX3_stage_1 ?_
  refine y_callV hM hC (c_orderAt l hfl G b0 ks ad T P (z) (by constructor <;> omega) hF hOK) (cwV 1 hM.2.2.2.2 gX3_stage_X3_orderAt rfl rfl rfl (by decide +kernel) ⟨(Nat.le_of_ble_eq_true rfl), (Nat.le_of_ble_eq_true rfl)⟩) (y_recv hC hF.1 rfl rfl) rfl hl.1 rfl (Nat.le_of_ble_eq_true rfl) dX3_stage_2 ⟨(Nat.le_of_ble_eq_true rfl), (Nat.le_of_ble_eq_true rfl)⟩ (fun E ce q9 u1 H locs hx hC hce hcv hcl => by
      obtain ⟨x, rfl, hx, hu⟩ := hx; rw [hu] at hC; clear hu; try dsimp only at hx
      exact y_out hto hlk hC hce hcv hcl ⟨x, rfl, (by (try dsimp only); omega), rfl⟩ (Nat.le_of_ble_eq_true rfl) (Nat.le_of_ble_eq_true rfl)) (fun v u1 H locs hp hC => ?_)
  obtain ⟨rfl, h_2, hu⟩ := hp; rw [hu] at hC; clear hu
  try dsimp only at h_2
  refine W.eq (g2 := F0 m 5 ls [.ref (ad 11 (z).toNat)]) rfl ?_
  refine y_getN hM hC (hOK.2.2.2 _ (by omega)).1 rfl rfl (by decide +kernel) 3 0 ⟨by decide, rfl, rfl, rfl⟩ (by decide +kernel) rfl dX3_stage_5 ?_
  exact y_iret hM hr hlk hC ⟨_, rfl, (by (try dsimp only); omega), rfl⟩ (Nat.le_of_ble_eq_true rfl) (Nat.le_of_ble_eq_true rfl) dX3_stage_8

set_option maxRecDepth 100000 in
set_option maxHeartbeats 8000000 in
theorem c_late (l : Launch) (hfl : l.stackTraces = false) (G : GG) (b0 : Nat) (ks : KK) (ad : AD) (T : TT) (P : PP) (z : Int) (hz : inI z) (hF : FI ks ad P) (hOK : OK1 ks ad T P) (hON : ON T)  : vx_Met l yX3_late wsX3_late (rmX 7 1 6 104) (va_Pc [.ref (ad 0 0), .int (iI (z))] (Ok G b0 (ks, ad, T, P))) (Qr (pI (fun r => r = T 11 z.toNat 5 + T 11 z.toNat 6 ∧ 0 ≤ z ∧ z < T 0 0 8) (ks, ad, T, P)) G b0) (Xr (pX (fun x => x = 3 ∧ (z < 0 ∨ T 0 0 8 ≤ z)) (ks, ad, T, P)) G b0) 1 6 (Wx b0) := by
  refine vx_ofW (cc := cX3_late) (maxL := 3) (ret := (some .int)) (by decide +kernel) rfl ?_
  intro p e s m args below meth c s₁ B hml hto hv
  obtain ⟨rfl, hok⟩ := hv
  have hM : CallFix p m c cX3_late 3 s _ wsX3_late RX3 := ⟨B.exec, B.bytes, hml, findClass_of_methodNamed B.named, atoms_spec (ws := wsX3_late) B.pre⟩
  have hr := B.returns
  have hlk := B.notSynchronized
  have hC := hok.cur
  have hl := lv_entry ([.ref (ad 0 0), .int (iI (z))]) (n := 3) (Nat.le_of_ble_eq_true rfl)
  rw [lg_entry_eq]
  generalize (lg_sl ([.ref (ad 0 0), .int (iI (z))]) ++ List.replicate (3 - (lg_sl ([.ref (ad 0 0), .int (iI (z))])).length) Slot.unset).toArray = ls at hl ⊢
  have hl : lv_has ls 3 [(0, .ref (ad 0 0)), (1, .int (iI (z)))] := hl
  refine y_aload_n hM hl 0 rfl rfl dX3_late_0 ?_
  refine y_iload_n hM hl 1 rfl rfl dX3_late_1 ?_
  refine y_callV hM hC (c_orderAt l hfl G b0 ks ad T P (z) (by constructor <;> omega) hF hOK) (cwV 1 hM.2.2.2.2 gX3_late_X3_orderAt rfl rfl rfl (by decide +kernel) ⟨(Nat.le_of_ble_eq_true rfl), (Nat.le_of_ble_eq_true rfl)⟩) (y_recv hC hF.1 rfl rfl) rfl hl.1 rfl (Nat.le_of_ble_eq_true rfl) dX3_late_2 ⟨(Nat.le_of_ble_eq_true rfl), (Nat.le_of_ble_eq_true rfl)⟩ (fun E ce q9 u1 H locs hx hC hce hcv hcl => by
      obtain ⟨x, rfl, hx, hu⟩ := hx; rw [hu] at hC; clear hu; try dsimp only at hx
      exact y_out hto hlk hC hce hcv hcl ⟨x, rfl, (by (try dsimp only); omega), rfl⟩ (Nat.le_of_ble_eq_true rfl) (Nat.le_of_ble_eq_true rfl)) (fun v u1 H locs hp hC => ?_)
  obtain ⟨rfl, h_2, hu⟩ := hp; rw [hu] at hC; clear hu
  try dsimp only at h_2
  refine W.eq (g2 := F0 m 5 ls [.ref (ad 11 (z).toNat)]) rfl ?_
  refine lv_astore_n (lv' := [(2, .ref (ad 11 (z).toNat)), (0, .ref (ad 0 0)), (1, .int (iI (z)))]) hM.1 hM.2.1 dX3_late_5 rfl hl (by decide) rfl (fun ls hl => ?_)
  refine y_aload_n hM hl 0 rfl rfl dX3_late_6 ?_
  refine y_getN hM hC (hOK.2.2.2 _ (by omega)).1 rfl rfl (by decide +kernel) 5 0 ⟨by decide, rfl, rfl, rfl⟩ (by decide +kernel) rfl dX3_late_7 ?_
  refine y_aload_n hM hl 0 rfl rfl dX3_late_10 ?_
  refine y_getN hM hC (hOK.2.2.2 _ (by omega)).1 rfl rfl (by decide +kernel) 6 0 ⟨by decide, rfl, rfl, rfl⟩ (by decide +kernel) rfl dX3_late_11 ?_
  refine y_iadd hM dX3_late_14 ?_
  exact y_iret hM hr hlk hC ⟨_, rfl, (by (try dsimp only); omega), rfl⟩ (Nat.le_of_ble_eq_true rfl) (Nat.le_of_ble_eq_true rfl) dX3_late_15

set_option maxRecDepth 100000 in
set_option maxHeartbeats 8000000 in
theorem c_money (l : Launch) (hfl : l.stackTraces = false) (G : GG) (b0 : Nat) (ks : KK) (ad : AD) (T : TT) (P : PP) (z : Int) (hz : inI z) (hF : FI ks ad P) (hOK : OK1 ks ad T P) (hON : ON T)  : vx_Met l yX3_money wsX3_money (rmX 7 1 6 104) (va_Pc [.ref (ad 0 0), .int (iI (z))] (Ok G b0 (ks, ad, T, P))) (Qr (pJ (fun r => r = T 11 z.toNat 8 ∧ 0 ≤ z ∧ z < T 0 0 8) (ks, ad, T, P)) G b0) (Xr (pX (fun x => x = 3 ∧ (z < 0 ∨ T 0 0 8 ≤ z)) (ks, ad, T, P)) G b0) 1 6 (Wx b0) := by
  refine vx_ofW (cc := cX3_money) (maxL := 2) (ret := (some .long)) (by decide +kernel) rfl ?_
  intro p e s m args below meth c s₁ B hml hto hv
  obtain ⟨rfl, hok⟩ := hv
  have hM : CallFix p m c cX3_money 2 s _ wsX3_money RX3 := ⟨B.exec, B.bytes, hml, findClass_of_methodNamed B.named, atoms_spec (ws := wsX3_money) B.pre⟩
  have hr := B.returns
  have hlk := B.notSynchronized
  have hC := hok.cur
  have hl := lv_entry ([.ref (ad 0 0), .int (iI (z))]) (n := 2) (Nat.le_of_ble_eq_true rfl)
  rw [lg_entry_eq]
  generalize (lg_sl ([.ref (ad 0 0), .int (iI (z))]) ++ List.replicate (2 - (lg_sl ([.ref (ad 0 0), .int (iI (z))])).length) Slot.unset).toArray = ls at hl ⊢
  have hl : lv_has ls 2 [(0, .ref (ad 0 0)), (1, .int (iI (z)))] := hl
  refine y_aload_n hM hl 0 rfl rfl dX3_money_0 ?_
  refine y_iload_n hM hl 1 rfl rfl dX3_money_1 ?_
  refine y_callV hM hC (c_orderAt l hfl G b0 ks ad T P (z) (by constructor <;> omega) hF hOK) (cwV 1 hM.2.2.2.2 gX3_money_X3_orderAt rfl rfl rfl (by decide +kernel) ⟨(Nat.le_of_ble_eq_true rfl), (Nat.le_of_ble_eq_true rfl)⟩) (y_recv hC hF.1 rfl rfl) rfl hl.1 rfl (Nat.le_of_ble_eq_true rfl) dX3_money_2 ⟨(Nat.le_of_ble_eq_true rfl), (Nat.le_of_ble_eq_true rfl)⟩ (fun E ce q9 u1 H locs hx hC hce hcv hcl => by
      obtain ⟨x, rfl, hx, hu⟩ := hx; rw [hu] at hC; clear hu; try dsimp only at hx
      exact y_out hto hlk hC hce hcv hcl ⟨x, rfl, (by (try dsimp only); omega), rfl⟩ (Nat.le_of_ble_eq_true rfl) (Nat.le_of_ble_eq_true rfl)) (fun v u1 H locs hp hC => ?_)
  obtain ⟨rfl, h_2, hu⟩ := hp; rw [hu] at hC; clear hu
  try dsimp only at h_2
  refine W.eq (g2 := F0 m 5 ls [.ref (ad 11 (z).toNat)]) rfl ?_
  refine y_getN hM hC (hOK.2.2.2 _ (by omega)).1 rfl rfl (by decide +kernel) 8 1 ⟨by decide, rfl, rfl, rfl⟩ (by decide +kernel) rfl dX3_money_5 ?_
  exact y_lret hM hr hlk hC ⟨_, rfl, (by (try dsimp only); omega), rfl⟩ (Nat.le_of_ble_eq_true rfl) (Nat.le_of_ble_eq_true rfl) dX3_money_8

set_option maxRecDepth 100000 in
set_option maxHeartbeats 8000000 in
theorem c_madeGood (l : Launch) (hfl : l.stackTraces = false) (G : GG) (b0 : Nat) (ks : KK) (ad : AD) (T : TT) (P : PP) (z : Int) (hz : inI z) (hF : FI ks ad P) (hOK : OK1 ks ad T P) (hON : ON T)  : vx_Met l yX3_madeGood wsX3_madeGood (rmX 7 1 6 104) (va_Pc [.ref (ad 0 0), .int (iI (z))] (Ok G b0 (ks, ad, T, P))) (Qr (pJ (fun r => r = T 11 z.toNat 9 ∧ 0 ≤ z ∧ z < T 0 0 8) (ks, ad, T, P)) G b0) (Xr (pX (fun x => x = 3 ∧ (z < 0 ∨ T 0 0 8 ≤ z)) (ks, ad, T, P)) G b0) 1 6 (Wx b0) := by
  refine vx_ofW (cc := cX3_madeGood) (maxL := 2) (ret := (some .long)) (by decide +kernel) rfl ?_
  intro p e s m args below meth c s₁ B hml hto hv
  obtain ⟨rfl, hok⟩ := hv
  have hM : CallFix p m c cX3_madeGood 2 s _ wsX3_madeGood RX3 := ⟨B.exec, B.bytes, hml, findClass_of_methodNamed B.named, atoms_spec (ws := wsX3_madeGood) B.pre⟩
  have hr := B.returns
  have hlk := B.notSynchronized
  have hC := hok.cur
  have hl := lv_entry ([.ref (ad 0 0), .int (iI (z))]) (n := 2) (Nat.le_of_ble_eq_true rfl)
  rw [lg_entry_eq]
  generalize (lg_sl ([.ref (ad 0 0), .int (iI (z))]) ++ List.replicate (2 - (lg_sl ([.ref (ad 0 0), .int (iI (z))])).length) Slot.unset).toArray = ls at hl ⊢
  have hl : lv_has ls 2 [(0, .ref (ad 0 0)), (1, .int (iI (z)))] := hl
  refine y_aload_n hM hl 0 rfl rfl dX3_madeGood_0 ?_
  refine y_iload_n hM hl 1 rfl rfl dX3_madeGood_1 ?_
  refine y_callV hM hC (c_orderAt l hfl G b0 ks ad T P (z) (by constructor <;> omega) hF hOK) (cwV 1 hM.2.2.2.2 gX3_madeGood_X3_orderAt rfl rfl rfl (by decide +kernel) ⟨(Nat.le_of_ble_eq_true rfl), (Nat.le_of_ble_eq_true rfl)⟩) (y_recv hC hF.1 rfl rfl) rfl hl.1 rfl (Nat.le_of_ble_eq_true rfl) dX3_madeGood_2 ⟨(Nat.le_of_ble_eq_true rfl), (Nat.le_of_ble_eq_true rfl)⟩ (fun E ce q9 u1 H locs hx hC hce hcv hcl => by
      obtain ⟨x, rfl, hx, hu⟩ := hx; rw [hu] at hC; clear hu; try dsimp only at hx
      exact y_out hto hlk hC hce hcv hcl ⟨x, rfl, (by (try dsimp only); omega), rfl⟩ (Nat.le_of_ble_eq_true rfl) (Nat.le_of_ble_eq_true rfl)) (fun v u1 H locs hp hC => ?_)
  obtain ⟨rfl, h_2, hu⟩ := hp; rw [hu] at hC; clear hu
  try dsimp only at h_2
  refine W.eq (g2 := F0 m 5 ls [.ref (ad 11 (z).toNat)]) rfl ?_
  refine y_getN hM hC (hOK.2.2.2 _ (by omega)).1 rfl rfl (by decide +kernel) 9 1 ⟨by decide, rfl, rfl, rfl⟩ (by decide +kernel) rfl dX3_madeGood_5 ?_
  exact y_lret hM hr hlk hC ⟨_, rfl, (by (try dsimp only); omega), rfl⟩ (Nat.le_of_ble_eq_true rfl) (Nat.le_of_ble_eq_true rfl) dX3_madeGood_8

set_option maxRecDepth 100000 in
set_option maxHeartbeats 8000000 in
theorem c_due (l : Launch) (hfl : l.stackTraces = false) (G : GG) (b0 : Nat) (ks : KK) (ad : AD) (T : TT) (P : PP) (z : Int) (hz : inI z) (hF : FI ks ad P) (hOK : OK1 ks ad T P) (hON : ON T)  : vx_Met l yX3_due wsX3_due (rmX 8 2 12 126) (va_Pc [.ref (ad 0 0), .int (iI (z))] (Ok G b0 (ks, ad, T, P))) (Qr (pI (fun r => r = dueT T z.toNat ∧ 0 ≤ z ∧ z < T 0 0 8 ∧ T 11 z.toNat 3 ≠ 3) (ks, ad, T, P)) G b0) (Xr (pX (fun x => (x = 3 ∧ (z < 0 ∨ T 0 0 8 ≤ z)) ∨ (x = 2 ∧ 0 ≤ z ∧ z < T 0 0 8 ∧ T 11 z.toNat 3 = 3)) (ks, ad, T, P)) G b0) 2 12 (Wx b0) := by
  refine vx_ofW (cc := cX3_due) (maxL := 2) (ret := (some .int)) (by decide +kernel) rfl ?_
  intro p e s m args below meth c s₁ B hml hto hv
  obtain ⟨rfl, hok⟩ := hv
  have hM : CallFix p m c cX3_due 2 s _ wsX3_due RX3 := ⟨B.exec, B.bytes, hml, findClass_of_methodNamed B.named, atoms_spec (ws := wsX3_due) B.pre⟩
  have hr := B.returns
  have hlk := B.notSynchronized
  have hC := hok.cur
  have hl := lv_entry ([.ref (ad 0 0), .int (iI (z))]) (n := 2) (Nat.le_of_ble_eq_true rfl)
  rw [lg_entry_eq]
  generalize (lg_sl ([.ref (ad 0 0), .int (iI (z))]) ++ List.replicate (2 - (lg_sl ([.ref (ad 0 0), .int (iI (z))])).length) Slot.unset).toArray = ls at hl ⊢
  have hl : lv_has ls 2 [(0, .ref (ad 0 0)), (1, .int (iI (z)))] := hl
  refine y_aload_n hM hl 0 rfl rfl dX3_due_0 ?_
  refine y_iload_n hM hl 1 rfl rfl dX3_due_1 ?_
  refine y_callV hM hC (c_openOrderAt l hfl G b0 ks ad T P (z) (by constructor <;> omega) hF hOK hON) (cwV 1 hM.2.2.2.2 gX3_due_X3_openOrderAt rfl rfl rfl (by decide +kernel) ⟨(Nat.le_of_ble_eq_true rfl), (Nat.le_of_ble_eq_true rfl)⟩) (y_recv hC hF.1 rfl rfl) rfl hl.1 rfl (Nat.le_of_ble_eq_true rfl) dX3_due_2 ⟨(Nat.le_of_ble_eq_true rfl), (Nat.le_of_ble_eq_true rfl)⟩ (fun E ce q9 u1 H locs hx hC hce hcv hcl => by
      obtain ⟨x, rfl, hx, hu⟩ := hx; rw [hu] at hC; clear hu; try dsimp only at hx
      exact y_out hto hlk hC hce hcv hcl ⟨x, rfl, (by (try dsimp only); omega), rfl⟩ (Nat.le_of_ble_eq_true rfl) (Nat.le_of_ble_eq_true rfl)) (fun v u1 H locs hp hC => ?_)
  obtain ⟨rfl, h_2, hu⟩ := hp; rw [hu] at hC; clear hu
  try dsimp only at h_2
  refine W.eq (g2 := F0 m 5 ls [.ref (ad 11 (z).toNat)]) rfl ?_
  have ho := hON z.toNat (by omega)
  refine y_callV hM hC (c_dueDay l hfl G b0 ks ad T P (z).toNat (hOK.2.2.2 _ (by omega)).1 (by constructor <;> omega)) (cwV 0 hM.2.2.2.2 gX3_due_X0_dueDay rfl rfl rfl (by decide +kernel) ⟨(Nat.le_of_ble_eq_true rfl), (Nat.le_of_ble_eq_true rfl)⟩) (y_recv hC (hOK.2.2.2 _ (by omega)).1 rfl rfl) rfl hl.1 rfl (Nat.le_of_ble_eq_true rfl) dX3_due_5 ⟨(Nat.le_of_ble_eq_true rfl), (Nat.le_of_ble_eq_true rfl)⟩ (fun E ce q9 u1 H locs hx hC hce hcv hcl => hx.elim) (fun v u1 H locs hp hC => ?_)
  obtain ⟨r_5, rfl, h_5, hu⟩ := hp; rw [hu] at hC; clear hu
  try dsimp only at h_5
  refine W.eq (g2 := F0 m 8 ls [.int (iI (r_5))]) rfl ?_
  exact y_iret hM hr hlk hC ⟨_, rfl, (by (try dsimp only); omega), rfl⟩ (Nat.le_of_ble_eq_true rfl) (Nat.le_of_ble_eq_true rfl) dX3_due_8

set_option maxRecDepth 100000 in
set_option maxHeartbeats 8000000 in
theorem c_owes (l : Launch) (hfl : l.stackTraces = false) (G : GG) (b0 : Nat) (ks : KK) (ad : AD) (T : TT) (P : PP) (z w : Int) (hz : inI z) (hw : inI w) (hF : FI ks ad P) (hRK : RK ks ad P) : vx_Met l yX3_owes wsX3_owes (rmX 7 2 12 102) (va_Pc [.ref (ad 0 0), .int (iI (z)), .int (iI (w))] (Ok G b0 (ks, ad, T, P))) (Qr (pJ (fun r => r = T 9 z.toNat w.toNat - T 9 w.toNat z.toNat ∧ 0 ≤ z ∧ z < 5 ∧ 0 ≤ w ∧ w < 5) (ks, ad, T, P)) G b0) (Xr (pX (fun x => x = 1 ∧ (z < 0 ∨ 5 ≤ z ∨ w < 0 ∨ 5 ≤ w)) (ks, ad, T, P)) G b0) 2 12 (Wx b0) := by
  refine vx_ofW (cc := cX3_owes) (maxL := 3) (ret := (some .long)) (by decide +kernel) rfl ?_
  intro p e s m args below meth c s₁ B hml hto hv
  obtain ⟨rfl, hok⟩ := hv
  have hM : CallFix p m c cX3_owes 3 s _ wsX3_owes RX3 := ⟨B.exec, B.bytes, hml, findClass_of_methodNamed B.named, atoms_spec (ws := wsX3_owes) B.pre⟩
  have hr := B.returns
  have hlk := B.notSynchronized
  have hC := hok.cur
  have hl := lv_entry ([.ref (ad 0 0), .int (iI (z)), .int (iI (w))]) (n := 3) (Nat.le_of_ble_eq_true rfl)
  rw [lg_entry_eq]
  generalize (lg_sl ([.ref (ad 0 0), .int (iI (z)), .int (iI (w))]) ++ List.replicate (3 - (lg_sl ([.ref (ad 0 0), .int (iI (z)), .int (iI (w))])).length) Slot.unset).toArray = ls at hl ⊢
  have hl : lv_has ls 3 [(0, .ref (ad 0 0)), (1, .int (iI (z))), (2, .int (iI (w)))] := hl
  refine y_iload_n hM hl 1 rfl rfl dX3_owes_0 ?_
  refine y_callS hM hC (c_checkProvider l hfl G b0 (ks, ad, T, P) (z) (by constructor <;> omega)) (va_cwS 1 hM.2.2.2.2 gX3_owes_X3_checkProvider rfl rfl rfl (by decide +kernel) ⟨(Nat.le_of_ble_eq_true rfl), (Nat.le_of_ble_eq_true rfl)⟩) rfl hl.1 rfl (Nat.le_of_ble_eq_true rfl) dX3_owes_1 ⟨(Nat.le_of_ble_eq_true rfl), (Nat.le_of_ble_eq_true rfl)⟩ (fun E ce q9 u1 H locs hx hC hce hcv hcl => by
      obtain ⟨x, rfl, hx, hu⟩ := hx; rw [hu] at hC; clear hu; try dsimp only at hx
      exact y_out hto hlk hC hce hcv hcl ⟨x, rfl, (by (try dsimp only); omega), rfl⟩ (Nat.le_of_ble_eq_true rfl) (Nat.le_of_ble_eq_true rfl)) (fun v u1 H locs hp hC => ?_)
  obtain ⟨rfl, h_1, hu⟩ := hp; rw [hu] at hC; clear hu
  try dsimp only at h_1
  refine W.eq (g2 := F0 m 4 ls []) rfl ?_
  refine y_iload_n hM hl 2 rfl rfl dX3_owes_4 ?_
  refine y_callS hM hC (c_checkProvider l hfl G b0 (ks, ad, T, P) (w) (by constructor <;> omega)) (va_cwS 1 hM.2.2.2.2 gX3_owes_X3_checkProvider rfl rfl rfl (by decide +kernel) ⟨(Nat.le_of_ble_eq_true rfl), (Nat.le_of_ble_eq_true rfl)⟩) rfl hl.1 rfl (Nat.le_of_ble_eq_true rfl) dX3_owes_5 ⟨(Nat.le_of_ble_eq_true rfl), (Nat.le_of_ble_eq_true rfl)⟩ (fun E ce q9 u1 H locs hx hC hce hcv hcl => by
      obtain ⟨x, rfl, hx, hu⟩ := hx; rw [hu] at hC; clear hu; try dsimp only at hx
      exact y_out hto hlk hC hce hcv hcl ⟨x, rfl, (by (try dsimp only); omega), rfl⟩ (Nat.le_of_ble_eq_true rfl) (Nat.le_of_ble_eq_true rfl)) (fun v u1 H locs hp hC => ?_)
  obtain ⟨rfl, h_5, hu⟩ := hp; rw [hu] at hC; clear hu
  try dsimp only at h_5
  refine W.eq (g2 := F0 m 8 ls []) rfl ?_
  refine y_aload_n hM hl 0 rfl rfl dX3_owes_8 ?_
  refine y_get hM hC hF.1 rfl rfl (by decide +kernel) 1 ⟨by decide, rfl, rfl, rfl⟩ (by decide +kernel) (congrArg (fun q => some (va_rf q)) hF.2.2.2.2.2.2.2.1) dX3_owes_9 ?_
  refine W.eq (g2 := F0 m 12 ls [.ref (ad 2 0)]) rfl ?_
  refine y_iload_n hM hl 1 rfl rfl dX3_owes_12 ?_
  refine y_aaldA hM hC hF.2.2.1 rfl ⟨by omega, by omega⟩ (by decide) (hRK _ (by omega)).2.2.2.2.2.1 dX3_owes_13 ?_
  refine W.eq (g2 := F0 m 14 ls [.ref (ad 9 z.toNat)]) rfl ?_
  refine y_iload_n hM hl 2 rfl rfl dX3_owes_14 ?_
  refine y_lald hM hC (hRK _ (by omega)).2.2.2.1 rfl ⟨by omega, by omega⟩ (by decide) (x := T 9 z.toNat (w).toNat) rfl dX3_owes_15 ?_
  refine y_aload_n hM hl 0 rfl rfl dX3_owes_16 ?_
  refine y_get hM hC hF.1 rfl rfl (by decide +kernel) 1 ⟨by decide, rfl, rfl, rfl⟩ (by decide +kernel) (congrArg (fun q => some (va_rf q)) hF.2.2.2.2.2.2.2.1) dX3_owes_17 ?_
  refine W.eq (g2 := F0 m 20 ls [.ref (ad 2 0), .long (lI (T 9 z.toNat (w).toNat))]) rfl ?_
  refine y_iload_n hM hl 2 rfl rfl dX3_owes_20 ?_
  refine y_aaldA hM hC hF.2.2.1 rfl ⟨by omega, by omega⟩ (by decide) (hRK _ (by omega)).2.2.2.2.2.1 dX3_owes_21 ?_
  refine W.eq (g2 := F0 m 22 ls [.ref (ad 9 w.toNat), .long (lI (T 9 z.toNat (w).toNat))]) rfl ?_
  refine y_iload_n hM hl 1 rfl rfl dX3_owes_22 ?_
  refine y_lald hM hC (hRK _ (by omega)).2.2.2.1 rfl ⟨by omega, by omega⟩ (by decide) (x := T 9 w.toNat (z).toNat) rfl dX3_owes_23 ?_
  refine y_lsub hM dX3_owes_24 ?_
  exact y_lret hM hr hlk hC ⟨_, rfl, (by (try dsimp only); omega), rfl⟩ (Nat.le_of_ble_eq_true rfl) (Nat.le_of_ble_eq_true rfl) dX3_owes_25

set_option maxRecDepth 100000 in
set_option maxHeartbeats 8000000 in
theorem c_losses (l : Launch) (hfl : l.stackTraces = false) (G : GG) (b0 : Nat) (ks : KK) (ad : AD) (T : TT) (P : PP) (z : Int) (hz : inI z) (hF : FI ks ad P) : vx_Met l yX3_losses wsX3_losses (rmX 7 1 6 102) (va_Pc [.ref (ad 0 0), .int (iI (z))] (Ok G b0 (ks, ad, T, P))) (Qr (pJ (fun r => r = T 3 0 z.toNat ∧ 0 ≤ z ∧ z < 5) (ks, ad, T, P)) G b0) (Xr (pX (fun x => x = 1 ∧ (z < 0 ∨ 5 ≤ z)) (ks, ad, T, P)) G b0) 1 6 (Wx b0) := by
  refine vx_ofW (cc := cX3_losses) (maxL := 2) (ret := (some .long)) (by decide +kernel) rfl ?_
  intro p e s m args below meth c s₁ B hml hto hv
  obtain ⟨rfl, hok⟩ := hv
  have hM : CallFix p m c cX3_losses 2 s _ wsX3_losses RX3 := ⟨B.exec, B.bytes, hml, findClass_of_methodNamed B.named, atoms_spec (ws := wsX3_losses) B.pre⟩
  have hr := B.returns
  have hlk := B.notSynchronized
  have hC := hok.cur
  have hl := lv_entry ([.ref (ad 0 0), .int (iI (z))]) (n := 2) (Nat.le_of_ble_eq_true rfl)
  rw [lg_entry_eq]
  generalize (lg_sl ([.ref (ad 0 0), .int (iI (z))]) ++ List.replicate (2 - (lg_sl ([.ref (ad 0 0), .int (iI (z))])).length) Slot.unset).toArray = ls at hl ⊢
  have hl : lv_has ls 2 [(0, .ref (ad 0 0)), (1, .int (iI (z)))] := hl
  refine y_iload_n hM hl 1 rfl rfl dX3_losses_0 ?_
  refine y_callS hM hC (c_checkProvider l hfl G b0 (ks, ad, T, P) (z) (by constructor <;> omega)) (va_cwS 1 hM.2.2.2.2 gX3_losses_X3_checkProvider rfl rfl rfl (by decide +kernel) ⟨(Nat.le_of_ble_eq_true rfl), (Nat.le_of_ble_eq_true rfl)⟩) rfl hl.1 rfl (Nat.le_of_ble_eq_true rfl) dX3_losses_1 ⟨(Nat.le_of_ble_eq_true rfl), (Nat.le_of_ble_eq_true rfl)⟩ (fun E ce q9 u1 H locs hx hC hce hcv hcl => by
      obtain ⟨x, rfl, hx, hu⟩ := hx; rw [hu] at hC; clear hu; try dsimp only at hx
      exact y_out hto hlk hC hce hcv hcl ⟨x, rfl, (by (try dsimp only); omega), rfl⟩ (Nat.le_of_ble_eq_true rfl) (Nat.le_of_ble_eq_true rfl)) (fun v u1 H locs hp hC => ?_)
  obtain ⟨rfl, h_1, hu⟩ := hp; rw [hu] at hC; clear hu
  try dsimp only at h_1
  refine W.eq (g2 := F0 m 4 ls []) rfl ?_
  refine y_aload_n hM hl 0 rfl rfl dX3_losses_4 ?_
  refine y_get hM hC hF.1 rfl rfl (by decide +kernel) 2 ⟨by decide, rfl, rfl, rfl⟩ (by decide +kernel) (congrArg (fun q => some (va_rf q)) hF.2.2.2.2.2.2.2.2.1) dX3_losses_5 ?_
  refine W.eq (g2 := F0 m 8 ls [.ref (ad 3 0)]) rfl ?_
  refine y_iload_n hM hl 1 rfl rfl dX3_losses_8 ?_
  refine y_lald hM hC hF.2.2.2.1 rfl ⟨by omega, by omega⟩ (by decide) (x := T 3 0 (z).toNat) rfl dX3_losses_9 ?_
  exact y_lret hM hr hlk hC ⟨_, rfl, (by (try dsimp only); omega), rfl⟩ (Nat.le_of_ble_eq_true rfl) (Nat.le_of_ble_eq_true rfl) dX3_losses_10

set_option maxRecDepth 100000 in
set_option maxHeartbeats 8000000 in
theorem c_step (l : Launch) (hfl : l.stackTraces = false) (G : GG) (b0 : Nat) (ks : KK) (ad : AD) (T : TT) (P : PP) (z : Int) (hz : inI z) (hF : FI ks ad P) (hRK : RK ks ad P) (hRN : RN T) (hDN : DN T) (hSK : SK ks ad T P) (hSN : SN T) (hOK : OK1 ks ad T P) (hON : ON T)  : vx_Met l yX3_step wsX3_step (rmX 10 6 36 182) (va_Pc [.ref (ad 0 0), .int (iI (z))] (Ok G b0 (ks, ad, T, P))) (Qr (pI (fun r => r = lateT T z.toNat (T 0 0 5) ∧ 0 ≤ z ∧ z < T 0 0 8 ∧ T 11 z.toNat 3 ≠ 3 ∧ (T 11 z.toNat 3 = 2 → gotT T z.toNat 0 + lakT T z.toNat (lateT T z.toNat (T 0 0 5)) 0 ≤ 100000000)) (ks, ad, stpT T z.toNat 0, P)) G b0) (Xr (pX (fun x => (x = 3 ∧ (z < 0 ∨ T 0 0 8 ≤ z)) ∨ (x = 2 ∧ 0 ≤ z ∧ z < T 0 0 8 ∧ (T 11 z.toNat 3 = 3 ∨ (T 11 z.toNat 3 = 2 ∧ 100000000 < gotT T z.toNat 0 + lakT T z.toNat (lateT T z.toNat (T 0 0 5)) 0)))) (ks, ad, T, P)) G b0) 6 36 (Wx b0) := by
  refine vx_ofW (cc := cX3_step) (maxL := 2) (ret := (some .int)) (by decide +kernel) rfl ?_
  intro p e s m args below meth c s₁ B hml hto hv
  obtain ⟨rfl, hok⟩ := hv
  have hM : CallFix p m c cX3_step 2 s _ wsX3_step RX3 := ⟨B.exec, B.bytes, hml, findClass_of_methodNamed B.named, atoms_spec (ws := wsX3_step) B.pre⟩
  have hr := B.returns
  have hlk := B.notSynchronized
  have hC := hok.cur
  have hl := lv_entry ([.ref (ad 0 0), .int (iI (z))]) (n := 2) (Nat.le_of_ble_eq_true rfl)
  rw [lg_entry_eq]
  generalize (lg_sl ([.ref (ad 0 0), .int (iI (z))]) ++ List.replicate (2 - (lg_sl ([.ref (ad 0 0), .int (iI (z))])).length) Slot.unset).toArray = ls at hl ⊢
  have hl : lv_has ls 2 [(0, .ref (ad 0 0)), (1, .int (iI (z)))] := hl
  refine y_aload_n hM hl 0 rfl rfl dX3_step_0 ?_
  refine y_aload_n hM hl 0 rfl rfl dX3_step_1 ?_
  refine y_iload_n hM hl 1 rfl rfl dX3_step_2 ?_
  refine y_callV hM hC (c_openOrderAt l hfl G b0 ks ad T P (z) (by constructor <;> omega) hF hOK hON) (cwV 1 hM.2.2.2.2 gX3_step_X3_openOrderAt rfl rfl rfl (by decide +kernel) ⟨(Nat.le_of_ble_eq_true rfl), (Nat.le_of_ble_eq_true rfl)⟩) (y_recv hC hF.1 rfl rfl) rfl hl.1 rfl (Nat.le_of_ble_eq_true rfl) dX3_step_3 ⟨(Nat.le_of_ble_eq_true rfl), (Nat.le_of_ble_eq_true rfl)⟩ (fun E ce q9 u1 H locs hx hC hce hcv hcl => by
      obtain ⟨x, rfl, hx, hu⟩ := hx; rw [hu] at hC; clear hu; try dsimp only at hx
      exact y_out hto hlk hC hce hcv hcl ⟨x, rfl, (by (try dsimp only); omega), rfl⟩ (Nat.le_of_ble_eq_true rfl) (Nat.le_of_ble_eq_true rfl)) (fun v u1 H locs hp hC => ?_)
  obtain ⟨rfl, h_3, hu⟩ := hp; rw [hu] at hC; clear hu
  try dsimp only at h_3
  refine W.eq (g2 := F0 m 6 ls [.ref (ad 11 (z).toNat), .ref (ad 0 0)]) rfl ?_
  refine y_iconst hM dX3_step_6 ?_
  refine y_callV hM hC (c_doNextStep l hfl G b0 ks ad T P (z).toNat (by omega) (0) (Or.inl rfl) hF hRK hRN hDN hSK hSN hOK hON) (cwV 2 hM.2.2.2.2 gX3_step_X3_doNextStep rfl rfl rfl (by decide +kernel) ⟨(Nat.le_of_ble_eq_true rfl), (Nat.le_of_ble_eq_true rfl)⟩) (y_recv hC hF.1 rfl rfl) rfl hl.1 rfl (Nat.le_of_ble_eq_true rfl) dX3_step_7 ⟨(Nat.le_of_ble_eq_true rfl), (Nat.le_of_ble_eq_true rfl)⟩ (fun E ce q9 u1 H locs hx hC hce hcv hcl => by
      obtain ⟨x, rfl, hx, hu⟩ := hx; rw [hu] at hC; clear hu; try dsimp only at hx
      exact y_out hto hlk hC hce hcv hcl ⟨x, rfl, (by (try dsimp only); omega), rfl⟩ (Nat.le_of_ble_eq_true rfl) (Nat.le_of_ble_eq_true rfl)) (fun v u1 H locs hp hC => ?_)
  obtain ⟨r_7, rfl, h_7, hu⟩ := hp; rw [hu] at hC; clear hu
  try dsimp only at h_7
  refine W.eq (g2 := F0 m 10 ls [.int (iI (r_7))]) rfl ?_
  exact y_iret hM hr hlk hC ⟨_, rfl, ⟨h_7.1, by omega, by omega, h_3.2.2, h_7.2⟩, rfl⟩ (Nat.le_of_ble_eq_true rfl) (Nat.le_of_ble_eq_true rfl) dX3_step_10

set_option maxRecDepth 100000 in
set_option maxHeartbeats 8000000 in
theorem c_force (l : Launch) (hfl : l.stackTraces = false) (G : GG) (b0 : Nat) (ks : KK) (ad : AD) (T : TT) (P : PP) (z : Int) (hz : inI z) (hF : FI ks ad P) (hRK : RK ks ad P) (hRN : RN T) (hDN : DN T) (hSK : SK ks ad T P) (hSN : SN T) (hOK : OK1 ks ad T P) (hON : ON T)  : vx_Met l yX3_force wsX3_force (rmX 10 6 36 182) (va_Pc [.ref (ad 0 0), .int (iI (z))] (Ok G b0 (ks, ad, T, P))) (Qr (pI (fun r => r = lateT T z.toNat (T 0 0 5) ∧ 10 < r ∧ 0 ≤ z ∧ z < T 0 0 8 ∧ T 11 z.toNat 3 ≠ 3 ∧ (T 11 z.toNat 3 = 2 → gotT T z.toNat 1 + lakT T z.toNat (lateT T z.toNat (T 0 0 5)) 1 ≤ 100000000)) (ks, ad, stpT T z.toNat 1, P)) G b0) (Xr (pX (fun x => (x = 3 ∧ (z < 0 ∨ T 0 0 8 ≤ z)) ∨ (x = 2 ∧ 0 ≤ z ∧ z < T 0 0 8 ∧ (T 11 z.toNat 3 = 3 ∨ lateT T z.toNat (T 0 0 5) ≤ 10 ∨ (T 11 z.toNat 3 = 2 ∧ 100000000 < gotT T z.toNat 1 + lakT T z.toNat (lateT T z.toNat (T 0 0 5)) 1)))) (ks, ad, T, P)) G b0) 6 36 (Wx b0) := by
  refine vx_ofW (cc := cX3_force) (maxL := 3) (ret := (some .int)) (by decide +kernel) rfl ?_
  intro p e s m args below meth c s₁ B hml hto hv
  obtain ⟨rfl, hok⟩ := hv
  have hM : CallFix p m c cX3_force 3 s _ wsX3_force RX3 := ⟨B.exec, B.bytes, hml, findClass_of_methodNamed B.named, atoms_spec (ws := wsX3_force) B.pre⟩
  have hr := B.returns
  have hlk := B.notSynchronized
  have hC := hok.cur
  have hl := lv_entry ([.ref (ad 0 0), .int (iI (z))]) (n := 3) (Nat.le_of_ble_eq_true rfl)
  rw [lg_entry_eq]
  generalize (lg_sl ([.ref (ad 0 0), .int (iI (z))]) ++ List.replicate (3 - (lg_sl ([.ref (ad 0 0), .int (iI (z))])).length) Slot.unset).toArray = ls at hl ⊢
  have hl : lv_has ls 3 [(0, .ref (ad 0 0)), (1, .int (iI (z)))] := hl
  obtain ⟨hd0, hd1, hd2, hd3⟩ := id hDN
  refine y_aload_n hM hl 0 rfl rfl dX3_force_0 ?_
  refine y_iload_n hM hl 1 rfl rfl dX3_force_1 ?_
  refine y_callV hM hC (c_openOrderAt l hfl G b0 ks ad T P (z) (by constructor <;> omega) hF hOK hON) (cwV 1 hM.2.2.2.2 gX3_force_X3_openOrderAt rfl rfl rfl (by decide +kernel) ⟨(Nat.le_of_ble_eq_true rfl), (Nat.le_of_ble_eq_true rfl)⟩) (y_recv hC hF.1 rfl rfl) rfl hl.1 rfl (Nat.le_of_ble_eq_true rfl) dX3_force_2 ⟨(Nat.le_of_ble_eq_true rfl), (Nat.le_of_ble_eq_true rfl)⟩ (fun E ce q9 u1 H locs hx hC hce hcv hcl => by
      obtain ⟨x, rfl, hx, hu⟩ := hx; rw [hu] at hC; clear hu; try dsimp only at hx
      exact y_out hto hlk hC hce hcv hcl ⟨x, rfl, (by (try dsimp only); omega), rfl⟩ (Nat.le_of_ble_eq_true rfl) (Nat.le_of_ble_eq_true rfl)) (fun v u1 H locs hp hC => ?_)
  obtain ⟨rfl, h_2, hu⟩ := hp; rw [hu] at hC; clear hu
  try dsimp only at h_2
  refine W.eq (g2 := F0 m 5 ls [.ref (ad 11 (z).toNat)]) rfl ?_
  have ho := hON z.toNat (by omega)
  refine lv_astore_n (lv' := [(2, .ref (ad 11 (z).toNat)), (0, .ref (ad 0 0)), (1, .int (iI (z)))]) hM.1 hM.2.1 dX3_force_5 rfl hl (by decide) rfl (fun ls hl => ?_)
  refine y_aload_n hM hl 0 rfl rfl dX3_force_6 ?_
  refine y_aload_n hM hl 1 rfl rfl dX3_force_7 ?_
  refine y_get hM hC hF.1 rfl rfl (by decide +kernel) 5 ⟨by decide, rfl, rfl, rfl⟩ (by decide +kernel) rfl dX3_force_8 ?_
  refine y_callV hM hC (c_latenessOn l hfl G b0 ks ad T P (z).toNat (hOK.2.2.2 _ (by omega)).1 (T 0 0 5) (by constructor <;> omega) ⟨by omega, by omega⟩ ⟨by omega, by omega⟩) (cwV 1 hM.2.2.2.2 gX3_force_X0_latenessOn rfl rfl rfl (by decide +kernel) ⟨(Nat.le_of_ble_eq_true rfl), (Nat.le_of_ble_eq_true rfl)⟩) (y_recv hC (hOK.2.2.2 _ (by omega)).1 rfl rfl) rfl hl.1 rfl (Nat.le_of_ble_eq_true rfl) dX3_force_11 ⟨(Nat.le_of_ble_eq_true rfl), (Nat.le_of_ble_eq_true rfl)⟩ (fun E ce q9 u1 H locs hx hC hce hcv hcl => hx.elim) (fun v u1 H locs hp hC => ?_)
  obtain ⟨r_11, rfl, h_11, hu⟩ := hp; rw [hu] at hC; clear hu
  try dsimp only at h_11
  refine W.eq (g2 := F0 m 14 ls [.int (iI (r_11))]) rfl ?_
  have hl_11 := lateT_in (T := T) (k := z.toNat) (by omega) (d := T 0 0 5) ⟨by omega, by omega⟩
  refine y_bipush hM dX3_force_14 (by decide) ?_
  refine y_icmp_gt hM (by constructor <;> omega) (by constructor <;> omega) (tgt := 29) dX3_force_16 (by decide) (fun c_16 => ?_) (fun c_16 => ?_)
  ·
    refine y_aload_n hM hl 1 rfl rfl dX3_force_29 ?_
    refine y_aload_n hM hl 0 rfl rfl dX3_force_30 ?_
    refine y_iconst hM dX3_force_31 ?_
    refine y_callV hM hC (c_doNextStep l hfl G b0 ks ad T P (z).toNat (by omega) (1) (Or.inr rfl) hF hRK hRN hDN hSK hSN hOK hON) (cwV 2 hM.2.2.2.2 gX3_force_X3_doNextStep rfl rfl rfl (by decide +kernel) ⟨(Nat.le_of_ble_eq_true rfl), (Nat.le_of_ble_eq_true rfl)⟩) (y_recv hC hF.1 rfl rfl) rfl hl.1 rfl (Nat.le_of_ble_eq_true rfl) dX3_force_32 ⟨(Nat.le_of_ble_eq_true rfl), (Nat.le_of_ble_eq_true rfl)⟩ (fun E ce q9 u1 H locs hx hC hce hcv hcl => by
        obtain ⟨x, rfl, hx, hu⟩ := hx; rw [hu] at hC; clear hu; try dsimp only at hx
        exact y_out hto hlk hC hce hcv hcl ⟨x, rfl, (by (try dsimp only); omega), rfl⟩ (Nat.le_of_ble_eq_true rfl) (Nat.le_of_ble_eq_true rfl)) (fun v u1 H locs hp hC => ?_)
    obtain ⟨r_32, rfl, h_32, hu⟩ := hp; rw [hu] at hC; clear hu
    try dsimp only at h_32
    refine W.eq (g2 := F0 m 35 ls [.int (iI (r_32))]) rfl ?_
    exact y_iret hM hr hlk hC ⟨_, rfl, ⟨h_32.1, by omega, by omega, by omega, h_2.2.2, h_32.2⟩, rfl⟩ (Nat.le_of_ble_eq_true rfl) (Nat.le_of_ble_eq_true rfl) dX3_force_35
  ·
    exact y_throw hM hto hfl hlk hl.1 hC caS (text := "the step is not late enough to be forced") (by decide +kernel) ngS goS ⟨(by decide +kernel), (by decide +kernel)⟩ (by decide +kernel) dX3_force_19 dX3_force_22 dX3_force_23 dX3_force_25 dX3_force_28 ⟨(Nat.le_of_ble_eq_true rfl), (Nat.le_of_ble_eq_true rfl), (Nat.le_of_ble_eq_true rfl), (Nat.le_of_ble_eq_true rfl)⟩ ⟨2, rfl, (by (try dsimp only); omega), rfl⟩ (Nat.le_of_ble_eq_true rfl) (Nat.le_of_ble_eq_true rfl)
end
section
def zrT (T : TT) (t i : Nat) : TT := fun a b c => if a = t ∧ b = i then 0 else T a b c
def zrP (P : PP) (t i : Nat) : PP := fun a b c => if a = t ∧ b = i then none else P a b c
theorem zrT_row (T : TT) (t i : Nat) : zrT T t i t i = fun _ => 0 := by
  funext c
  simp [zrT]
theorem zrP_row (P : PP) (t i : Nat) : zrP P t i t i = fun _ => none := by
  funext c
  simp [zrP]
theorem zrT_ne {T : TT} {t i a b : Nat} (h : ¬ (a = t ∧ b = i)) : zrT T t i a b = T a b := by
  funext c
  simp only [zrT]
  rw [if_neg h]
theorem zrP_ne {P : PP} {t i a b : Nat} (h : ¬ (a = t ∧ b = i)) : zrP P t i a b = P a b := by
  funext c
  simp only [zrP]
  rw [if_neg h]
theorem cF_zr {cy : Nat → ClassId} {t i : Nat} {e : va_E} {T : TT} {P : PP} (h : e = cF cy t (fun _ => 0) (fun _ => none)) : e = cF cy t (zrT T t i t i) (zrP P t i t i) := by
  rw [zrT_row, zrP_row]
  exact h
theorem zr_in {ks : KK} {t i a b : Nat} (hk : (t, i) ∉ ks) (h : (a, b) ∈ ks) : ¬ (a = t ∧ b = i) := fun ⟨h1, h2⟩ => hk (by rw [← h1, ← h2]; exact h)
section YN
variable {p : Program} {l : Launch} {e : Env} {R : Room} {s : State} {m : MethodId} {args : Array Value} {below : List Frame} {meth : Method} {c : Code} {H : Heap} {locs : List Loc} {cells slots : Nat} {Q : State → Prop}
variable {cc : ByteArray} {nL : Nat} {Ts : List Cond} {own : String} {pc : Nat} {ls : Array Slot} {rest : List Value}
variable {G : GG} {b0 : Nat} {ks : KK} {ad : AD} {T : TT} {P : PP}
theorem y_new (hM : CallFix p m c cc nL s args Ts own) (hC : Cur G b0 (ks, ad, T, P) s H locs) {t i ci index N : Nat} {C : String} {Tc : u_T} (hk : (t, i) ∉ ks) (hc : vwCl[ci]? = some (C, Tc, N)) (hin : ∀ w ∈ u_ws C Tc N, w ∈ Ts) (ty : Nat → FieldType) (hty : ∀ k, k < N → parseFieldDescriptor (Tc k).2.2.1 = some (ty k)) (hw : Cond.classLink own index C ∈ Ts ∧ Cond.instantiable C N ∈ Ts ∧ Cond.initialized C ∈ Ts) {fs : List Value} (hfs : ∀ j, j < N → defaultValue (ty j) = vp_V fs j) (he : .inr (ci, fs) = cF G.2 t (fun _ => 0) (fun _ => none)) (hR : cells + 1 ≤ R.cells ∧ slots + N ≤ R.slots) (hdg : decode cc pc = .ok (.new index, 3))
    (kk : ∀ (q : Nat) (H1 : Heap), Cur G b0 (ks ++ [(t, i)], upA ad t i q, zrT T t i, zrP P t i) s H1 locs → W p l e R s m args below meth c H1 locs (cells + 1) (slots + N) Q (F0 m (pc + 3) ls (.ref (upA ad t i q t i) :: rest))) : W p l e R s m args below meth c H locs cells slots Q (F0 m pc ls rest) := by
  obtain ⟨q1, q2, q3, q4, q5⟩ := hC
  refine va_new hM.1 hM.2.1 hM.2.2.2.2 hin ty hty hM.2.2.2.1 (hM.2.2.2.2 _ hw.1) (hM.2.2.2.2 _ hw.2.1) (hM.2.2.2.2 _ hw.2.2) q2 q4.1 q4.2 q5 (fun q h => Nat.le_trans q1 h) hc hfs hR.1 hR.2 hdg (fun q H1 hP1 hD1 hS1 => ?_)
  rw [WO_push hk (cF_zr he) (fun a b h => zrT_ne (zr_in hk h)) (fun a b h => zrP_ne (zr_in hk h))] at hP1 hD1
  have h := kk q H1 ⟨q1, q2, q3, ⟨hP1, hD1⟩, hS1⟩
  rw [upA_s] at h
  exact h
theorem y_newI (hM : CallFix p m c cc nL s args Ts own) (hC : Cur G b0 (ks, ad, T, P) s H locs) {t i n : Nat} (hk : (t, i) ∉ ks) (he : ∀ f g, cF G.2 t f g = eI (G.2 5) n f) (hn : n < 100000) (hw : Cond.arrayClass .int ∈ Ts) (hR : cells + 1 ≤ R.cells ∧ slots + n ≤ R.slots) (hdg : decode cc pc = .ok (.newarray .int, 2))
    (kk : ∀ (q : Nat) (H1 : Heap), Cur G b0 (ks ++ [(t, i)], upA ad t i q, zrT T t i, zrP P t i) s H1 locs → W p l e R s m args below meth c H1 locs (cells + 1) (slots + n) Q (F0 m (pc + 2) ls (.ref (upA ad t i q t i) :: rest))) : W p l e R s m args below meth c H locs cells slots Q (F0 m pc ls (.int (iI (n : Int)) :: rest)) := by
  obtain ⟨q1, q2, q3, q4, q5⟩ := hC
  have hi : inI (n : Int) := ⟨by omega, by omega⟩
  refine va_newa (atype := .int) (ty := .int) (a0 := (n, .inl (fun _ => 0))) hM.1 hM.2.1 (hM.2.2.2.2 _ hw) rfl q2 q4.1 q4.2 q5 (fun q h => Nat.le_trans q1 h) (fun _ => rfl) (fun h => by have := (iI_lt hi ⟨by omega, by omega⟩ (b := 0)).mp h; omega) (by rw [iI_cl hi]; exact Int.toNat_natCast n) (by show n * 4 ≤ _; omega) hR.1 hR.2 hdg (fun q cA H1 hK1 hP1 hD1 hS1 => ?_)
  have h1 : s.vm.findClass ("[" ++ FieldType.int.toString) = some cA := (hK1.2 7 (cA, .int) rfl).2
  have h2 : s.vm.findClass ("[" ++ FieldType.int.toString) = some (G.2 5) := (q2.2 5 (G.2 5, .int) rfl).2
  have h3 : cA = G.2 5 := Option.some.inj (h1.symm.trans h2)
  subst h3
  rw [WO_push hk (T' := zrT T t i) (P' := zrP P t i) (cF_zr (by rw [he]; rfl)) (fun a b h => zrT_ne (zr_in hk h)) (fun a b h => zrP_ne (zr_in hk h))] at hP1 hD1
  have h := kk q H1 ⟨q1, q2, q3, ⟨hP1, hD1⟩, hS1⟩
  rw [upA_s] at h
  exact h
theorem y_newZ (hM : CallFix p m c cc nL s args Ts own) (hC : Cur G b0 (ks, ad, T, P) s H locs) {t i n : Nat} (hk : (t, i) ∉ ks) (he : ∀ f g, cF G.2 t f g = eI (G.2 6) n f) (hn : n < 100000) (hw : Cond.arrayClass .boolean ∈ Ts) (hR : cells + 1 ≤ R.cells ∧ slots + n ≤ R.slots) (hdg : decode cc pc = .ok (.newarray .boolean, 2))
    (kk : ∀ (q : Nat) (H1 : Heap), Cur G b0 (ks ++ [(t, i)], upA ad t i q, zrT T t i, zrP P t i) s H1 locs → W p l e R s m args below meth c H1 locs (cells + 1) (slots + n) Q (F0 m (pc + 2) ls (.ref (upA ad t i q t i) :: rest))) : W p l e R s m args below meth c H locs cells slots Q (F0 m pc ls (.int (iI (n : Int)) :: rest)) := by
  obtain ⟨q1, q2, q3, q4, q5⟩ := hC
  have hi : inI (n : Int) := ⟨by omega, by omega⟩
  refine va_newa (atype := .boolean) (ty := .boolean) (a0 := (n, .inl (fun _ => 0))) hM.1 hM.2.1 (hM.2.2.2.2 _ hw) rfl q2 q4.1 q4.2 q5 (fun q h => Nat.le_trans q1 h) (fun _ => rfl) (fun h => by have := (iI_lt hi ⟨by omega, by omega⟩ (b := 0)).mp h; omega) (by rw [iI_cl hi]; exact Int.toNat_natCast n) (by show n * 1 ≤ _; omega) hR.1 hR.2 hdg (fun q cA H1 hK1 hP1 hD1 hS1 => ?_)
  have h1 : s.vm.findClass ("[" ++ FieldType.boolean.toString) = some cA := (hK1.2 7 (cA, .boolean) rfl).2
  have h2 : s.vm.findClass ("[" ++ FieldType.boolean.toString) = some (G.2 6) := (q2.2 6 (G.2 6, .boolean) rfl).2
  have h3 : cA = G.2 6 := Option.some.inj (h1.symm.trans h2)
  subst h3
  rw [WO_push hk (T' := zrT T t i) (P' := zrP P t i) (cF_zr (by rw [he]; rfl)) (fun a b h => zrT_ne (zr_in hk h)) (fun a b h => zrP_ne (zr_in hk h))] at hP1 hD1
  have h := kk q H1 ⟨q1, q2, q3, ⟨hP1, hD1⟩, hS1⟩
  rw [upA_s] at h
  exact h
theorem y_newJ (hM : CallFix p m c cc nL s args Ts own) (hC : Cur G b0 (ks, ad, T, P) s H locs) {t i n : Nat} (hk : (t, i) ∉ ks) (he : ∀ f g, cF G.2 t f g = eJ (G.2 2) n f) (hn : n < 100000) (hw : Cond.arrayClass .long ∈ Ts) (hR : cells + 1 ≤ R.cells ∧ slots + n ≤ R.slots) (hdg : decode cc pc = .ok (.newarray .long, 2))
    (kk : ∀ (q : Nat) (H1 : Heap), Cur G b0 (ks ++ [(t, i)], upA ad t i q, zrT T t i, zrP P t i) s H1 locs → W p l e R s m args below meth c H1 locs (cells + 1) (slots + n) Q (F0 m (pc + 2) ls (.ref (upA ad t i q t i) :: rest))) : W p l e R s m args below meth c H locs cells slots Q (F0 m pc ls (.int (iI (n : Int)) :: rest)) := by
  obtain ⟨q1, q2, q3, q4, q5⟩ := hC
  have hi : inI (n : Int) := ⟨by omega, by omega⟩
  refine va_newa (atype := .long) (ty := .long) (a0 := (n, .inr (.inl (fun _ => 0)))) hM.1 hM.2.1 (hM.2.2.2.2 _ hw) rfl q2 q4.1 q4.2 q5 (fun q h => Nat.le_trans q1 h) (fun _ => rfl) (fun h => by have := (iI_lt hi ⟨by omega, by omega⟩ (b := 0)).mp h; omega) (by rw [iI_cl hi]; exact Int.toNat_natCast n) (by show n * 8 ≤ _; omega) hR.1 hR.2 hdg (fun q cA H1 hK1 hP1 hD1 hS1 => ?_)
  have h1 : s.vm.findClass ("[" ++ FieldType.long.toString) = some cA := (hK1.2 7 (cA, .long) rfl).2
  have h2 : s.vm.findClass ("[" ++ FieldType.long.toString) = some (G.2 2) := (q2.2 2 (G.2 2, .long) rfl).2
  have h3 : cA = G.2 2 := Option.some.inj (h1.symm.trans h2)
  subst h3
  rw [WO_push hk (T' := zrT T t i) (P' := zrP P t i) (cF_zr (by rw [he]; rfl)) (fun a b h => zrT_ne (zr_in hk h)) (fun a b h => zrP_ne (zr_in hk h))] at hP1 hD1
  have h := kk q H1 ⟨q1, q2, q3, ⟨hP1, hD1⟩, hS1⟩
  rw [upA_s] at h
  exact h
theorem y_newQ (hM : CallFix p m c cc nL s args Ts own) (hC : Cur G b0 (ks, ad, T, P) s H locs) {t i n index : Nat} {C : String} {cA0 : ClassId} (t0 : Nat) (hk : (t, i) ∉ ks) (hCm : C ∈ [RX0, RX1, RX2]) (ht : (tyW G.2)[t0]? = some (cA0, .object C)) (he : ∀ f g, cF G.2 t f g = eQ cA0 n g) (hn : n < 100000) (hw : Cond.classLink own index C ∈ Ts) (hR : cells + 1 ≤ R.cells ∧ slots + n ≤ R.slots) (hdg : decode cc pc = .ok (.anewarray index, 3))
    (kk : ∀ (q : Nat) (H1 : Heap), Cur G b0 (ks ++ [(t, i)], upA ad t i q, zrT T t i, zrP P t i) s H1 locs → W p l e R s m args below meth c H1 locs (cells + 1) (slots + n) Q (F0 m (pc + 3) ls (.ref (upA ad t i q t i) :: rest))) : W p l e R s m args below meth c H locs cells slots Q (F0 m pc ls (.int (iI (n : Int)) :: rest)) := by
  obtain ⟨q1, q2, q3, q4, q5⟩ := hC
  have hi : inI (n : Int) := ⟨by omega, by omega⟩
  refine va_newq hM.1 hM.2.1 hM.2.2.2.1 (hM.2.2.2.2 _ hw) (q3.2.2.2.2.2.2.1 C hCm) q2 q4.1 q4.2 q5 (fun q h => Nat.le_trans q1 h) (fun h => by have := (iI_lt hi ⟨by omega, by omega⟩ (b := 0)).mp h; omega) (by rw [iI_cl hi]; exact Int.toNat_natCast n) (by omega) hR.1 hR.2 hdg (fun q cA H1 hK1 hP1 hD1 hS1 => ?_)
  obtain ⟨_, _, -, -, -, h1⟩ := (hK1.2 7 (cA, .object C) rfl).2
  obtain ⟨_, _, -, -, -, h2⟩ := (q2.2 t0 (cA0, .object C) ht).2
  have h3 : cA = cA0 := Option.some.inj (h1.symm.trans h2)
  subst h3
  rw [WO_push hk (T' := zrT T t i) (P' := zrP P t i) (cF_zr (by rw [he])) (fun a b h => zrT_ne (zr_in hk h)) (fun a b h => zrP_ne (zr_in hk h))] at hP1 hD1
  have h := kk q H1 ⟨q1, q2, q3, ⟨hP1, hD1⟩, hS1⟩
  rw [upA_s] at h
  exact h
theorem y_aast (hM : CallFix p m c cc nL s args Ts own) (hC : Cur G b0 (ks, ad, T, P) s H locs) {t i tv iv n ci : Nat} {cA : ClassId} {r : vw_C} {vs : List Value} (t0 : Nat) (hk : (t, i) ∈ ks) (hkv : (tv, iv) ∈ ks) (he : ∀ f g, cF G.2 t f g = eQ cA n g) (ht : (tyW G.2)[t0]? = some (cA, .object r.1)) (hev : cF G.2 tv (T tv iv) (P tv iv) = .inr (ci, vs)) (hc : vwCl[ci]? = some r) {z : Int} (hz : 0 ≤ z ∧ z < (n : Int)) (hn : n < 2147483648) (hdg : decode cc pc = .ok (.aastore, 1))
    (kk : ∀ (H1 : Heap) (locs1 : List Loc), Cur G b0 (ks, ad, T, upP P t i z.toNat (some (ad tv iv))) s H1 locs1 → W p l e R s m args below meth c H1 locs1 cells slots Q (F0 m (pc + 1) ls rest)) : W p l e R s m args below meth c H locs cells slots Q (F0 m pc ls (.ref (ad tv iv) :: .int (iI z) :: .ref (ad t i) :: rest)) := by
  obtain ⟨j, hj⟩ := List.getElem?_of_mem hk
  have he2 := WO_get (G := G) (ad := ad) (T := T) (P := P) hj
  rw [he] at he2
  obtain ⟨jv, hjv⟩ := List.getElem?_of_mem hkv
  have hev2 := WO_get (G := G) (ad := ad) (T := T) (P := P) hjv
  rw [hev] at hev2
  have hi : inI z := ⟨by omega, by omega⟩
  obtain ⟨q1, q2, q3, q4, q5⟩ := hC
  refine va_astq hM.1 hM.2.1 q2 q4.1 q4.2 q5 j t0 jv ci he2 ht hev2 hc (iI_in hz.1 hz.2 hn) hdg (fun H1 locs1 hP1 hD1 hS1 => ?_)
  rw [iI_cl hi] at hP1 hD1
  rw [WO_set q4.2 hj (T' := T) (P' := upP P t i z.toNat (some (ad tv iv))) (by
    rw [he, upP_row]
    rfl) (fun _ _ _ => rfl) (fun a b h => upP_ne h)] at hP1 hD1
  exact kk H1 locs1 ⟨q1, q2, q3, ⟨hP1, hD1⟩, hS1⟩
end YN
end
section
theorem FI_new {ks : KK} {ad : AD} {P : PP} {t i q : Nat} (ht : 6 ≤ t) (h : FI ks ad P) : FI (ks ++ [(t, i)]) (upA ad t i q) (zrP P t i) := by
  obtain ⟨h0, h1, h2, h3, h4, h5, p0, p1, p2, p3, p4⟩ := h
  refine ⟨List.mem_append_left _ h0, List.mem_append_left _ h1, List.mem_append_left _ h2, List.mem_append_left _ h3, List.mem_append_left _ h4, List.mem_append_left _ h5, ?_, ?_, ?_, ?_, ?_⟩ <;> rw [zrP_ne (fun h => by have := h.1; omega), upA_ne (fun h => by have := h.1; omega)] <;> assumption
theorem RK_new {ks : KK} {ad : AD} {P : PP} {t i q : Nat} (ht : 10 ≤ t) (h : RK ks ad P) : RK (ks ++ [(t, i)]) (upA ad t i q) (zrP P t i) := by
  intro p hp
  obtain ⟨h6, h7, h8, h9, p1, p2, p3, p4⟩ := h p hp
  refine ⟨List.mem_append_left _ h6, List.mem_append_left _ h7, List.mem_append_left _ h8, List.mem_append_left _ h9, ?_, ?_, ?_, ?_⟩ <;> rw [zrP_ne (fun h => by have := h.1; omega), upA_ne (fun h => by have := h.1; omega)] <;> assumption
theorem RN_congr {T T' : TT} (h6 : ∀ p, T' 6 p = T 6 p) (h7 : ∀ p, T' 7 p = T 7 p) (h8 : ∀ p, T' 8 p = T 8 p) (h : RN T) : RN T' := by
  intro p hp
  rw [h6, h7, h8]
  exact h p hp
theorem RN_zr {T : TT} {t i : Nat} (ht : 10 ≤ t) (h : RN T) : RN (zrT T t i) := RN_congr (fun p => zrT_ne (fun q => by have := q.1; omega)) (fun p => zrT_ne (fun q => by have := q.1; omega)) (fun p => zrT_ne (fun q => by have := q.1; omega)) h
theorem valT_zr {T : TT} {t i : Nat} (ht : 10 ≤ t) (p : Nat) (d : Int) : valT (zrT T t i) p d = valT T p d :=
  valT_congr (zrT_ne (fun q => by have := q.1; omega)) (zrT_ne (fun q => by have := q.1; omega)) (zrT_ne (fun q => by have := q.1; omega)) d
theorem WO_ghost {G : GG} {ks : KK} {ad : AD} {T : TT} {P : PP} (k : Nat) (z : Int) : WO G (ks, ad, up T 11 k 10 z, P) = WO G (ks, ad, T, P) := by
  unfold WO
  apply List.map_congr_left
  rintro ⟨a, b⟩ -
  by_cases h : a = 11 ∧ b = k
  · obtain ⟨rfl, rfl⟩ := h
    refine congrArg (fun e => (ad 11 b, e)) ?_
    show cF G.2 11 (up T 11 b 10 z 11 b) (P 11 b) = cF G.2 11 (T 11 b) (P 11 b)
    rw [up_row]
    rfl
  · refine congrArg (fun e => (ad a b, e)) ?_
    show cF G.2 a (up T 11 k 10 z a b) (P a b) = cF G.2 a (T a b) (P a b)
    rw [up_ne h]
theorem Cur_ghost {G : GG} {b0 : Nat} {ks : KK} {ad : AD} {T : TT} {P : PP} {s : State} {H : Heap} {locs : List Loc} (k : Nat) (z : Int) (h : Cur G b0 (ks, ad, T, P) s H locs) : Cur G b0 (ks, ad, up T 11 k 10 z, P) s H locs := by
  unfold Cur At at h ⊢
  rw [WO_ghost]
  exact h
def oriT (T : TT) (k : Nat) (h to d : Int) : TT := up (up (up (up (up (up (up (up (up T 11 k 3 0) 11 k 5 0) 11 k 6 0) 11 k 7 0) 11 k 8 0) 11 k 9 0) 11 k 1 h) 11 k 2 to) 11 k 4 d
def begT (T : TT) (z v : Int) : TT := up (up (up (up (zrT T 10 (T 0 0 7).toNat) 10 (T 0 0 7).toNat 2 0) 10 (T 0 0 7).toNat 0 z) 10 (T 0 0 7).toNat 1 (thF v (valT T z.toNat (T 0 0 5)))) 0 0 7 (T 0 0 7 + 1)
def ordT (T : TT) (z to : Int) : TT := up (up (oriT (up (zrT T 11 (T 0 0 8).toNat) 11 (T 0 0 8).toNat 10 z) (T 0 0 8).toNat (T 10 z.toNat 0) to (T 0 0 5)) 0 0 8 (T 0 0 8 + 1)) 10 z.toNat 2 1
end
section
set_option maxRecDepth 100000 in
set_option maxHeartbeats 8000000 in
theorem c_Order_init (l : Launch) (hfl : l.stackTraces = false) (G : GG) (b0 : Nat) (ks : KK) (ad : AD) (T : TT) (P : PP) (k i : Nat) (hk : (11, k) ∈ ks) (hki : (10, i) ∈ ks) (to dd : Int) : vx_Met l yX0_init wsX0_init (rmX 1 0 0 12) (va_Pc [.ref (ad 11 k), .ref (ad 10 i), .int (iI (to)), .int (iI (dd))] (Ok G b0 (ks, ad, T, P))) (Qr (pV True (ks, ad, oriT T k (T 10 i 0) to dd, upP P 11 k 0 (some (ad 10 i)))) G b0) (Xr (noX) G b0) 0 0 (Wx b0) := by
  refine vx_ofW (cc := cX0_init) (maxL := 4) (ret := none) (by decide +kernel) rfl ?_
  intro p e s m args below meth c s₁ B hml hto hv
  obtain ⟨rfl, hok⟩ := hv
  have hM : CallFix p m c cX0_init 4 s _ wsX0_init RX0 := ⟨B.exec, B.bytes, hml, findClass_of_methodNamed B.named, atoms_spec (ws := wsX0_init) B.pre⟩
  have hr := B.returns
  have hlk := B.notSynchronized
  have hC := hok.cur
  have hin2 : meth.name = "<init>" := (name_of_methodNamed B.named B.method).1
  have hl := lv_entry ([.ref (ad 11 k), .ref (ad 10 i), .int (iI (to)), .int (iI (dd))]) (n := 4) (Nat.le_of_ble_eq_true rfl)
  rw [lg_entry_eq]
  generalize (lg_sl ([.ref (ad 11 k), .ref (ad 10 i), .int (iI (to)), .int (iI (dd))]) ++ List.replicate (4 - (lg_sl ([.ref (ad 11 k), .ref (ad 10 i), .int (iI (to)), .int (iI (dd))])).length) Slot.unset).toArray = ls at hl ⊢
  have hl : lv_has ls 4 [(0, .ref (ad 11 k)), (1, .ref (ad 10 i)), (2, .int (iI (to))), (3, .int (iI (dd)))] := hl
  refine y_aload_n hM hl 0 rfl rfl dX0_init_0 ?_
  refine W.objInit hM.1 hM.2.1 hM.2.2.2.1 (hM.2.2.2.2 (.methodLink RX0 3 objectInit) (by decide +kernel)) (hM.2.2.2.2 (.instanceMethod objectInit) (by decide +kernel)) (hM.2.2.2.2 (.code objectInit ⟨#[0xb1]⟩ 1 none) (by decide +kernel)) rfl (by rw [hM.2.2.1]; exact hl.1) rfl dX0_init_1 (Nat.le_of_ble_eq_true rfl) (Nat.le_of_ble_eq_true rfl) ?_
  refine W.eq (g2 := F0 m 4 ls []) rfl ?_
  refine y_aload_n hM hl 0 rfl rfl dX0_init_4 ?_
  refine y_iconst hM dX0_init_5 ?_
  refine y_put hM hC hk rfl rfl (by decide +kernel) tyX0 tyX0_ok nmX0 3 ⟨by decide, rfl, rfl, rfl, rfl⟩ (by decide +kernel) (ty := .int) (by decide +kernel) rfl rfl (Nat.le_of_ble_eq_true rfl) (T' := (up T 11 k 3 (0))) (P' := P) (cF_up rfl) (fun _ _ h => up_ne h) (fun _ _ _ => rfl) dX0_init_6 (fun H locs hC => ?_)
  refine y_aload_n hM hl 0 rfl rfl dX0_init_9 ?_
  refine y_iconst hM dX0_init_10 ?_
  refine y_put hM hC hk rfl rfl (by decide +kernel) tyX0 tyX0_ok nmX0 5 ⟨by decide, rfl, rfl, rfl, rfl⟩ (by decide +kernel) (ty := .int) (by decide +kernel) rfl rfl (Nat.le_of_ble_eq_true rfl) (T' := (up (up T 11 k 3 (0)) 11 k 5 (0))) (P' := P) (cF_up rfl) (fun _ _ h => up_ne h) (fun _ _ _ => rfl) dX0_init_11 (fun H locs hC => ?_)
  refine y_aload_n hM hl 0 rfl rfl dX0_init_14 ?_
  refine y_iconst hM dX0_init_15 ?_
  refine y_put hM hC hk rfl rfl (by decide +kernel) tyX0 tyX0_ok nmX0 6 ⟨by decide, rfl, rfl, rfl, rfl⟩ (by decide +kernel) (ty := .int) (by decide +kernel) rfl rfl (Nat.le_of_ble_eq_true rfl) (T' := (up (up (up T 11 k 3 (0)) 11 k 5 (0)) 11 k 6 (0))) (P' := P) (cF_up rfl) (fun _ _ h => up_ne h) (fun _ _ _ => rfl) dX0_init_16 (fun H locs hC => ?_)
  refine y_aload_n hM hl 0 rfl rfl dX0_init_19 ?_
  refine y_lconst hM 0 (by decide) dX0_init_20 ?_
  refine y_put hM hC hk rfl rfl (by decide +kernel) tyX0 tyX0_ok nmX0 7 ⟨by decide, rfl, rfl, rfl, rfl⟩ (by decide +kernel) (ty := .long) (by decide +kernel) rfl rfl (Nat.le_of_ble_eq_true rfl) (T' := (up (up (up (up T 11 k 3 (0)) 11 k 5 (0)) 11 k 6 (0)) 11 k 7 (0))) (P' := P) (cF_up rfl) (fun _ _ h => up_ne h) (fun _ _ _ => rfl) dX0_init_21 (fun H locs hC => ?_)
  refine y_aload_n hM hl 0 rfl rfl dX0_init_24 ?_
  refine y_lconst hM 0 (by decide) dX0_init_25 ?_
  refine y_put hM hC hk rfl rfl (by decide +kernel) tyX0 tyX0_ok nmX0 8 ⟨by decide, rfl, rfl, rfl, rfl⟩ (by decide +kernel) (ty := .long) (by decide +kernel) rfl rfl (Nat.le_of_ble_eq_true rfl) (T' := (up (up (up (up (up T 11 k 3 (0)) 11 k 5 (0)) 11 k 6 (0)) 11 k 7 (0)) 11 k 8 (0))) (P' := P) (cF_up rfl) (fun _ _ h => up_ne h) (fun _ _ _ => rfl) dX0_init_26 (fun H locs hC => ?_)
  refine y_aload_n hM hl 0 rfl rfl dX0_init_29 ?_
  refine y_lconst hM 0 (by decide) dX0_init_30 ?_
  refine y_put hM hC hk rfl rfl (by decide +kernel) tyX0 tyX0_ok nmX0 9 ⟨by decide, rfl, rfl, rfl, rfl⟩ (by decide +kernel) (ty := .long) (by decide +kernel) rfl rfl (Nat.le_of_ble_eq_true rfl) (T' := (up (up (up (up (up (up T 11 k 3 (0)) 11 k 5 (0)) 11 k 6 (0)) 11 k 7 (0)) 11 k 8 (0)) 11 k 9 (0))) (P' := P) (cF_up rfl) (fun _ _ h => up_ne h) (fun _ _ _ => rfl) dX0_init_31 (fun H locs hC => ?_)
  refine y_aload_n hM hl 0 rfl rfl dX0_init_34 ?_
  refine y_aload_n hM hl 1 rfl rfl dX0_init_35 ?_
  refine y_putF hM hin2 hC hk rfl rfl (by decide +kernel) tyX0 tyX0_ok nmX0 0 ⟨by decide, rfl, rfl, rfl, rfl, rfl⟩ (by decide +kernel) (ty := (.object "FundMoves$Saver")) (by decide +kernel) rfl rfl (Nat.le_of_ble_eq_true rfl) (T' := (up (up (up (up (up (up T 11 k 3 (0)) 11 k 5 (0)) 11 k 6 (0)) 11 k 7 (0)) 11 k 8 (0)) 11 k 9 (0))) (P' := (upP P 11 k 0 (some (ad 10 i)))) (cF_upP rfl) (fun _ _ _ => rfl) (fun _ _ h => upP_ne h) dX0_init_36 (fun H locs hC => ?_)
  refine y_aload_n hM hl 0 rfl rfl dX0_init_39 ?_
  refine y_aload_n hM hl 1 rfl rfl dX0_init_40 ?_
  refine y_getN hM hC hki rfl rfl (by decide +kernel) 0 0 ⟨by decide, rfl, rfl, rfl⟩ (by decide +kernel) (congrArg (fun q => some (Value.int (iI q))) (show (up (up (up (up (up (up T 11 k 3 (0)) 11 k 5 (0)) 11 k 6 (0)) 11 k 7 (0)) 11 k 8 (0)) 11 k 9 (0)) 10 i 0 = T 10 i 0 from by simp [up, zrT])) dX0_init_41 ?_
  refine y_putF hM hin2 hC hk rfl rfl (by decide +kernel) tyX0 tyX0_ok nmX0 1 ⟨by decide, rfl, rfl, rfl, rfl, rfl⟩ (by decide +kernel) (ty := .int) (by decide +kernel) rfl rfl (Nat.le_of_ble_eq_true rfl) (T' := (up (up (up (up (up (up (up T 11 k 3 (0)) 11 k 5 (0)) 11 k 6 (0)) 11 k 7 (0)) 11 k 8 (0)) 11 k 9 (0)) 11 k 1 (T 10 i 0))) (P' := (upP P 11 k 0 (some (ad 10 i)))) (cF_up rfl) (fun _ _ h => up_ne h) (fun _ _ _ => rfl) dX0_init_44 (fun H locs hC => ?_)
  refine y_aload_n hM hl 0 rfl rfl dX0_init_47 ?_
  refine y_iload_n hM hl 2 rfl rfl dX0_init_48 ?_
  refine y_putF hM hin2 hC hk rfl rfl (by decide +kernel) tyX0 tyX0_ok nmX0 2 ⟨by decide, rfl, rfl, rfl, rfl, rfl⟩ (by decide +kernel) (ty := .int) (by decide +kernel) rfl rfl (Nat.le_of_ble_eq_true rfl) (T' := (up (up (up (up (up (up (up (up T 11 k 3 (0)) 11 k 5 (0)) 11 k 6 (0)) 11 k 7 (0)) 11 k 8 (0)) 11 k 9 (0)) 11 k 1 (T 10 i 0)) 11 k 2 (to))) (P' := (upP P 11 k 0 (some (ad 10 i)))) (cF_up rfl) (fun _ _ h => up_ne h) (fun _ _ _ => rfl) dX0_init_49 (fun H locs hC => ?_)
  refine y_aload_n hM hl 0 rfl rfl dX0_init_52 ?_
  refine y_iload_n hM hl 3 rfl rfl dX0_init_53 ?_
  refine y_put hM hC hk rfl rfl (by decide +kernel) tyX0 tyX0_ok nmX0 4 ⟨by decide, rfl, rfl, rfl, rfl⟩ (by decide +kernel) (ty := .int) (by decide +kernel) rfl rfl (Nat.le_of_ble_eq_true rfl) (T' := (up (up (up (up (up (up (up (up (up T 11 k 3 (0)) 11 k 5 (0)) 11 k 6 (0)) 11 k 7 (0)) 11 k 8 (0)) 11 k 9 (0)) 11 k 1 (T 10 i 0)) 11 k 2 (to)) 11 k 4 (dd))) (P' := (upP P 11 k 0 (some (ad 10 i)))) (cF_up rfl) (fun _ _ h => up_ne h) (fun _ _ _ => rfl) dX0_init_54 (fun H locs hC => ?_)
  exact y_vret hM hr hlk hC ⟨rfl, trivial, rfl⟩ (Nat.le_of_ble_eq_true rfl) (Nat.le_of_ble_eq_true rfl) dX0_init_57

set_option maxRecDepth 100000 in
set_option maxHeartbeats 8000000 in
theorem c_begin (l : Launch) (hfl : l.stackTraces = false) (G : GG) (b0 : Nat) (ks : KK) (ad : AD) (T : TT) (P : PP) (z v : Int) (hz : inI z) (hv : inI v) (hfr : (10, (T 0 0 7).toNat) ∉ ks) (hF : FI ks ad P) (hRK : RK ks ad P) (hRN : RN T) (hDN : DN T) (h70 : 0 ≤ T 0 0 7 ∧ T 0 0 7 ≤ 10) : vx_Met l yX3_begin wsX3_begin (rmX 7 2 12 104) (va_Pc [.ref (ad 0 0), .int (iI (z)), .int (iI (v))] (Ok G b0 (ks, ad, T, P))) (Qr (fun w u1 => ∃ (r : Int) (q : Nat), w = some (.int (iI r)) ∧ (r = T 0 0 7 ∧ 0 ≤ z ∧ z < 5 ∧ 0 ≤ v ∧ v ≤ 1000000 ∧ T 0 0 7 < 10) ∧ u1 = (ks ++ [(10, (T 0 0 7).toNat)], upA ad 10 (T 0 0 7).toNat q, begT T z v, upP (zrP P 10 (T 0 0 7).toNat) 4 0 (T 0 0 7).toNat (some q))) G b0) (Xr (pX (fun x => (x = 1 ∧ (z < 0 ∨ 5 ≤ z ∨ v < 0 ∨ 1000000 < v)) ∨ (x = 2 ∧ 0 ≤ z ∧ z < 5 ∧ 0 ≤ v ∧ v ≤ 1000000 ∧ 10 ≤ T 0 0 7)) (ks, ad, T, P)) G b0) 2 12 (Wx b0) := by
  refine vx_ofW (cc := cX3_begin) (maxL := 5) (ret := (some .int)) (by decide +kernel) rfl ?_
  intro p e s m args below meth c s₁ B hml hto hv
  obtain ⟨rfl, hok⟩ := hv
  have hM : CallFix p m c cX3_begin 5 s _ wsX3_begin RX3 := ⟨B.exec, B.bytes, hml, findClass_of_methodNamed B.named, atoms_spec (ws := wsX3_begin) B.pre⟩
  have hr := B.returns
  have hlk := B.notSynchronized
  have hC := hok.cur
  have hl := lv_entry ([.ref (ad 0 0), .int (iI (z)), .int (iI (v))]) (n := 5) (Nat.le_of_ble_eq_true rfl)
  rw [lg_entry_eq]
  generalize (lg_sl ([.ref (ad 0 0), .int (iI (z)), .int (iI (v))]) ++ List.replicate (5 - (lg_sl ([.ref (ad 0 0), .int (iI (z)), .int (iI (v))])).length) Slot.unset).toArray = ls at hl ⊢
  have hl : lv_has ls 5 [(0, .ref (ad 0 0)), (1, .int (iI (z))), (2, .int (iI (v)))] := hl
  obtain ⟨hd0, hd1, hd2, hd3⟩ := id hDN
  refine y_aload_n hM hl 0 rfl rfl dX3_begin_0 ?_
  refine y_iload_n hM hl 1 rfl rfl dX3_begin_1 ?_
  refine y_callV hM hC (c_priceRowOf l hfl G b0 ks ad T P (z) (by constructor <;> omega) hF hRK) (cwV 1 hM.2.2.2.2 gX3_begin_X3_priceRowOf rfl rfl rfl (by decide +kernel) ⟨(Nat.le_of_ble_eq_true rfl), (Nat.le_of_ble_eq_true rfl)⟩) (y_recv hC hF.1 rfl rfl) rfl hl.1 rfl (Nat.le_of_ble_eq_true rfl) dX3_begin_2 ⟨(Nat.le_of_ble_eq_true rfl), (Nat.le_of_ble_eq_true rfl)⟩ (fun E ce q9 u1 H locs hx hC hce hcv hcl => by
      obtain ⟨x, rfl, hx, hu⟩ := hx; rw [hu] at hC; clear hu; try dsimp only at hx
      exact y_out hto hlk hC hce hcv hcl ⟨x, rfl, (by (try dsimp only); omega), rfl⟩ (Nat.le_of_ble_eq_true rfl) (Nat.le_of_ble_eq_true rfl)) (fun v u1 H locs hp hC => ?_)
  obtain ⟨rfl, h_2, hu⟩ := hp; rw [hu] at hC; clear hu
  try dsimp only at h_2
  refine W.eq (g2 := F0 m 5 ls [.ref (ad 6 (z).toNat)]) rfl ?_
  refine lv_astore_n (lv' := [(3, .ref (ad 6 (z).toNat)), (0, .ref (ad 0 0)), (1, .int (iI (z))), (2, .int (iI (v)))]) hM.1 hM.2.1 dX3_begin_5 rfl hl (by decide) rfl (fun ls hl => ?_)
  refine y_iload_n hM hl 3 rfl rfl dX3_begin_6 ?_
  refine y_iconst hM dX3_begin_7 ?_
  refine y_ldc hM (v := 1000000) (1000000) (by decide) (by decide +kernel) dX3_begin_8 ?_
  refine y_callS hM hC (c_isOutside l hfl G b0 (ks, ad, T, P) (v) (0) (1000000) (by constructor <;> omega) (by constructor <;> omega) (by constructor <;> omega)) (va_cwS 3 hM.2.2.2.2 gX3_begin_X3_isOutside rfl rfl rfl (by decide +kernel) ⟨(Nat.le_of_ble_eq_true rfl), (Nat.le_of_ble_eq_true rfl)⟩) rfl hl.1 rfl (Nat.le_of_ble_eq_true rfl) dX3_begin_10 ⟨(Nat.le_of_ble_eq_true rfl), (Nat.le_of_ble_eq_true rfl)⟩ (fun E ce q9 u1 H locs hx hC hce hcv hcl => hx.elim) (fun v u1 H locs hp hC => ?_)
  obtain ⟨r_10, rfl, h_10, hu⟩ := hp; rw [hu] at hC; clear hu
  try dsimp only at h_10
  refine W.eq (g2 := F0 m 13 ls [.int (iI (r_10))]) rfl ?_
  refine y_if_eq hM (by constructor <;> omega) (tgt := 26) dX3_begin_13 (by decide) (fun c_13 => ?_) (fun c_13 => ?_)
  ·
    refine y_aload_n hM hl 1 rfl rfl dX3_begin_26 ?_
    refine y_get hM hC hF.1 rfl rfl (by decide +kernel) 7 ⟨by decide, rfl, rfl, rfl⟩ (by decide +kernel) rfl dX3_begin_27 ?_
    refine lv_istore (lv' := [(4, .int (iI (T 0 0 7))), (3, .ref (ad 6 (z).toNat)), (0, .ref (ad 0 0)), (1, .int (iI (z))), (2, .int (iI (v)))]) hM.1 hM.2.1 dX3_begin_30 hl (by decide) rfl (fun ls hl => ?_)
    refine y_iload hM hl 0 rfl dX3_begin_32 ?_
    refine y_bipush hM dX3_begin_34 (by decide) ?_
    refine y_icmp_lt hM (by constructor <;> omega) (by constructor <;> omega) (tgt := 49) dX3_begin_36 (by decide) (fun c_36 => ?_) (fun c_36 => ?_)
    ·
      refine y_aload_n hM hl 2 rfl rfl dX3_begin_49 ?_
      refine y_get hM hC hF.1 rfl rfl (by decide +kernel) 3 ⟨by decide, rfl, rfl, rfl⟩ (by decide +kernel) (congrArg (fun q => some (va_rf q)) hF.2.2.2.2.2.2.2.2.2.1) dX3_begin_50 ?_
      refine W.eq (g2 := F0 m 53 ls [.ref (ad 4 0)]) rfl ?_
      refine y_iload hM hl 0 rfl dX3_begin_53 ?_
      refine y_new hM hC (t := 10) (i := (T 0 0 7).toNat) hfr rfl (by decide +kernel) tyX2 tyX2_ok ⟨(by decide +kernel), (by decide +kernel), (by decide +kernel)⟩ (fs := [.int (iI 0), .long (lI 0), .int (iI 0)]) (fun j hj => by rcases (show j = 0 ∨ j = 1 ∨ j = 2 by omega) with rfl | rfl | rfl <;> rfl) rfl ⟨(Nat.le_of_ble_eq_true rfl), (Nat.le_of_ble_eq_true rfl)⟩ dX3_begin_55 (fun q1 H hC => ?_)
      obtain ⟨ad1, had1⟩ : ∃ a : AD, a = upA ad 10 (T 0 0 7).toNat q1 := ⟨_, rfl⟩
      rw [← had1] at hC ⊢
      have e1_0 : ad1 6 (z).toNat = ad 6 (z).toNat := by rw [had1]; exact upA_ne (fun h => absurd h.1 (by decide))
      have e1_1 : ad1 0 0 = ad 0 0 := by rw [had1]; exact upA_ne (fun h => absurd h.1 (by decide))
      have e1_2 : ad1 4 0 = ad 4 0 := by rw [had1]; exact upA_ne (fun h => absurd h.1 (by decide))
      have hl : lv_has ls 5 [(4, .int (iI (T 0 0 7))), (3, .ref (ad1 6 (z).toNat)), (0, .ref (ad1 0 0)), (1, .int (iI (z))), (2, .int (iI (v)))] := by rw [e1_0, e1_1]; exact hl
      refine W.eq (g2 := F0 m 58 ls [.ref (ad1 10 (T 0 0 7).toNat), .int (iI (T 0 0 7)), .ref (ad1 4 0)]) (by rw [e1_2]; try rfl) ?_
      have hF1 : FI (ks ++ [(10, (T 0 0 7).toNat)]) ad1 (zrP P 10 (T 0 0 7).toNat) := by rw [had1]; exact FI_new (by decide) hF
      have hRK1 : RK (ks ++ [(10, (T 0 0 7).toNat)]) ad1 (zrP P 10 (T 0 0 7).toNat) := by rw [had1]; exact RK_new (by decide) hRK
      have hRN1 : RN (zrT T 10 (T 0 0 7).toNat) := RN_zr (by decide) hRN
      refine lv_dup hM.1 hM.2.1 dX3_begin_58 rfl ?_
      refine y_iload_n hM hl 3 rfl rfl dX3_begin_59 ?_
      refine y_iload_n hM hl 4 rfl rfl dX3_begin_60 ?_
      refine y_i2l hM (by constructor <;> omega) dX3_begin_61 ?_
      refine y_aload_n hM hl 1 rfl rfl dX3_begin_62 ?_
      refine y_aload_n hM hl 2 rfl rfl dX3_begin_63 ?_
      refine y_get hM hC hF1.1 rfl rfl (by decide +kernel) 5 ⟨by decide, rfl, rfl, rfl⟩ (by decide +kernel) (congrArg (fun q => some (Value.int (iI q))) (show (zrT T 10 (T 0 0 7).toNat) 0 0 5 = T 0 0 5 from by simp [up, zrT])) dX3_begin_64 ?_
      refine y_callV hM hC (c_valueOn l hfl G b0 (ks ++ [(10, (T 0 0 7).toNat)]) ad1 (zrT T 10 (T 0 0 7).toNat) (zrP P 10 (T 0 0 7).toNat) (z).toNat (by omega) hRK1 hRN1 (T 0 0 5) (by constructor <;> omega)) (cwV 1 hM.2.2.2.2 gX3_begin_X1_valueOn rfl rfl rfl (by decide +kernel) ⟨(Nat.le_of_ble_eq_true rfl), (Nat.le_of_ble_eq_true rfl)⟩) (y_recv hC (hRK1 _ (by omega)).1 rfl rfl) rfl hl.1 rfl (Nat.le_of_ble_eq_true rfl) dX3_begin_67 ⟨(Nat.le_of_ble_eq_true rfl), (Nat.le_of_ble_eq_true rfl)⟩ (fun E ce q9 u1 H locs hx hC hce hcv hcl => hx.elim) (fun v u1 H locs hp hC => ?_)
      obtain ⟨r_67, rfl, h_67, hu⟩ := hp; rw [hu] at hC; clear hu
      try dsimp only at h_67
      refine W.eq (g2 := F0 m 70 ls [.int (iI (r_67)), .long (lI (v)), .int (iI (z)), .ref (ad1 10 (T 0 0 7).toNat), .ref (ad1 10 (T 0 0 7).toNat), .int (iI (T 0 0 7)), .ref (ad1 4 0)]) rfl ?_
      have h_67 : r_67 = valT T z.toNat (T 0 0 5) := by rw [h_67, valT_zr (by decide)]
      have hv_67 := valT_in hRN (p := z.toNat) (by omega) (T 0 0 5)
      refine y_callS hM hC (c_thousandthsFor l hfl G b0 ((ks ++ [(10, (T 0 0 7).toNat)]), ad1, (zrT T 10 (T 0 0 7).toNat), (zrP P 10 (T 0 0 7).toNat)) (v) (r_67) ⟨by omega, by omega⟩ ⟨by omega, by omega⟩) (va_cwS 2 hM.2.2.2.2 gX3_begin_X3_thousandthsFor rfl rfl rfl (by decide +kernel) ⟨(Nat.le_of_ble_eq_true rfl), (Nat.le_of_ble_eq_true rfl)⟩) rfl hl.1 rfl (Nat.le_of_ble_eq_true rfl) dX3_begin_70 ⟨(Nat.le_of_ble_eq_true rfl), (Nat.le_of_ble_eq_true rfl)⟩ (fun E ce q9 u1 H locs hx hC hce hcv hcl => hx.elim) (fun v u1 H locs hp hC => ?_)
      obtain ⟨r_70, rfl, h_70, hu⟩ := hp; rw [hu] at hC; clear hu
      try dsimp only at h_70
      refine W.eq (g2 := F0 m 73 ls [.long (lI (r_70)), .int (iI (z)), .ref (ad1 10 (T 0 0 7).toNat), .ref (ad1 10 (T 0 0 7).toNat), .int (iI (T 0 0 7)), .ref (ad1 4 0)]) rfl ?_
      refine y_callI hM hC (c_Saver_init l hfl G b0 (ks ++ [(10, (T 0 0 7).toNat)]) ad1 (zrT T 10 (T 0 0 7).toNat) (zrP P 10 (T 0 0 7).toNat) (T 0 0 7).toNat (List.mem_append_right _ List.mem_cons_self) (z) (r_70)) (cwI 2 hM.2.2.2.2 gX3_begin_X2_init rfl rfl rfl (hM.2.2.2.2 (.initialized RX2) (by decide +kernel)) (hM.2.2.2.2 (.methodLink RX3 95 yX2_init) (by decide +kernel)) (hM.2.2.2.2 (.instanceMethod yX2_init) (by decide +kernel)) rfl (by decide +kernel) ⟨(Nat.le_of_ble_eq_true rfl), (Nat.le_of_ble_eq_true rfl)⟩) rfl hl.1 rfl (Nat.le_of_ble_eq_true rfl) dX3_begin_73 ⟨(Nat.le_of_ble_eq_true rfl), (Nat.le_of_ble_eq_true rfl)⟩ (fun v u1 H locs hp hC => ?_)
      obtain ⟨rfl, h_73, hu⟩ := hp; rw [hu] at hC; clear hu
      try dsimp only at h_73
      refine W.eq (g2 := F0 m 76 ls [.ref (ad1 10 (T 0 0 7).toNat), .int (iI (T 0 0 7)), .ref (ad1 4 0)]) rfl ?_
      refine y_aast hM hC 3 hF1.2.2.2.2.1 (List.mem_append_right _ List.mem_cons_self) (fun _ _ => rfl) rfl rfl rfl ⟨by omega, by omega⟩ (by decide) dX3_begin_76 (fun H locs hC => ?_)
      refine y_aload_n hM hl 2 rfl rfl dX3_begin_77 ?_
      refine y_iload hM hl 0 rfl dX3_begin_78 ?_
      refine y_iconst hM dX3_begin_80 ?_
      refine y_iadd hM dX3_begin_81 ?_
      refine y_put hM hC hF1.1 rfl rfl (by decide +kernel) tyX3 tyX3_ok nmX3 7 ⟨by decide, rfl, rfl, rfl, rfl⟩ (by decide +kernel) (ty := .int) (by decide +kernel) rfl rfl (Nat.le_of_ble_eq_true rfl) (T' := (up (up (up (up (zrT T 10 (T 0 0 7).toNat) 10 (T 0 0 7).toNat 2 0) 10 (T 0 0 7).toNat 0 (z)) 10 (T 0 0 7).toNat 1 (r_70)) 0 0 7 ((T 0 0 7) + (1)))) (P' := (upP (zrP P 10 (T 0 0 7).toNat) 4 0 ((T 0 0 7).toNat) (some (ad1 10 (T 0 0 7).toNat)))) (cF_up rfl) (fun _ _ h => up_ne h) (fun _ _ _ => rfl) dX3_begin_82 (fun H locs hC => ?_)
      refine y_iload hM hl 0 rfl dX3_begin_85 ?_
      exact y_iret hM hr hlk hC ⟨_, q1, rfl, (by omega), (by unfold begT; rw [had1, upA_s, ← h_67, ← h_70])⟩ (Nat.le_of_ble_eq_true rfl) (Nat.le_of_ble_eq_true rfl) dX3_begin_87
    ·
      exact y_throw hM hto hfl hlk hl.1 hC caS (text := "no more savers") (by decide +kernel) ngS goS ⟨(by decide +kernel), (by decide +kernel)⟩ (by decide +kernel) dX3_begin_39 dX3_begin_42 dX3_begin_43 dX3_begin_45 dX3_begin_48 ⟨(Nat.le_of_ble_eq_true rfl), (Nat.le_of_ble_eq_true rfl), (Nat.le_of_ble_eq_true rfl), (Nat.le_of_ble_eq_true rfl)⟩ ⟨2, rfl, (by (try dsimp only); omega), rfl⟩ (Nat.le_of_ble_eq_true rfl) (Nat.le_of_ble_eq_true rfl)
  ·
    exact y_throw hM hto hfl hlk hl.1 hC caA (text := "money out of range") (by decide +kernel) ngA goA ⟨(by decide +kernel), (by decide +kernel)⟩ (by decide +kernel) dX3_begin_16 dX3_begin_19 dX3_begin_20 dX3_begin_22 dX3_begin_25 ⟨(Nat.le_of_ble_eq_true rfl), (Nat.le_of_ble_eq_true rfl), (Nat.le_of_ble_eq_true rfl), (Nat.le_of_ble_eq_true rfl)⟩ ⟨1, rfl, (by (try dsimp only); omega), rfl⟩ (Nat.le_of_ble_eq_true rfl) (Nat.le_of_ble_eq_true rfl)

set_option maxRecDepth 100000 in
set_option maxHeartbeats 8000000 in
theorem c_order (l : Launch) (hfl : l.stackTraces = false) (G : GG) (b0 : Nat) (ks : KK) (ad : AD) (T : TT) (P : PP) (z w : Int) (hz : inI z) (hw : inI w) (hfr : (11, (T 0 0 8).toNat) ∉ ks) (hF : FI ks ad P) (hSK : SK ks ad T P) (hSN : SN T) (h80 : 0 ≤ T 0 0 8 ∧ T 0 0 8 ≤ 30) : vx_Met l yX3_order wsX3_order (rmX 7 3 22 104) (va_Pc [.ref (ad 0 0), .int (iI (z)), .int (iI (w))] (Ok G b0 (ks, ad, T, P))) (Qr (fun v u1 => ∃ (r : Int) (q : Nat), v = some (.int (iI r)) ∧ (r = T 0 0 8 ∧ 0 ≤ z ∧ z < T 0 0 7 ∧ 0 ≤ w ∧ w < 5 ∧ w ≠ T 10 z.toNat 0 ∧ T 10 z.toNat 2 = 0 ∧ T 0 0 8 < 30) ∧ u1 = (ks ++ [(11, (T 0 0 8).toNat)], upA ad 11 (T 0 0 8).toNat q, ordT T z w, upP (upP (zrP P 11 (T 0 0 8).toNat) 11 (T 0 0 8).toNat 0 (some (ad 10 z.toNat))) 5 0 (T 0 0 8).toNat (some q))) G b0) (Xr (pX (fun x => (x = 3 ∧ (z < 0 ∨ T 0 0 7 ≤ z)) ∨ (x = 1 ∧ 0 ≤ z ∧ z < T 0 0 7 ∧ (w < 0 ∨ 5 ≤ w ∨ w = T 10 z.toNat 0)) ∨ (x = 2 ∧ 0 ≤ z ∧ z < T 0 0 7 ∧ 0 ≤ w ∧ w < 5 ∧ w ≠ T 10 z.toNat 0 ∧ (T 10 z.toNat 2 ≠ 0 ∨ 30 ≤ T 0 0 8))) (ks, ad, T, P)) G b0) 3 22 (Wx b0) := by
  refine vx_ofW (cc := cX3_order) (maxL := 5) (ret := (some .int)) (by decide +kernel) rfl ?_
  intro p e s m args below meth c s₁ B hml hto hv
  obtain ⟨rfl, hok⟩ := hv
  have hM : CallFix p m c cX3_order 5 s _ wsX3_order RX3 := ⟨B.exec, B.bytes, hml, findClass_of_methodNamed B.named, atoms_spec (ws := wsX3_order) B.pre⟩
  have hr := B.returns
  have hlk := B.notSynchronized
  have hC := hok.cur
  have hl := lv_entry ([.ref (ad 0 0), .int (iI (z)), .int (iI (w))]) (n := 5) (Nat.le_of_ble_eq_true rfl)
  rw [lg_entry_eq]
  generalize (lg_sl ([.ref (ad 0 0), .int (iI (z)), .int (iI (w))]) ++ List.replicate (5 - (lg_sl ([.ref (ad 0 0), .int (iI (z)), .int (iI (w))])).length) Slot.unset).toArray = ls at hl ⊢
  have hl : lv_has ls 5 [(0, .ref (ad 0 0)), (1, .int (iI (z))), (2, .int (iI (w)))] := hl
  refine y_aload_n hM hl 0 rfl rfl dX3_order_0 ?_
  refine y_iload_n hM hl 1 rfl rfl dX3_order_1 ?_
  refine y_callV hM hC (c_saverAt l hfl G b0 ks ad T P (z) (by constructor <;> omega) hF hSK) (cwV 1 hM.2.2.2.2 gX3_order_X3_saverAt rfl rfl rfl (by decide +kernel) ⟨(Nat.le_of_ble_eq_true rfl), (Nat.le_of_ble_eq_true rfl)⟩) (y_recv hC hF.1 rfl rfl) rfl hl.1 rfl (Nat.le_of_ble_eq_true rfl) dX3_order_2 ⟨(Nat.le_of_ble_eq_true rfl), (Nat.le_of_ble_eq_true rfl)⟩ (fun E ce q9 u1 H locs hx hC hce hcv hcl => by
      obtain ⟨x, rfl, hx, hu⟩ := hx; rw [hu] at hC; clear hu; try dsimp only at hx
      exact y_out hto hlk hC hce hcv hcl ⟨x, rfl, (by (try dsimp only); omega), rfl⟩ (Nat.le_of_ble_eq_true rfl) (Nat.le_of_ble_eq_true rfl)) (fun v u1 H locs hp hC => ?_)
  obtain ⟨rfl, h_2, hu⟩ := hp; rw [hu] at hC; clear hu
  try dsimp only at h_2
  refine W.eq (g2 := F0 m 5 ls [.ref (ad 10 (z).toNat)]) rfl ?_
  have hs := hSN z.toNat (by omega)
  have hs0 := hSK.2.2.2 z.toNat (by omega)
  refine lv_astore_n (lv' := [(3, .ref (ad 10 (z).toNat)), (0, .ref (ad 0 0)), (1, .int (iI (z))), (2, .int (iI (w)))]) hM.1 hM.2.1 dX3_order_5 rfl hl (by decide) rfl (fun ls hl => ?_)
  refine y_iload_n hM hl 3 rfl rfl dX3_order_6 ?_
  refine y_callS hM hC (c_checkProvider l hfl G b0 (ks, ad, T, P) (w) (by constructor <;> omega)) (va_cwS 1 hM.2.2.2.2 gX3_order_X3_checkProvider rfl rfl rfl (by decide +kernel) ⟨(Nat.le_of_ble_eq_true rfl), (Nat.le_of_ble_eq_true rfl)⟩) rfl hl.1 rfl (Nat.le_of_ble_eq_true rfl) dX3_order_7 ⟨(Nat.le_of_ble_eq_true rfl), (Nat.le_of_ble_eq_true rfl)⟩ (fun E ce q9 u1 H locs hx hC hce hcv hcl => by
      obtain ⟨x, rfl, hx, hu⟩ := hx; rw [hu] at hC; clear hu; try dsimp only at hx
      exact y_out hto hlk hC hce hcv hcl ⟨x, rfl, (by (try dsimp only); omega), rfl⟩ (Nat.le_of_ble_eq_true rfl) (Nat.le_of_ble_eq_true rfl)) (fun v u1 H locs hp hC => ?_)
  obtain ⟨rfl, h_7, hu⟩ := hp; rw [hu] at hC; clear hu
  try dsimp only at h_7
  refine W.eq (g2 := F0 m 10 ls []) rfl ?_
  refine y_iload_n hM hl 3 rfl rfl dX3_order_10 ?_
  refine y_aload_n hM hl 0 rfl rfl dX3_order_11 ?_
  refine y_getN hM hC hs0 rfl rfl (by decide +kernel) 0 0 ⟨by decide, rfl, rfl, rfl⟩ (by decide +kernel) rfl dX3_order_12 ?_
  refine y_icmp_ne hM (by constructor <;> omega) (by constructor <;> omega) (tgt := 28) dX3_order_15 (by decide) (fun c_15 => ?_) (fun c_15 => ?_)
  ·
    refine y_aload_n hM hl 0 rfl rfl dX3_order_28 ?_
    refine y_getN hM hC hs0 rfl rfl (by decide +kernel) 2 2 ⟨by decide, rfl, rfl, rfl⟩ (by decide +kernel) rfl dX3_order_29 ?_
    refine y_if_eq hM (by constructor <;> omega) (tgt := 45) dX3_order_32 (by decide) (fun c_32 => ?_) (fun c_32 => ?_)
    ·
      refine y_aload_n hM hl 1 rfl rfl dX3_order_45 ?_
      refine y_get hM hC hF.1 rfl rfl (by decide +kernel) 8 ⟨by decide, rfl, rfl, rfl⟩ (by decide +kernel) rfl dX3_order_46 ?_
      refine lv_istore (lv' := [(4, .int (iI (T 0 0 8))), (3, .ref (ad 10 (z).toNat)), (0, .ref (ad 0 0)), (1, .int (iI (z))), (2, .int (iI (w)))]) hM.1 hM.2.1 dX3_order_49 hl (by decide) rfl (fun ls hl => ?_)
      refine y_iload hM hl 0 rfl dX3_order_51 ?_
      refine y_bipush hM dX3_order_53 (by decide) ?_
      refine y_icmp_lt hM (by constructor <;> omega) (by constructor <;> omega) (tgt := 68) dX3_order_55 (by decide) (fun c_55 => ?_) (fun c_55 => ?_)
      ·
        refine y_aload_n hM hl 2 rfl rfl dX3_order_68 ?_
        refine y_get hM hC hF.1 rfl rfl (by decide +kernel) 4 ⟨by decide, rfl, rfl, rfl⟩ (by decide +kernel) (congrArg (fun q => some (va_rf q)) hF.2.2.2.2.2.2.2.2.2.2) dX3_order_69 ?_
        refine W.eq (g2 := F0 m 72 ls [.ref (ad 5 0)]) rfl ?_
        refine y_iload hM hl 0 rfl dX3_order_72 ?_
        refine y_new hM hC (t := 11) (i := (T 0 0 8).toNat) hfr rfl (by decide +kernel) tyX0 tyX0_ok ⟨(by decide +kernel), (by decide +kernel), (by decide +kernel)⟩ (fs := [.null, .int (iI 0), .int (iI 0), .int (iI 0), .int (iI 0), .int (iI 0), .int (iI 0), .long (lI 0), .long (lI 0), .long (lI 0)]) (fun j hj => by rcases (show j = 0 ∨ j = 1 ∨ j = 2 ∨ j = 3 ∨ j = 4 ∨ j = 5 ∨ j = 6 ∨ j = 7 ∨ j = 8 ∨ j = 9 by omega) with rfl | rfl | rfl | rfl | rfl | rfl | rfl | rfl | rfl | rfl <;> rfl) rfl ⟨(Nat.le_of_ble_eq_true rfl), (Nat.le_of_ble_eq_true rfl)⟩ dX3_order_74 (fun q1 H hC => ?_)
        obtain ⟨ad1, had1⟩ : ∃ a : AD, a = upA ad 11 (T 0 0 8).toNat q1 := ⟨_, rfl⟩
        rw [← had1] at hC ⊢
        have e1_0 : ad1 10 (z).toNat = ad 10 (z).toNat := by rw [had1]; exact upA_ne (fun h => absurd h.1 (by decide))
        have e1_1 : ad1 0 0 = ad 0 0 := by rw [had1]; exact upA_ne (fun h => absurd h.1 (by decide))
        have e1_2 : ad1 5 0 = ad 5 0 := by rw [had1]; exact upA_ne (fun h => absurd h.1 (by decide))
        have hl : lv_has ls 5 [(4, .int (iI (T 0 0 8))), (3, .ref (ad1 10 (z).toNat)), (0, .ref (ad1 0 0)), (1, .int (iI (z))), (2, .int (iI (w)))] := by rw [e1_0, e1_1]; exact hl
        refine W.eq (g2 := F0 m 77 ls [.ref (ad1 11 (T 0 0 8).toNat), .int (iI (T 0 0 8)), .ref (ad1 5 0)]) (by rw [e1_2]; try rfl) ?_
        have hF1 : FI (ks ++ [(11, (T 0 0 8).toNat)]) ad1 (zrP P 11 (T 0 0 8).toNat) := by rw [had1]; exact FI_new (by decide) hF
        have hC := Cur_ghost (T 0 0 8).toNat z hC
        have hs1 : (10, z.toNat) ∈ (ks ++ [(11, (T 0 0 8).toNat)]) := List.mem_append_left _ (hSK.2.2.2 _ (by omega))
        refine lv_dup hM.1 hM.2.1 dX3_order_77 rfl ?_
        refine y_aload_n hM hl 1 rfl rfl dX3_order_78 ?_
        refine y_iload_n hM hl 4 rfl rfl dX3_order_79 ?_
        refine y_aload_n hM hl 2 rfl rfl dX3_order_80 ?_
        refine y_get hM hC hF1.1 rfl rfl (by decide +kernel) 5 ⟨by decide, rfl, rfl, rfl⟩ (by decide +kernel) (congrArg (fun q => some (Value.int (iI q))) (show (up (zrT T 11 (T 0 0 8).toNat) 11 (T 0 0 8).toNat 10 (z)) 0 0 5 = T 0 0 5 from by simp [up, zrT])) dX3_order_81 ?_
        refine y_callI hM hC (c_Order_init l hfl G b0 (ks ++ [(11, (T 0 0 8).toNat)]) ad1 (up (zrT T 11 (T 0 0 8).toNat) 11 (T 0 0 8).toNat 10 (z)) (zrP P 11 (T 0 0 8).toNat) (T 0 0 8).toNat (z).toNat (List.mem_append_right _ List.mem_cons_self) hs1 (w) (T 0 0 5)) (cwI 3 hM.2.2.2.2 gX3_order_X0_init rfl rfl rfl (hM.2.2.2.2 (.initialized RX0) (by decide +kernel)) (hM.2.2.2.2 (.methodLink RX3 129 yX0_init) (by decide +kernel)) (hM.2.2.2.2 (.instanceMethod yX0_init) (by decide +kernel)) rfl (by decide +kernel) ⟨(Nat.le_of_ble_eq_true rfl), (Nat.le_of_ble_eq_true rfl)⟩) rfl hl.1 rfl (Nat.le_of_ble_eq_true rfl) dX3_order_84 ⟨(Nat.le_of_ble_eq_true rfl), (Nat.le_of_ble_eq_true rfl)⟩ (fun v u1 H locs hp hC => ?_)
        obtain ⟨rfl, h_84, hu⟩ := hp; rw [hu] at hC; clear hu
        try dsimp only at h_84
        refine W.eq (g2 := F0 m 87 ls [.ref (ad1 11 (T 0 0 8).toNat), .int (iI (T 0 0 8)), .ref (ad1 5 0)]) rfl ?_
        rw [show (up (zrT T 11 (T 0 0 8).toNat) 11 (T 0 0 8).toNat 10 z) 10 z.toNat 0 = T 10 z.toNat 0 from by simp [up, zrT]] at hC
        refine y_aast hM hC 4 hF1.2.2.2.2.2.1 (List.mem_append_right _ List.mem_cons_self) (fun _ _ => rfl) rfl rfl rfl ⟨by omega, by omega⟩ (by decide) dX3_order_87 (fun H locs hC => ?_)
        refine y_aload_n hM hl 2 rfl rfl dX3_order_88 ?_
        refine y_iload hM hl 0 rfl dX3_order_89 ?_
        refine y_iconst hM dX3_order_91 ?_
        refine y_iadd hM dX3_order_92 ?_
        refine y_put hM hC hF1.1 rfl rfl (by decide +kernel) tyX3 tyX3_ok nmX3 8 ⟨by decide, rfl, rfl, rfl, rfl⟩ (by decide +kernel) (ty := .int) (by decide +kernel) rfl rfl (Nat.le_of_ble_eq_true rfl) (T' := (up (oriT (up (zrT T 11 (T 0 0 8).toNat) 11 (T 0 0 8).toNat 10 (z)) (T 0 0 8).toNat (T 10 z.toNat 0) (w) (T 0 0 5)) 0 0 8 ((T 0 0 8) + (1)))) (P' := (upP (upP (zrP P 11 (T 0 0 8).toNat) 11 (T 0 0 8).toNat 0 (some (ad1 10 (z).toNat))) 5 0 ((T 0 0 8).toNat) (some (ad1 11 (T 0 0 8).toNat)))) (cF_up rfl) (fun _ _ h => up_ne h) (fun _ _ _ => rfl) dX3_order_93 (fun H locs hC => ?_)
        refine y_aload_n hM hl 1 rfl rfl dX3_order_96 ?_
        refine y_iconst hM dX3_order_97 ?_
        refine y_putN hM hC hs1 rfl rfl (by decide +kernel) tyX2 tyX2_ok nmX2 2 2 ⟨by decide, rfl, rfl, rfl, rfl⟩ (by decide +kernel) (ty := .boolean) (by decide +kernel) rfl rfl (Nat.le_of_ble_eq_true rfl) (T' := (up (up (oriT (up (zrT T 11 (T 0 0 8).toNat) 11 (T 0 0 8).toNat 10 (z)) (T 0 0 8).toNat (T 10 z.toNat 0) (w) (T 0 0 5)) 0 0 8 ((T 0 0 8) + (1))) 10 (z).toNat 2 (1))) (P' := (upP (upP (zrP P 11 (T 0 0 8).toNat) 11 (T 0 0 8).toNat 0 (some (ad1 10 (z).toNat))) 5 0 ((T 0 0 8).toNat) (some (ad1 11 (T 0 0 8).toNat)))) (cF_up rfl) (fun _ _ h => up_ne h) (fun _ _ _ => rfl) dX3_order_98 (fun H locs hC => ?_)
        refine y_iload hM hl 0 rfl dX3_order_101 ?_
        exact y_iret hM hr hlk hC ⟨_, q1, rfl, (by omega), (by unfold ordT; rw [e1_0, had1, upA_s])⟩ (Nat.le_of_ble_eq_true rfl) (Nat.le_of_ble_eq_true rfl) dX3_order_103
      ·
        exact y_throw hM hto hfl hlk hl.1 hC caS (text := "no more orders") (by decide +kernel) ngS goS ⟨(by decide +kernel), (by decide +kernel)⟩ (by decide +kernel) dX3_order_58 dX3_order_61 dX3_order_62 dX3_order_64 dX3_order_67 ⟨(Nat.le_of_ble_eq_true rfl), (Nat.le_of_ble_eq_true rfl), (Nat.le_of_ble_eq_true rfl), (Nat.le_of_ble_eq_true rfl)⟩ ⟨2, rfl, (by (try dsimp only); omega), rfl⟩ (Nat.le_of_ble_eq_true rfl) (Nat.le_of_ble_eq_true rfl)
    ·
      exact y_throw hM hto hfl hlk hl.1 hC caS (text := "an order of the saver goes on") (by decide +kernel) ngS goS ⟨(by decide +kernel), (by decide +kernel)⟩ (by decide +kernel) dX3_order_35 dX3_order_38 dX3_order_39 dX3_order_41 dX3_order_44 ⟨(Nat.le_of_ble_eq_true rfl), (Nat.le_of_ble_eq_true rfl), (Nat.le_of_ble_eq_true rfl), (Nat.le_of_ble_eq_true rfl)⟩ ⟨2, rfl, (by (try dsimp only); omega), rfl⟩ (Nat.le_of_ble_eq_true rfl) (Nat.le_of_ble_eq_true rfl)
  ·
    exact y_throw hM hto hfl hlk hl.1 hC caA (text := "the saver is with that provider") (by decide +kernel) ngA goA ⟨(by decide +kernel), (by decide +kernel)⟩ (by decide +kernel) dX3_order_18 dX3_order_21 dX3_order_22 dX3_order_24 dX3_order_27 ⟨(Nat.le_of_ble_eq_true rfl), (Nat.le_of_ble_eq_true rfl), (Nat.le_of_ble_eq_true rfl), (Nat.le_of_ble_eq_true rfl)⟩ ⟨1, rfl, (by (try dsimp only); omega), rfl⟩ (Nat.le_of_ble_eq_true rfl) (Nat.le_of_ble_eq_true rfl)
end
