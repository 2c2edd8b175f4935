theorem va_K_of {U : State} {c0 c1 c2 c3 : ClassId} {i0 i1 i2 i3 : Nat → Nat} (k0 : u_Kn U RX0 TX0 10 c0 i0) (k1 : u_Kn U RX1 TX1 4 c1 i1) (k2 : u_Kn U RX2 TX2 3 c2 i2) (k3 : u_Kn U RX3 TX3 9 c3 i3) {a0 a1 a2 a3 a4 a5 : ClassId}
    (h0 : ArrOfT U a0 (.object RX1) ∧ va_RA U a0 (.object RX1)) (h1 : ArrOfT U a1 (.array .long) ∧ U.vm.findClass ("[" ++ (FieldType.array .long).toString) = some a1) (h2 : ArrOfT U a2 .long ∧ U.vm.findClass ("[" ++ FieldType.long.toString) = some a2) (h3 : ArrOfT U a3 (.object RX2) ∧ va_RA U a3 (.object RX2)) (h4 : ArrOfT U a4 (.object RX0) ∧ va_RA U a4 (.object RX0)) (h5 : ArrOfT U a5 .int ∧ U.vm.findClass ("[" ++ FieldType.int.toString) = some a5) : ∃ G : GG, va_K G.1 vwCl (tyW G.2) U := by
  refine ⟨((fun c => match c with | 0 => c0 | 1 => c1 | 2 => c2 | _ => c3, fun c => match c with | 0 => i0 | 1 => i1 | 2 => i2 | _ => i3), fun k => match k with | 0 => a0 | 1 => a1 | 2 => a2 | 3 => a3 | 4 => a4 | _ => a5), ?_, ?_⟩
  · intro c q hq
    rcases c with _ | _ | _ | _ | c
    · obtain rfl : (RX0, TX0, 10) = q := Option.some.inj hq
      exact k0
    · obtain rfl : (RX1, TX1, 4) = q := Option.some.inj hq
      exact k1
    · obtain rfl : (RX2, TX2, 3) = q := Option.some.inj hq
      exact k2
    · obtain rfl : (RX3, TX3, 9) = q := Option.some.inj hq
      exact k3
    · exact absurd hq (by simp)
  · intro k q hq
    rcases k with _ | _ | _ | _ | _ | _ | k
    · obtain rfl := Option.some.inj hq
      exact h0
    · obtain rfl := Option.some.inj hq
      exact h1
    · obtain rfl := Option.some.inj hq
      exact h2
    · obtain rfl := Option.some.inj hq
      exact h3
    · obtain rfl := Option.some.inj hq
      exact h4
    · obtain rfl := Option.some.inj hq
      exact h5
    · exact absurd hq (by simp)
theorem env_of {s : State} {b : Nat} (hts : ∀ w ∈ lw_tbl, w.before #[Value.ref b] s = true) (hgw : ∀ w ∈ flatC (Cond.and given_1 narrow_1), w.before #[Value.ref b] s = true) {c3 : ClassId} (hc3 : s.vm.findClass RX3 = some c3) : EnvX s.heap.size s := by
  refine ⟨fun o i d n h hm => va_Nw.of rfl (hts _ (env_nest _ hm)), fun E hE => va_Nw.of rfl (hts _ (env_cast E hE)), ⟨fun y hy => va_Nw.of rfl (hts _ (env_decl y hy)), va_Nw.of rfl (hts _ env_mln)⟩, fun q hq => ?_, ?_, ?_, fun C hC => ?_, ?_⟩
  · have h := hts _ (env_str q hq)
    obtain ⟨k, cf, i, a, -, -, -, -, -, hev⟩ := Cond.stringRef_spec hc3 h
    exact ⟨a, vk_R.of h hev⟩
  · exact vx_Zqof (hts _ env_zq.1) (hts _ env_zq.2.2) (hgw _ env_ref.1) (fun a h q => Nat.not_le.mpr h q)
  · exact vx_Zqof (hts _ env_zq.2.1) (hts _ env_zq.2.2) (hgw _ env_ref.2) (fun a h q => Nat.not_le.mpr h q)
  · exact va_AO.of (hts _ (env_ao.1 C hC))
  · exact over_moved (a := #[Value.ref b]) (a' := #[]) (Vm.Alike.refl s.vm) (hts _ env_ao.2.1)
/-- YOUR PART: from the entry, for every script of at most 260 ints, the law comes to its end with true ('hflags': the launch's flags, for a law that throws: no stack traces) -/
theorem whole_start {p : Program} {e : Env} {s : State} {m : MethodId} {below : List Frame} {meth : Method} {c : Code} (l : Launch) (hflags : l.flags = flags0) {b L : Nat} {xs : Nat → Int32} (hL : L ≤ 260) (C0 : lw_At p s m meth c b L xs) : W p l e room_1 s m #[Value.ref b] below meth c s.heap [] 0 0 (lw_Z below #[Value.ref b] s) (entryFrame m ([Value.ref b] : List Value).toArray 30) := by
  obtain ⟨hx, hcode, hret, hml, hown, hts, hX, hbl, hlk, hgv⟩ := C0
  have hfl : l.stackTraces = false := by
    unfold Launch.stackTraces
    rw [hflags]
    decide +kernel
  have hgw := flat_of_before _ hgv
  obtain ⟨c0, i0, k0⟩ := u_known (C := RX0) (T := TX0) (N := 10) hts inl_X0 (hts _ env_in.1)
  obtain ⟨c1, i1, k1⟩ := u_known (C := RX1) (T := TX1) (N := 4) hts inl_X1 (hts _ env_in.2.1)
  obtain ⟨c2, i2, k2⟩ := u_known (C := RX2) (T := TX2) (N := 3) hts inl_X2 (hts _ env_in.2.2.1)
  obtain ⟨c3, i3, k3⟩ := u_known (C := RX3) (T := TX3) (N := 9) hts inl_X3 (hts _ env_in.2.2.2)
  obtain ⟨a0, h0⟩ := obj_ok (hts _ (env_ao.1 RX1 (by simp)))
  obtain ⟨a1, h1⟩ := arr_ok (hts _ env_ao.2.1)
  obtain ⟨a2, h2⟩ := prim_ok (hts _ env_ao.2.2.1)
  obtain ⟨a3, h3⟩ := obj_ok (hts _ (env_ao.1 RX2 (by simp)))
  obtain ⟨a4, h4⟩ := obj_ok (hts _ (env_ao.1 RX0 (by simp)))
  obtain ⟨a5, h5⟩ := prim_ok (hts _ env_ao.2.2.2)
  obtain ⟨G, hK⟩ := va_K_of k0 k1 k2 k3 h0 h1 h2 h3 h4 h5
  have hE := env_of hts hgw k3.2.1
  have hN : NcX s := fun E hE F hF hn => va_Nc.of (hgw _ (env_nc E hE F hF hn))
  exact law_start l hfl G s.heap.size ⟨hx, hcode, hml, hown, fun w hw => hts w (wsL_law_in w hw)⟩ hN hX (Nat.not_le.mpr hbl) hbl hL hret hlk (Nat.le_refl _) (fun _ _ => 0) (fun _ _ _ => 0) (fun _ _ _ => none) ⟨Nat.le_refl _, hK, hE, ⟨fun k q hq => by simp [WO] at hq, fun i j p q hi => by simp [WO] at hi, fun k q hq => by simp [WO] at hq⟩, va_S.rf⟩
