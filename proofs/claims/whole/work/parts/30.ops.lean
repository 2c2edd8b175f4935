def Wstp (T : TT) (f z k : Int) (T1 : TT) : Prop := (k = 1 ∧ (z < 0 ∨ T 0 0 8 ≤ z) ∧ T1 = T) ∨ (k = 2 ∧ (0 ≤ z ∧ z < T 0 0 8 ∧ (T 11 z.toNat 3 = 3 ∨ (f = 1 ∧ lateT T z.toNat (T 0 0 5) ≤ 10) ∨ (T 11 z.toNat 3 = 2 ∧ 100000000 < gotT T z.toNat f + lakT T z.toNat (lateT T z.toNat (T 0 0 5)) f))) ∧ T1 = T) ∨ (k = 0 ∧ (0 ≤ z ∧ z < T 0 0 8 ∧ T 11 z.toNat 3 ≠ 3 ∧ (f = 1 → 10 < lateT T z.toNat (T 0 0 5)) ∧ (T 11 z.toNat 3 = 2 → gotT T z.toNat f + lakT T z.toNat (lateT T z.toNat (T 0 0 5)) f ≤ 100000000)) ∧ T1 = up (stpT T z.toNat f) 43 0 0 (lateT T z.toNat (T 0 0 5)))
theorem Wstp.hi {T T1 : TT} {f z k : Int} (h : Wstp T f z k T1) : HiE T1 T := by
  rcases h with ⟨-, -, rfl⟩ | ⟨-, -, rfl⟩ | ⟨-, -, rfl⟩
  · exact HiE.r
  · exact HiE.r
  · exact stpT_hi.ou
/-- what a step makes of both sides -/
theorem stp_keeps {C M : TT} {z f : Int} (hR : Rel C M) (hN : CN C) (hz : 0 ≤ z ∧ z < C 0 0 8) (hmv : 0 ≤ C 11 z.toNat 0 ∧ C 11 z.toNat 0 < C 0 0 7) (h3 : C 11 z.toNat 3 ≠ 3) (hov : C 11 z.toNat 3 = 2 → gotT C z.toNat f + lakT C z.toNat (lateT C z.toNat (C 0 0 5)) f ≤ 100000000) : CN (stpT C z.toNat f) ∧ Rel (stpT C z.toNat f) (mdoe M z f) ∧ stpT C z.toNat f 0 0 = C 0 0 ∧ ∀ k, stpT C z.toNat f 11 k 0 = C 11 k 0 := by
  have ho := hN.2.2.2.1 z.toNat (by omega)
  obtain ⟨e1, e2, e3, e4, e5, e6, e7, e8, e9, ex⟩ := hR.2.2.2.2.1 z.toNat (by omega)
  have hl := lateT_in2 (T := C) (k := z.toNat) (d := C 0 0 5) ⟨by omega, by omega⟩
  have hml := mlate_eq hR hz.1 hz.2
  have h10 : ∀ (X : TT) (d lb : Int) (k : Nat), goT X z.toNat d lb 11 k 0 = X 11 k 0 := fun X d lb k => by
    by_cases e : k = z.toNat
    · rw [e, goT_k]
      rfl
    · rw [goT_ne (fun w => e w.2)]
  rcases (show C 11 z.toNat 3 = 0 ∨ C 11 z.toNat 3 = 1 ∨ C 11 z.toNat 3 = 2 by omega) with s | s | s
  · have hS : stpT C z.toNat f = goT C z.toNat (C 0 0 5) (lateT C z.toNat (C 0 0 5)) := by
      unfold stpT
      rw [if_neg (by omega), if_neg (by omega)]
    have hM : mdoe M z f = mend M M z (lateT C z.toNat (C 0 0 5)) := by
      unfold mdoe
      rw [e3, if_neg (by omega), if_neg (by omega), hml]
    rw [hS, hM]
    refine ⟨CN_go hN (by omega) (by omega) hl, Rel_go hR hz (by omega) (fun q => by omega) rfl rfl rfl rfl, goT_ne (by omega), fun k => h10 C _ _ k⟩
  · have hS : stpT C z.toNat f = goT (sellT C z.toNat f) z.toNat (C 0 0 5) (lateT C z.toNat (C 0 0 5)) := by
      unfold stpT
      rw [if_pos s]
    have hM : mdoe M z f = mend M (msel M z f) z (lateT C z.toNat (C 0 0 5)) := by
      unfold mdoe
      rw [e3, if_pos s, hml]
    obtain ⟨r1, r2⟩ := Rel_sell (f := f) hR hN hz hmv s
    have hat : ∀ a b, a ≠ 11 → a ≠ 10 → sellT C z.toNat f a b = C a b := fun a b q1 q2 => sellT_at (fun w => q1 w.1) q2
    have h00 := hat 0 0 (by omega) (by omega)
    have g3 : sellT C z.toNat f 11 z.toNat 3 = 1 := by rw [sellT_3, s]
    have g4 : sellT C z.toNat f 11 z.toNat 4 = C 11 z.toNat 4 := by
      rw [sellT_k]
      rfl
    have hms : ∀ t j, t = 36 ∨ t = 37 ∨ t = 33 ∨ t = 12 → msel M z f t 0 j = M t 0 j := fun t j q => by
      unfold msel
      rw [up_of (by omega), up_of (by omega), up_of (by omega), up_of (by omega)]
    rw [hS, hM, show C 0 0 5 = sellT C z.toNat f 0 0 5 by rw [h00]]
    refine ⟨?_, ?_, ?_, fun k => ?_⟩
    · refine CN_go (CN_sell hN (by omega) hmv) (by rw [h00]; omega) (by omega) ?_
      rw [g4, h00]
      exact hl
    · refine Rel_go r1 (by rw [h00]; exact hz) (by omega) (fun _ => by rw [r2, h00]) ?_ ?_ ?_ ?_
      · rw [hms 36 _ (by omega)]
      · rw [hms 37 _ (by omega)]
      · rw [hms 33 _ (by omega)]
      · rw [hms 12 _ (by omega)]
    · rw [goT_ne (by omega), h00]
    · rw [h10]
      by_cases e : k = z.toNat
      · rw [e, sellT_k]
        rfl
      · rw [sellT_at (fun w => e w.2) (by omega)]
  · have hS : stpT C z.toNat f = goT (buyT C z.toNat (lateT C z.toNat (C 0 0 5)) f) z.toNat (C 0 0 5) (lateT C z.toNat (C 0 0 5)) := by
      unfold stpT
      rw [if_neg (by omega), if_pos s]
    have hM : mdoe M z f = mend M (mbuy M z (mprF M (M 32 0 z.toNat) f) (lateT C z.toNat (C 0 0 5))) z (lateT C z.toNat (C 0 0 5)) := by
      unfold mdoe
      rw [e3, if_neg (by omega), if_pos s, hml]
    have r1 := Rel_buy (f := f) hR hN hz hmv s hl
    have hc := CN_buy hN (by omega) hmv s hl (hov s)
    have h00 : buyT C z.toNat (lateT C z.toNat (C 0 0 5)) f 0 0 = C 0 0 := buyT_ne (by omega) (by omega) (by omega)
    have g3 : buyT C z.toNat (lateT C z.toNat (C 0 0 5)) f 11 z.toNat 3 = 2 := by rw [buyT_3, s]
    have hms : ∀ t j, t = 36 ∨ t = 37 ∨ t = 33 ∨ t = 12 → mbuy M z (mprF M (M 32 0 z.toNat) f) (lateT C z.toNat (C 0 0 5)) t 0 j = M t 0 j := fun t j q => by
      unfold mbuy
      rw [up_of (by omega), up_of (by omega), up_of (by omega), up_of (by omega), up_of (by omega), up_of (by omega)]
    rw [hS, hM]
    refine ⟨hc, ?_, ?_, fun k => ?_⟩
    · have := Rel_go (lb := lateT C z.toNat (C 0 0 5)) (T := M) r1 (by rw [h00]; exact hz) (by omega) (fun q => by omega) (by rw [hms 36 _ (by omega)]) (by rw [hms 37 _ (by omega)]) (by rw [hms 33 _ (by omega)]) (by rw [hms 12 _ (by omega)])
      rw [h00] at this
      exact this
    · rw [goT_ne (by omega), h00]
    · rw [h10]
      by_cases e : k = z.toNat
      · rw [e, buyT_k]
        rfl
      · rw [buyT_ne (fun w => e w.2) (by omega) (by omega)]
theorem op_stp {ks : KK} {ad : AD} {T : TT} {P : PP} (h : IV ks ad T P) {f z k r : Int} {T1 T2 : TT} (hw : Wstp T f z k T1)
    (hm : ((z < 0 ∨ T1 12 0 10 ≤ z) ∧ T2 = up T1 12 0 0 1) ∨ ((0 ≤ z ∧ z < T1 12 0 10 ∧ (T1 33 0 z.toNat = 3 ∨ (f = 1 ∧ mlate T1 z ≤ 10) ∨ (T1 33 0 z.toNat = 2 ∧ (100000000 < mgot T1 z (mprF T1 (T1 32 0 z.toNat) f) ∨ 100000000 < mtim T1 z (mlate T1 z))))) ∧ T2 = up (up T1 12 0 0 0) 12 0 0 2) ∨
      ((0 ≤ z ∧ z < T1 12 0 10 ∧ T1 33 0 z.toNat ≠ 3 ∧ (f = 1 → 10 < mlate T1 z) ∧ (T1 33 0 z.toNat = 2 → mgot T1 z (mprF T1 (T1 32 0 z.toNat) f) ≤ 100000000 ∧ mtim T1 z (mlate T1 z) ≤ 100000000) ∧ r = mlate T1 z) ∧ T2 = mdoe (up (up T1 12 0 0 0) 12 0 0 0) z f)) : T2 12 0 0 = k ∧ (k = 0 → r = T2 43 0 0) ∧ IV ks ad T2 P := by
  have hi := hw.hi
  have ex : T1 12 0 10 = T 0 0 8 := (hi 12 0 10 (by omega) (by omega) (by omega)).trans h.2.2.1.2.2.2
  rw [ex] at hm
  by_cases hz : 0 ≤ z ∧ z < T 0 0 8
  · have hR := h.2.2
    have hN := h.2.1
    have hmv := (h.1.2.2.2.1.2.2.2 z.toNat (by omega)).2.2
    obtain ⟨e1, e2, e3, e4, e5, e6, e7, e8, e9, ex'⟩ := hR.2.2.2.2.1 z.toNat (by omega)
    have ho := hN.2.2.2.1 z.toNat (by omega)
    have hl := lateT_in2 (T := T) (k := z.toNat) (d := T 0 0 5) ⟨by omega, by omega⟩
    have g33 : T1 33 0 z.toNat = T 11 z.toNat 3 := (hi 33 0 _ (by omega) (by omega) (by omega)).trans e3
    have g32 : T1 32 0 z.toNat = T 32 0 z.toNat := hi 32 0 _ (by omega) (by omega) (by omega)
    have gl : mlate T1 z = lateT T z.toNat (T 0 0 5) := (mlate_hi hi z).trans (mlate_eq hR hz.1 hz.2)
    rw [g33, gl, g32, mprF_hi hi, mgot_hi hi, mtim_hi hi] at hm
    have hmax : T 11 z.toNat 3 = 2 → ((gotT T z.toNat f + lakT T z.toNat (lateT T z.toNat (T 0 0 5)) f ≤ 100000000) ↔ (mgot T z (mprF T (T 32 0 z.toNat) f) ≤ 100000000 ∧ mtim T z (lateT T z.toNat (T 0 0 5)) ≤ 100000000)) := fun s => by
      obtain ⟨-, -, -, -, v5, v6, v7, -⟩ := buy_vals (f := f) hR hN hz hmv s hl
      rw [v6, v7]
      have hgn := gotT_nn hN.1 hN.2.1 (k := z.toNat) ho.2.2.2.1 (by omega) f
      unfold lakT
      by_cases e : allL T z.toNat (lateT T z.toNat (T 0 0 5)) = 0
      · rw [if_pos e, if_neg (by omega)]
        omega
      · rw [if_neg e, if_pos (by omega)]
        split <;> omega
    rcases hw with ⟨rfl, c, rfl⟩ | ⟨rfl, c, rfl⟩ | ⟨rfl, c, hT1⟩
    · omega
    · rcases hm with ⟨m, rfl⟩ | ⟨m, rfl⟩ | ⟨m, m2⟩
      · omega
      · exact ⟨rfl, fun q => by omega, h.th.th⟩
      · exfalso
        by_cases s : T1 11 z.toNat 3 = 2
        · have := hmax s
          omega
        · omega
    · rcases hm with ⟨m, rfl⟩ | ⟨m, rfl⟩ | ⟨m, hT2⟩
      · omega
      · exfalso
        by_cases s : T 11 z.toNat 3 = 2
        · have := hmax s
          omega
        · omega
      · obtain ⟨k1, k2, k3, k4⟩ := stp_keeps (f := f) hR hN hz hmv c.2.2.1 c.2.2.2.2
        have hlo : LoE T2 (stpT T z.toNat f) := by
          rw [hT2, hT1]
          exact mdoe_lo.tr (((LoE.r.hi (by decide)).hi (by decide)).hi (by decide))
        have hhi : HiE T2 (mdoe T z f) := by
          rw [hT2, hT1]
          exact mdoe_hi stpT_hi.ou.th.th z f
        refine ⟨?_, fun _ => ?_, ?_, ?_, ?_⟩
        · rw [hT2, mdoe_ou.2, up_at rfl]
        · rw [hT2, mdoe_ou.1, up_of (by omega), up_of (by omega), hT1, up_at rfl]
          exact m.2.2.2.2.2
        · exact h.1.congr (by rw [hlo 0 0 (by omega), k3]) (by rw [hlo 0 0 (by omega), k3]) (fun k => by rw [hlo 11 k (by omega), k4])
        · exact k1.congr hlo
        · exact Rel.congr hlo hhi k2
  · rcases hw with ⟨rfl, c, rfl⟩ | ⟨rfl, c, rfl⟩ | ⟨rfl, c, hT1⟩
    · rcases hm with ⟨m, rfl⟩ | ⟨m, rfl⟩ | ⟨m, m2⟩
      · exact ⟨rfl, fun q => by omega, h.th⟩
      · omega
      · omega
    · omega
    · omega
