/-! WAYS THAT LEAVE LEAST, class side: a cell lowered (by wip/whole) -/
section SXN3
variable {X : sx_X} {Q : sx_R} {p : Int} {σ σ0 σ' σ1 σ2 : sx_S} {P : aP} {A : aM} {G tl : Int → Int}
set_option maxRecDepth 20000 in
theorem c_low (hp : isP p) (wp : wP P) (hT : PT σ) (gp : cP p σ P) (htl : ∀ d : Int, 0 ≤ d → d < (P.w * P.h) → σ 119 d = tl d) (ht : ∀ n : Int, tl n = 1 ∨ tl n = 101) (hb : ∀ d : Int, 0 ≤ d → d < (P.w * P.h) → 0 ≤ σ 120 d ∧ σ 120 d ≤ 1000000) (hge : ∀ d : Int, 0 ≤ d → d < (P.w * P.h) → G d ≤ σ 120 d) (hg0 : ∀ d : Int, 0 ≤ d → d < (P.w * P.h) → 0 ≤ G d) {c : Int} (hc0 : 0 ≤ c ∧ c < (P.w * P.h)) (hfix : ∀ n : Int, pNb P c n → G c ≤ G n + tl n) (h : ∀ σ' v, (∀ b i : Int, ¬ (b = 120 ∧ i = c) → σ' b i = σ b i) → σ' 120 c ≤ σ 120 c → G c ≤ σ' 120 c → (∀ n : Int, pNb P c n → σ' 120 c ≤ σ 120 n + tl n) → (v = 0 → σ' 120 c = σ 120 c) → (v = 0 ∨ v = 1) → Q (some (.inl v)) shM σ') : sx_Run X 66 [.inr (.inr 117), .inr (.inr p), .inl c] shM σ Q := by
  have q0 := lkP0 hp
  have v4 := wp.wh
  have hpz : p + 20 < 38 := by rcases hp with h9 | h9 <;> omega
  refine sx_rule2 (own := 7) (cd := kX7_lower) (nL := 6) (by decide +kernel) (by decide +kernel) kX7_lower_ok (by decide +kernel) (Nat.le_of_ble_eq_true rfl) [5] 40 (fun n t L st _ σ' => (t = 5 ∧ ∃ v y : Int, ∃ w5 : Option sx_V, st = [] ∧ L = [some (.inr (.inr (117))), some (.inr (.inr (p))), some (.inl (c)), some (.inl (v)), some (.inl (y)), w5] ∧ ((∀ b i : Int, ¬ (b = 120 ∧ i = c) → σ' b i = σ b i) ∧ σ' 120 c ≤ σ 120 c ∧ G c ≤ σ' 120 c ∧ (∀ z : Int, 0 ≤ z → z < y → ¬ fBes P.w P.h c z = -1 → σ' 120 c ≤ σ 120 (fBes P.w P.h c z) + tl (fBes P.w P.h c z)) ∧ (v = 0 → σ' 120 c = σ 120 c) ∧ (v = 0 ∨ v = 1) ∧ 0 ≤ y ∧ y ≤ 4) ∧ n = (4 - y).toNat)) ?_ ?_
  · skip
    conv => whnf
    refine ⟨_, ⟨rfl, _, _, _, rfl, rfl, ?_, rfl⟩⟩
    exact ⟨fun b i _ => rfl, Int.le_refl _, hge c hc0.1 hc0.2, fun z z0 z1 => by omega, fun _ => rfl, Or.inl rfl, by omega, by omega⟩
  · intro n t L st σ' hk
    obtain ⟨rfl, v, y, w5, rfl, rfl, hc, rfl⟩ := hk
    obtain ⟨xc, hle, hgc, hall, hv0, hv1, hy0, hy1⟩ := hc
    have Tc : PT σ' := PT_ar hT (show sx_lk shM 120 = _ from rfl) (by decide) (fun b z9 => funext fun j => xc b j (fun w => z9 w.1))
    have gc : cP p σ' P := gp.of (fun a i z1 z2 => xc a i (by omega))
    have a4 := pt_117_4 Tc
    have a3 := pt_117_3 Tc
    have hgc0 := hg0 c hc0.1 hc0.2
    have hcb0 := hb c hc0.1 hc0.2
    conv => whnf
    refine ⟨fun g => ?_, fun g => ?_⟩
    · simp only [sx_cc, Classical.not_not] at g
      conv => whnf
      refine ⟨fun q9 => by first | (simp at q9; done) | omega, ?_⟩
      refine h _ v xc hle hgc (fun n hn => ?_) hv0 hv1
      obtain ⟨z, z0, z1, z2, z3⟩ := hn
      rw [z2]
      exact hall z z0 (by omega) (by rw [← z2]; exact z3)
    · simp only [sx_cc, Classical.not_not] at g
      conv => whnf
      refine ⟨Nat.le_of_ble_eq_true rfl, Nat.le_of_ble_eq_true rfl, (by first | assumption | rfl), ?_⟩
      refine c_Pbeside hp (gc.pd wp) hc0.1 (by rw [gc.w, gc.h]; exact hc0.2) ?_
      rw [gc.w, gc.h]
      have hbo := fBes_o (P := P) (a := c) (y := y)
      conv => whnf
      refine ⟨fun g => ?_, fun g => ?_⟩
      · simp only [sx_cc, Classical.not_not] at g
        conv => whnf
        refine ⟨⟨by omega, by omega⟩, ?_⟩
        conv => whnf
        refine ⟨_, ?_, ⟨rfl, _, _, _, rfl, rfl, ?_, rfl⟩⟩
        · omega
        · first | exact ⟨fun b i z9 => by rw [up_n z9]; exact xc b i z9, by rw [up_s]; omega, by rw [up_s]; omega, fun z z0 z1 z2 => by
            rw [up_s]
            by_cases e9 : z = y
            · rw [e9]; omega
            · have h9 := hall z z0 (by omega) z2; omega, fun z9 => absurd z9 (by decide), Or.inr rfl, by omega, by omega⟩ | exact ⟨xc, hle, hgc, fun z z0 z1 z2 => by
            by_cases e9 : z = y
            · rw [e9] at z2 ⊢; omega
            · exact hall z z0 (by omega) z2, hv0, hv1, by omega, by omega⟩
      · simp only [sx_cc, Classical.not_not] at g
        have hu : 0 ≤ fBes P.w P.h c y ∧ fBes P.w P.h c y < (P.w * P.h) := (by omega)
        have et := htl _ hu.1 hu.2
        have et9 : σ' 119 (fBes P.w P.h c y) = tl (fBes P.w P.h c y) := (xc _ _ (by omega)).trans et
        have hub := hb _ hu.1 hu.2
        have htb := ht (fBes P.w P.h c y)
        have hcb := hb c hc0.1 hc0.2
        have hgu := hge _ hu.1 hu.2
        have hfx := hfix (fBes P.w P.h c y) ⟨y, by omega, by omega, rfl, by omega⟩
        have hcu : σ' 120 (fBes P.w P.h c y) = σ 120 (fBes P.w P.h c y) ∨ fBes P.w P.h c y = c := by
          by_cases e9 : fBes P.w P.h c y = c
          · exact Or.inr e9
          · exact Or.inl (xc _ _ (fun z9 => e9 z9.2))
        have hcv : fBes P.w P.h c y = c → σ' 120 (fBes P.w P.h c y) = σ' 120 c := fun z9 => by rw [z9]
        have hcw : fBes P.w P.h c y = c → σ 120 (fBes P.w P.h c y) = σ 120 c := fun z9 => by rw [z9]
        conv => whnf
        refine ⟨(by first | assumption | rfl), ?_⟩
        try simp (disch := omega) only [Int.cast_ofNat_Int, up_s, up_a, up_i, mp_a, mp_ge]
        try simp only [a3]
        try simp only [a4]
        try simp only [et9]
        conv => whnf
        refine ⟨sx_ixI (by first | assumption | rfl) (by omega) (by omega), ?_⟩
        try simp (disch := omega) only [Int.cast_ofNat_Int, up_s, up_a, up_i, mp_a, mp_ge]
        try simp only [a3]
        try simp only [a4]
        try simp only [et9]
        conv => whnf
        refine ⟨(by first | assumption | rfl), ?_⟩
        try simp (disch := omega) only [Int.cast_ofNat_Int, up_s, up_a, up_i, mp_a, mp_ge]
        try simp only [a3]
        try simp only [a4]
        try simp only [et9]
        conv => whnf
        refine ⟨sx_ixI (by first | assumption | rfl) (by omega) (by omega), ?_⟩
        try simp (disch := omega) only [Int.cast_ofNat_Int, up_s, up_a, up_i, mp_a, mp_ge]
        try simp only [a3]
        try simp only [a4]
        try simp only [et9]
        conv => whnf
        refine ⟨⟨by omega, by omega⟩, ?_⟩
        conv => whnf
        refine ⟨(by first | assumption | rfl), ?_⟩
        try simp (disch := omega) only [Int.cast_ofNat_Int, up_s, up_a, up_i, mp_a, mp_ge]
        try simp only [a3]
        try simp only [a4]
        try simp only [et9]
        conv => whnf
        refine ⟨sx_ixI (by first | assumption | rfl) (by omega) (by omega), ?_⟩
        try simp (disch := omega) only [Int.cast_ofNat_Int, up_s, up_a, up_i, mp_a, mp_ge]
        try simp only [a3]
        try simp only [a4]
        try simp only [et9]
        conv => whnf
        refine ⟨fun g => ?_, fun g => ?_⟩
        · simp only [sx_cc, Classical.not_not] at g
          conv => whnf
          refine ⟨⟨by omega, by omega⟩, ?_⟩
          conv => whnf
          refine ⟨_, ?_, ⟨rfl, _, _, _, rfl, rfl, ?_, rfl⟩⟩
          · omega
          · first | exact ⟨fun b i z9 => by rw [up_n z9]; exact xc b i z9, by rw [up_s]; omega, by rw [up_s]; omega, fun z z0 z1 z2 => by
              rw [up_s]
              by_cases e9 : z = y
              · rw [e9]; omega
              · have h9 := hall z z0 (by omega) z2; omega, fun z9 => absurd z9 (by decide), Or.inr rfl, by omega, by omega⟩ | exact ⟨xc, hle, hgc, fun z z0 z1 z2 => by
              by_cases e9 : z = y
              · rw [e9] at z2 ⊢; omega
              · exact hall z z0 (by omega) z2, hv0, hv1, by omega, by omega⟩
        · simp only [sx_cc, Classical.not_not] at g
          conv => whnf
          refine ⟨(by first | assumption | rfl), ?_⟩
          try simp (disch := omega) only [Int.cast_ofNat_Int, up_s, up_a, up_i, mp_a, mp_ge]
          try simp only [a3]
          try simp only [a4]
          try simp only [et9]
          conv => whnf
          refine ⟨(by first | assumption | rfl), ?_⟩
          try simp (disch := omega) only [Int.cast_ofNat_Int, up_s, up_a, up_i, mp_a, mp_ge]
          try simp only [a3]
          try simp only [a4]
          try simp only [et9]
          conv => whnf
          refine ⟨sx_ixI (by first | assumption | rfl) (by omega) (by omega), ?_⟩
          try simp (disch := omega) only [Int.cast_ofNat_Int, up_s, up_a, up_i, mp_a, mp_ge]
          try simp only [a3]
          try simp only [a4]
          try simp only [et9]
          conv => whnf
          refine ⟨(by first | assumption | rfl), ?_⟩
          try simp (disch := omega) only [Int.cast_ofNat_Int, up_s, up_a, up_i, mp_a, mp_ge]
          try simp only [a3]
          try simp only [a4]
          try simp only [et9]
          conv => whnf
          refine ⟨sx_ixI (by first | assumption | rfl) (by omega) (by omega), ?_⟩
          try simp (disch := omega) only [Int.cast_ofNat_Int, up_s, up_a, up_i, mp_a, mp_ge]
          try simp only [a3]
          try simp only [a4]
          try simp only [et9]
          conv => whnf
          refine ⟨⟨by omega, by omega⟩, ?_⟩
          conv => whnf
          refine ⟨sx_ixI (by first | assumption | rfl) (by omega) (by omega), ?_⟩
          conv => whnf
          refine ⟨⟨by omega, by omega⟩, ?_⟩
          conv => whnf
          refine ⟨_, ?_, ⟨rfl, _, _, _, rfl, rfl, ?_, rfl⟩⟩
          · omega
          · first | exact ⟨fun b i z9 => by rw [up_n z9]; exact xc b i z9, by rw [up_s]; omega, by rw [up_s]; omega, fun z z0 z1 z2 => by
              rw [up_s]
              by_cases e9 : z = y
              · rw [e9]; omega
              · have h9 := hall z z0 (by omega) z2; omega, fun z9 => absurd z9 (by decide), Or.inr rfl, by omega, by omega⟩ | exact ⟨xc, hle, hgc, fun z z0 z1 z2 => by
              by_cases e9 : z = y
              · rw [e9] at z2 ⊢; omega
              · exact hall z z0 (by omega) z2, hv0, hv1, by omega, by omega⟩
end SXN3
