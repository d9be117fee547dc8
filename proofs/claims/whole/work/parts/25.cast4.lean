/-! THE FORECAST: rests and rest (by wip/whole) -/
section SXF4
variable {X : sx_X} {σ σ0 : sx_S} {p : Int} {Q : sx_R}
set_option maxRecDepth 20000 in
theorem c_rests (hT : PT σ) (hp : isP p) (e2 : σ 0 2 = p) (hr : HR σ (p + 10)) {t0 k : Int} (h : Q (some (.inl (aRests (σ (p + 10)) t0 k))) shM σ) : sx_Run X 156 [.inr (.inr 0), .inl t0, .inl k] shM σ Q := by
  have k0 := lkP0 hp
  have k9 := lkP9 hp
  have m12 := ptP_12 hT hp
  refine sx_rule2 (own := 11) (cd := kX11_rests) (nL := 6) (by decide +kernel) (by decide +kernel) kX11_rests_ok (by decide +kernel) (Nat.le_of_ble_eq_true rfl) [15, 26] 40 (fun n t L st _ σ' => (t = 15 ∧ ∃ v a : Int, ∃ w6 : Option sx_V, st = [] ∧ L = [some (.inr (.inr (0))), some (.inl (t0)), some (.inl (k)), some (.inl (v)), some (.inl (a)), w6] ∧ (σ = σ' ∧ (0 ≤ t0 ∧ t0 < 24 ∧ 1 ≤ k ∧ k ≤ 6 ∧ t0 + k ≤ 24) ∧ t0 ≤ a ∧ a ≤ t0 + k ∧ v = fOut (σ (p + 10)) t0 k.toNat (a - t0).toNat) ∧ n = ((t0 + k - a) * 100 + 99).toNat) ∨ (t = 26 ∧ ∃ v a b : Int, st = [] ∧ L = [some (.inr (.inr (0))), some (.inl (t0)), some (.inl (k)), some (.inl (v)), some (.inl (a)), some (.inl (b))] ∧ (σ = σ' ∧ (0 ≤ t0 ∧ t0 < 24 ∧ 1 ≤ k ∧ k ≤ 6 ∧ t0 + k ≤ 24) ∧ t0 ≤ a ∧ a < t0 + k ∧ t0 ≤ b ∧ b ≤ t0 + k ∧ v = fOut (σ (p + 10)) t0 k.toNat (a - t0).toNat + fIn (σ (p + 10)) t0 k.toNat a (b - t0).toNat) ∧ n = ((t0 + k - a) * 100 + (t0 + k - b)).toNat)) ?_ ?_
  · skip
    conv => whnf
    refine ⟨Nat.le_of_ble_eq_true rfl, Nat.le_of_ble_eq_true rfl, ?_⟩
    refine c_wait (fun g1 g2 g3 g4 g5 => ?_) (fun g0 => ?_)
    · skip
      conv => whnf
      refine ⟨fun g => ?_, fun g => ?_⟩
      · skip
        conv => whnf
        refine ⟨_, Or.inl ⟨rfl, _, _, _, rfl, rfl, ?_, rfl⟩⟩
        refine ⟨rfl, ⟨by omega, by omega, by omega, by omega, by omega⟩, by omega, by omega, ?_⟩
        rw [show t0 - t0 = 0 by omega]
        rfl
      · exact absurd g (by simp [sx_cc])
    · skip
      conv => whnf
      refine ⟨fun g => ?_, fun g => ?_⟩
      · exact absurd g (by simp [sx_cc])
      · skip
        conv => whnf
        refine ⟨fun q9 => by first | (simp at q9; done) | omega, ?_⟩
        exact q_to h (by unfold aRests; rw [if_neg (by omega)])
  · intro n t L st σ' hk
    rcases hk with hk | hk
    · obtain ⟨rfl, v, a, w6, rfl, rfl, hc, rfl⟩ := hk
      obtain ⟨rfl, ⟨b1, b2, b3, b4, b5⟩, ha0, ha1, hv⟩ := hc
      have hbo := fOut_bd (σ (p + 10)) t0 (n := k.toNat) (by omega) (a - t0).toNat
      conv => whnf
      refine ⟨⟨by omega, by omega⟩, ?_⟩
      conv => whnf
      refine ⟨fun g => ?_, fun g => ?_⟩
      · simp only [sx_cc, Classical.not_not] at g
        conv => whnf
        refine ⟨fun q9 => by first | (simp at q9; done) | omega, ?_⟩
        have ea : a - t0 = k := by omega
        rw [ea] at hv
        exact q_to h (by unfold aRests; rw [if_pos ⟨by omega, by omega, by omega, by omega, by omega⟩, hv])
      · simp only [sx_cc, Classical.not_not] at g
        conv => whnf
        refine ⟨_, ?_, Or.inr (⟨rfl, _, _, _, rfl, rfl, ?_, rfl⟩)⟩
        · omega
        · refine ⟨rfl, ⟨by omega, by omega, by omega, by omega, by omega⟩, by omega, by omega, by omega, by omega, ?_⟩
          rw [show t0 - t0 = 0 by omega, hv]
          show _ = _ + 0
          omega
    · obtain ⟨rfl, v, a, b, rfl, rfl, hc, rfl⟩ := hk
      obtain ⟨rfl, ⟨b1, b2, b3, b4, b5⟩, ha0, ha1, hb0, hb1, hv⟩ := hc
      have hbo := fOut_bd (σ (p + 10)) t0 (n := k.toNat) (by omega) (a - t0).toNat
      have hbi := fIn_bd (σ (p + 10)) t0 k.toNat a (b - t0).toNat
      have ebt : t0 + (b - t0) = b := by omega
      conv => whnf
      refine ⟨⟨by omega, by omega⟩, ?_⟩
      conv => whnf
      refine ⟨fun g => ?_, fun g => ?_⟩
      · simp only [sx_cc, Classical.not_not] at g
        conv => whnf
        refine ⟨⟨by omega, by omega⟩, ?_⟩
        conv => whnf
        refine ⟨_, ?_, Or.inl ⟨rfl, _, _, _, rfl, rfl, ?_, rfl⟩⟩
        · omega
        · have eb : b - t0 = k := by omega
          rw [eb] at hv
          refine ⟨rfl, ⟨by omega, by omega, by omega, by omega, by omega⟩, by omega, by omega, ?_⟩
          rw [show a + 1 - t0 = (a - t0) + 1 by omega, fOut_s (by omega), show t0 + (a - t0) = a by omega]
          omega
      · simp only [sx_cc, Classical.not_not] at g
        conv => whnf
        refine ⟨(by first | assumption | rfl), ?_⟩
        try simp (disch := omega) only [Int.cast_ofNat_Int, up_s, up_a, up_i, mp_a, mp_ge, cp_a, e2, m12]
        conv => whnf
        refine ⟨(by first | assumption | rfl), ?_⟩
        try simp (disch := omega) only [Int.cast_ofNat_Int, up_s, up_a, up_i, mp_a, mp_ge, cp_a, e2, m12]
        conv => whnf
        refine ⟨Nat.le_of_ble_eq_true rfl, Nat.le_of_ble_eq_true rfl, (by first | assumption | rfl), ?_⟩
        refine c_Frest hT hp hr (by omega) (by omega) (by omega) (by omega) ⟨by omega, by omega⟩ ⟨by omega, by omega⟩ ?_
        by_cases gr : fRst (σ (p + 10)) a b t0 k.toNat = true
        · rw [if_pos gr]
          conv => whnf
          refine ⟨fun g => ?_, fun g => ?_⟩
          · exact absurd g (by simp [sx_cc])
          · skip
            conv => whnf
            refine ⟨⟨by omega, by omega⟩, ?_⟩
            conv => whnf
            refine ⟨⟨by omega, by omega⟩, ?_⟩
            conv => whnf
            refine ⟨_, ?_, Or.inr (⟨rfl, _, _, _, rfl, rfl, ?_, rfl⟩)⟩
            · omega
            · refine ⟨rfl, ⟨by omega, by omega, by omega, by omega, by omega⟩, by omega, by omega, by omega, by omega, ?_⟩
              · rw [show b + 1 - t0 = (b - t0) + 1 by omega, fIn_s (by omega), ebt]
                first | (rw [if_pos (by assumption)]; omega) | (rw [if_neg (by assumption)]; omega)
        · rw [if_neg gr]
          conv => whnf
          refine ⟨fun g => ?_, fun g => ?_⟩
          · skip
            conv => whnf
            refine ⟨⟨by omega, by omega⟩, ?_⟩
            conv => whnf
            refine ⟨_, ?_, Or.inr (⟨rfl, _, _, _, rfl, rfl, ?_, rfl⟩)⟩
            · omega
            · refine ⟨rfl, ⟨by omega, by omega, by omega, by omega, by omega⟩, by omega, by omega, by omega, by omega, ?_⟩
              · rw [show b + 1 - t0 = (b - t0) + 1 by omega, fIn_s (by omega), ebt]
                first | (rw [if_pos (by assumption)]; omega) | (rw [if_neg (by assumption)]; omega)
          · exact absurd g (by simp [sx_cc])
set_option maxRecDepth 20000 in
theorem c_rest (hT : PT σ) (hp : isP p) (e2 : σ 0 2 = p) (hr : HR σ (p + 10)) {t0 k q : Int} (hqr : q ≤ 2147483647) (h : Q (some (.inl (aRest (σ (p + 10)) t0 k q))) shM σ) : sx_Run X 157 [.inr (.inr 0), .inl t0, .inl k, .inl q] shM σ Q := by
  have k0 := lkP0 hp
  have k9 := lkP9 hp
  have m12 := ptP_12 hT hp
  refine sx_rule2 (own := 11) (cd := kX11_rest) (nL := 7) (by decide +kernel) (by decide +kernel) kX11_rest_ok (by decide +kernel) (Nat.le_of_ble_eq_true rfl) [20, 31] 40 (fun n t L st _ σ' => (t = 20 ∧ ∃ v a : Int, ∃ w6 : Option sx_V, st = [] ∧ L = [some (.inr (.inr (0))), some (.inl (t0)), some (.inl (k)), some (.inl (q)), some (.inl (v)), some (.inl (a)), w6] ∧ (σ = σ' ∧ (0 ≤ t0 ∧ t0 < 24 ∧ 1 ≤ k ∧ k ≤ 6 ∧ t0 + k ≤ 24) ∧ t0 ≤ a ∧ a ≤ t0 + k ∧ (0 ≤ q ∧ q ≤ 2147483647) ∧ v = q - fOut (σ (p + 10)) t0 k.toNat (a - t0).toNat ∧ 0 ≤ v ∧ fSe (fKo (σ (p + 10)) t0 k.toNat q) (a - t0).toNat = -1) ∧ n = ((t0 + k - a) * 100 + 99).toNat) ∨ (t = 31 ∧ ∃ v a b : Int, st = [] ∧ L = [some (.inr (.inr (0))), some (.inl (t0)), some (.inl (k)), some (.inl (q)), some (.inl (v)), some (.inl (a)), some (.inl (b))] ∧ (σ = σ' ∧ (0 ≤ t0 ∧ t0 < 24 ∧ 1 ≤ k ∧ k ≤ 6 ∧ t0 + k ≤ 24) ∧ t0 ≤ a ∧ a < t0 + k ∧ t0 ≤ b ∧ b ≤ t0 + k ∧ (0 ≤ q ∧ q ≤ 2147483647) ∧ v = q - (fOut (σ (p + 10)) t0 k.toNat (a - t0).toNat + fIn (σ (p + 10)) t0 k.toNat a (b - t0).toNat) ∧ 0 ≤ v ∧ fSe (fKo (σ (p + 10)) t0 k.toNat q) (a - t0).toNat = -1 ∧ fSe (fKi (σ (p + 10)) t0 k.toNat q a) (b - t0).toNat = -1) ∧ n = ((t0 + k - a) * 100 + (t0 + k - b)).toNat)) ?_ ?_
  · skip
    conv => whnf
    refine ⟨Nat.le_of_ble_eq_true rfl, Nat.le_of_ble_eq_true rfl, ?_⟩
    refine c_wait (fun g1 g2 g3 g4 g5 => ?_) (fun g0 => ?_)
    · skip
      conv => whnf
      refine ⟨fun g => ?_, fun g => ?_⟩
      · exact absurd g (by simp [sx_cc])
      · skip
        conv => whnf
        refine ⟨fun g => ?_, fun g => ?_⟩
        · simp only [sx_cc, Classical.not_not] at g
          conv => whnf
          refine ⟨_, Or.inl ⟨rfl, _, _, _, rfl, rfl, ?_, rfl⟩⟩
          refine ⟨rfl, ⟨by omega, by omega, by omega, by omega, by omega⟩, by omega, by omega, ⟨by omega, hqr⟩, ?_, by omega, ?_⟩
          · rw [show t0 - t0 = 0 by omega]
            show _ = _ - 0
            omega
          · rw [show t0 - t0 = 0 by omega]
            rfl
        · simp only [sx_cc, Classical.not_not] at g
          conv => whnf
          refine ⟨fun q9 => by first | (simp at q9; done) | omega, ?_⟩
          exact q_to h (by unfold aRest; rw [if_neg (by omega)])
    · skip
      conv => whnf
      refine ⟨fun g => ?_, fun g => ?_⟩
      · skip
        conv => whnf
        refine ⟨fun q9 => by first | (simp at q9; done) | omega, ?_⟩
        exact q_to h (by unfold aRest; rw [if_neg (by omega)])
      · exact absurd g (by simp [sx_cc])
  · intro n t L st σ' hk
    rcases hk with hk | hk
    · obtain ⟨rfl, v, a, w6, rfl, rfl, hc, rfl⟩ := hk
      obtain ⟨rfl, ⟨b1, b2, b3, b4, b5⟩, ha0, ha1, hq, hv, hv0, hs⟩ := hc
      have hbo := fOut_bd (σ (p + 10)) t0 (n := k.toNat) (by omega) (a - t0).toNat
      conv => whnf
      refine ⟨⟨by omega, by omega⟩, ?_⟩
      conv => whnf
      refine ⟨fun g => ?_, fun g => ?_⟩
      · simp only [sx_cc, Classical.not_not] at g
        conv => whnf
        refine ⟨fun q9 => by first | (simp at q9; done) | omega, ?_⟩
        have ea : a - t0 = k := by omega
        rw [ea] at hs
        exact q_to h (by unfold aRest; rw [if_pos ⟨by omega, by omega, by omega, by omega, by omega, by omega⟩, hs, if_pos rfl])
      · simp only [sx_cc, Classical.not_not] at g
        conv => whnf
        refine ⟨_, ?_, Or.inr (⟨rfl, _, _, _, rfl, rfl, ?_, rfl⟩)⟩
        · omega
        · refine ⟨rfl, ⟨by omega, by omega, by omega, by omega, by omega⟩, by omega, by omega, by omega, by omega, hq, ?_, hv0, hs, ?_⟩
          · rw [show t0 - t0 = 0 by omega, hv]
            show _ = _ - (_ + 0)
            omega
          · rw [show t0 - t0 = 0 by omega]
            rfl
    · obtain ⟨rfl, v, a, b, rfl, rfl, hc, rfl⟩ := hk
      obtain ⟨rfl, ⟨b1, b2, b3, b4, b5⟩, ha0, ha1, hb0, hb1, hq, hv, hv0, hs, hs2⟩ := hc
      have hbo := fOut_bd (σ (p + 10)) t0 (n := k.toNat) (by omega) (a - t0).toNat
      have hbi := fIn_bd (σ (p + 10)) t0 k.toNat a (b - t0).toNat
      have ebt : t0 + (b - t0) = b := by omega
      conv => whnf
      refine ⟨⟨by omega, by omega⟩, ?_⟩
      conv => whnf
      refine ⟨fun g => ?_, fun g => ?_⟩
      · simp only [sx_cc, Classical.not_not] at g
        conv => whnf
        refine ⟨⟨by omega, by omega⟩, ?_⟩
        conv => whnf
        refine ⟨_, ?_, Or.inl ⟨rfl, _, _, _, rfl, rfl, ?_, rfl⟩⟩
        · omega
        · have eb : b - t0 = k := by omega
          rw [eb] at hv hs2
          refine ⟨rfl, ⟨by omega, by omega, by omega, by omega, by omega⟩, by omega, by omega, hq, ?_, by omega, ?_⟩
          · rw [show a + 1 - t0 = (a - t0) + 1 by omega, fOut_s (by omega), show t0 + (a - t0) = a by omega]
            omega
          · rw [show a + 1 - t0 = (a - t0) + 1 by omega]
            refine fSe_no (by omega) hs ?_
            unfold fKo
            rw [show t0 + (a - t0) = a by omega]
            exact hs2
      · simp only [sx_cc, Classical.not_not] at g
        conv => whnf
        refine ⟨(by first | assumption | rfl), ?_⟩
        try simp (disch := omega) only [Int.cast_ofNat_Int, up_s, up_a, up_i, mp_a, mp_ge, cp_a, e2, m12]
        conv => whnf
        refine ⟨(by first | assumption | rfl), ?_⟩
        try simp (disch := omega) only [Int.cast_ofNat_Int, up_s, up_a, up_i, mp_a, mp_ge, cp_a, e2, m12]
        conv => whnf
        refine ⟨Nat.le_of_ble_eq_true rfl, Nat.le_of_ble_eq_true rfl, (by first | assumption | rfl), ?_⟩
        refine c_Frest hT hp hr (by omega) (by omega) (by omega) (by omega) ⟨by omega, by omega⟩ ⟨by omega, by omega⟩ ?_
        by_cases gr : fRst (σ (p + 10)) a b t0 k.toNat = true
        · rw [if_pos gr]
          conv => whnf
          refine ⟨fun g => ?_, fun g => ?_⟩
          · exact absurd g (by simp [sx_cc])
          · skip
            conv => whnf
            refine ⟨fun g => ?_, fun g => ?_⟩
            · simp only [sx_cc, Classical.not_not] at g
              conv => whnf
              refine ⟨⟨by omega, by omega⟩, ?_⟩
              conv => whnf
              refine ⟨⟨by omega, by omega⟩, ?_⟩
              conv => whnf
              refine ⟨_, ?_, Or.inr (⟨rfl, _, _, _, rfl, rfl, ?_, rfl⟩)⟩
              · omega
              · refine ⟨rfl, ⟨by omega, by omega, by omega, by omega, by omega⟩, by omega, by omega, by omega, by omega, hq, ?_, by omega, hs, ?_⟩
                · rw [show b + 1 - t0 = (b - t0) + 1 by omega, fIn_s (by omega), ebt]
                  first | (rw [if_pos (by assumption)]; omega) | (rw [if_neg (by assumption)]; omega)
                · rw [show b + 1 - t0 = (b - t0) + 1 by omega]
                  refine fSe_no (by omega) hs2 ?_
                  unfold fKi
                  rw [ebt, if_neg]
                  intro z
                  first | exact absurd z.1 (by assumption) | (have := z.2; omega)
            · simp only [sx_cc, Classical.not_not] at g
              conv => whnf
              refine ⟨⟨by omega, by omega⟩, ?_⟩
              conv => whnf
              refine ⟨⟨by omega, by omega⟩, ?_⟩
              conv => whnf
              refine ⟨fun q9 => by first | (simp at q9; done) | omega, ?_⟩
              have e1 : fKi (σ (p + 10)) t0 k.toNat q a (b - t0) = 100 * a + b := by
                unfold fKi
                rw [ebt, if_pos ⟨by assumption, by omega⟩]
              have e2' : fKo (σ (p + 10)) t0 k.toNat q (a - t0) = 100 * a + b := by
                unfold fKo
                rw [show t0 + (a - t0) = a by omega, fSe_hit (i := b - t0) (by omega) (by omega) hs2 (by rw [e1]; omega), e1]
              have e3 : fSe (fKo (σ (p + 10)) t0 k.toNat q) k.toNat = 100 * a + b := by rw [fSe_hit (i := a - t0) (by omega) (by omega) hs (by rw [e2']; omega), e2']
              exact q_to h (by unfold aRest; rw [if_pos ⟨by omega, by omega, by omega, by omega, by omega, by omega⟩, e3, if_neg (by omega)])
        · rw [if_neg gr]
          conv => whnf
          refine ⟨fun g => ?_, fun g => ?_⟩
          · skip
            conv => whnf
            refine ⟨⟨by omega, by omega⟩, ?_⟩
            conv => whnf
            refine ⟨_, ?_, Or.inr (⟨rfl, _, _, _, rfl, rfl, ?_, rfl⟩)⟩
            · omega
            · refine ⟨rfl, ⟨by omega, by omega, by omega, by omega, by omega⟩, by omega, by omega, by omega, by omega, hq, ?_, by omega, hs, ?_⟩
              · rw [show b + 1 - t0 = (b - t0) + 1 by omega, fIn_s (by omega), ebt]
                first | (rw [if_pos (by assumption)]; omega) | (rw [if_neg (by assumption)]; omega)
              · rw [show b + 1 - t0 = (b - t0) + 1 by omega]
                refine fSe_no (by omega) hs2 ?_
                unfold fKi
                rw [ebt, if_neg]
                intro z
                first | exact absurd z.1 (by assumption) | (have := z.2; omega)
          · exact absurd g (by simp [sx_cc])
set_option maxRecDepth 20000 in
theorem r_rests (e0 : σ0 = sx_up σ 124 2 0) (hT : PT σ0) (hr : HR σ0 135) {t0 k : Int} (h : Q (some (.inl (aRests (σ0 135) t0 k))) shM σ0) : sx_Run X 284 [.inr (.inr 124), .inl t0, .inl k] shM σ Q := by
  refine sx_rule0 (own := 12) (cd := kX12_rests) (nL := 3) (by decide +kernel) (by decide +kernel) kX12_rests_ok (by decide +kernel) (Nat.le_of_ble_eq_true rfl) 40 ?_
  conv => whnf
  refine ⟨(by first | assumption | rfl), ?_⟩
  try simp (disch := omega) only [Int.cast_ofNat_Int, up_s, up_a, up_i, mp_a, mp_ge, cp_a]
  rw [← e0]
  conv => whnf
  refine ⟨Nat.le_of_ble_eq_true rfl, Nat.le_of_ble_eq_true rfl, (by first | assumption | rfl), ?_⟩
  refine c_Rhours (fun g1 g2 g3 g4 g5 => ?_) (fun g0 => ?_)
  · skip
    conv => whnf
    refine ⟨fun g => ?_, fun g => ?_⟩
    · exact absurd g (by simp [sx_cc])
    · skip
      conv => whnf
      refine ⟨Nat.le_of_ble_eq_true rfl, Nat.le_of_ble_eq_true rfl, (by first | assumption | rfl), ?_⟩
      refine c_RrestAt hT hr (by omega) (by omega) (by omega) (by omega) (by omega) (fun z1 => ?_) (fun z2 => ?_)
      · skip
        conv => whnf
        refine ⟨fun q9 => by first | (simp at q9; done) | omega, ?_⟩
        first | (exfalso; omega) | exact q_to h (by unfold aRests; first | (rw [if_neg (by omega)]; done) | (rw [if_pos ⟨by omega, by omega, by omega, by omega, by omega⟩]; done))
      · skip
        conv => whnf
        refine ⟨fun q9 => by first | (simp at q9; done) | omega, ?_⟩
        first | (exfalso; omega) | exact q_to h (by unfold aRests; first | (rw [if_neg (by omega)]; done) | (rw [if_pos ⟨by omega, by omega, by omega, by omega, by omega⟩]; done))
  · skip
    conv => whnf
    refine ⟨fun g => ?_, fun g => ?_⟩
    · skip
      conv => whnf
      refine ⟨fun q9 => by first | (simp at q9; done) | omega, ?_⟩
      first | (exfalso; omega) | exact q_to h (by unfold aRests; first | (rw [if_neg (by omega)]; done) | (rw [if_pos ⟨by omega, by omega, by omega, by omega, by omega⟩]; done))
    · exact absurd g (by simp [sx_cc])
set_option maxRecDepth 20000 in
theorem r_rest (e0 : σ0 = sx_up σ 124 2 0) (hT : PT σ0) (hr : HR σ0 135) {t0 k q : Int} (h : Q (some (.inl (aRest (σ0 135) t0 k q))) shM σ0) : sx_Run X 285 [.inr (.inr 124), .inl t0, .inl k, .inl q] shM σ Q := by
  refine sx_rule0 (own := 12) (cd := kX12_rest) (nL := 4) (by decide +kernel) (by decide +kernel) kX12_rest_ok (by decide +kernel) (Nat.le_of_ble_eq_true rfl) 40 ?_
  conv => whnf
  refine ⟨(by first | assumption | rfl), ?_⟩
  try simp (disch := omega) only [Int.cast_ofNat_Int, up_s, up_a, up_i, mp_a, mp_ge, cp_a]
  rw [← e0]
  conv => whnf
  refine ⟨Nat.le_of_ble_eq_true rfl, Nat.le_of_ble_eq_true rfl, (by first | assumption | rfl), ?_⟩
  refine c_Rhours (fun g1 g2 g3 g4 g5 => ?_) (fun g0 => ?_)
  · skip
    conv => whnf
    refine ⟨fun g => ?_, fun g => ?_⟩
    · exact absurd g (by simp [sx_cc])
    · skip
      conv => whnf
      refine ⟨fun g => ?_, fun g => ?_⟩
      · simp only [sx_cc, Classical.not_not] at g
        conv => whnf
        refine ⟨fun q9 => by first | (simp at q9; done) | omega, ?_⟩
        first | (exfalso; omega) | exact q_to h (by unfold aRest; first | (rw [if_neg (by omega)]; done) | (rw [if_pos ⟨by omega, by omega, by omega, by omega, by omega, by omega⟩]; done))
      · simp only [sx_cc, Classical.not_not] at g
        conv => whnf
        refine ⟨Nat.le_of_ble_eq_true rfl, Nat.le_of_ble_eq_true rfl, (by first | assumption | rfl), ?_⟩
        refine c_RrestAt hT hr (by omega) (by omega) (by omega) (by omega) (by omega) (fun z1 => ?_) (fun z2 => ?_)
        · skip
          conv => whnf
          refine ⟨fun q9 => by first | (simp at q9; done) | omega, ?_⟩
          first | (exfalso; omega) | exact q_to h (by unfold aRest; first | (rw [if_neg (by omega)]; done) | (rw [if_pos ⟨by omega, by omega, by omega, by omega, by omega, by omega⟩]; done))
        · skip
          conv => whnf
          refine ⟨fun q9 => by first | (simp at q9; done) | omega, ?_⟩
          first | (exfalso; omega) | exact q_to h (by unfold aRest; first | (rw [if_neg (by omega)]; done) | (rw [if_pos ⟨by omega, by omega, by omega, by omega, by omega, by omega⟩]; done))
  · skip
    conv => whnf
    refine ⟨fun g => ?_, fun g => ?_⟩
    · skip
      conv => whnf
      refine ⟨fun q9 => by first | (simp at q9; done) | omega, ?_⟩
      first | (exfalso; omega) | exact q_to h (by unfold aRest; first | (rw [if_neg (by omega)]; done) | (rw [if_pos ⟨by omega, by omega, by omega, by omega, by omega, by omega⟩]; done))
    · exact absurd g (by simp [sx_cc])
end SXF4
