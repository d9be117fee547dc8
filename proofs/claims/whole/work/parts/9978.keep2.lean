/-! THE TEXT KEPT, reference side (by wip/whole) -/
section SXS4
variable {X : sx_X} {Q : sx_R} {σ σ0 σ' σ1 σ2 : sx_S} {P : aP}
set_option maxRecDepth 20000 in
theorem c_Rkeept2 (wp : wP P) (hT : PT σ) (hsc : SCK σ) (hl : ∀ i : Int, 3 ≤ i → i < 6 → σ 136 i = 0 ∨ σ 136 i = 1) (hRP : ∀ σ1, pKp 142 σ σ1 → rP σ1 P) (h : ∀ σ1 σ', pKp 142 σ σ1 → fr FBr σ1 σ' → GR 0 P (aM0 P) σ' → rW P σ' (aW0 P) → σ' 124 74 = 0 → σ' 124 75 = -1 → σ' 124 83 = 0 → σ' 124 85 = 0 → Q none shM σ') : sx_Run X 191 [.inr (.inr 124)] shM σ Q := by
  refine sx_rule2 (own := 12) (cd := kX12_keepText) (nL := 2) (by decide +kernel) (by decide +kernel) kX12_keepText_ok (by decide +kernel) (Nat.le_of_ble_eq_true rfl) [125] 40 (fun n t L st _ σ' => (t = 125 ∧ ∃ i : Int, st = [] ∧ L = [some (.inr (.inr (124))), some (.inl (i))] ∧ (∃ σ6 : sx_S, pKp 136 σ σ6 ∧ (∀ a y : Int, ¬ (a = 136 ∧ 0 ≤ y ∧ y < i) → σ' a y = σ6 a y) ∧ (∀ y : Int, 0 ≤ y → y < i → σ' 136 y = σ6 136 (3 + y)) ∧ 0 ≤ i ∧ i ≤ 3) ∧ n = (3 - i).toNat)) ?_ ?_
  · skip
    conv => whnf
    refine ⟨(by first | assumption | rfl), ?_⟩
    try simp (disch := omega) only [Int.cast_ofNat_Int, up_s, up_a, up_i, mp_a, mp_ge]
    try simp only [r30]
    try simp only [r31]
    try simp only [r32]
    try simp only [r33]
    try simp only [r34]
    try simp only [r35]
    try simp only [r36]
    try simp only [r37]
    try simp only [r38]
    try simp only [r39]
    try simp only [r40]
    try simp only [r41]
    try simp only [r42]
    try simp only [r43]
    try simp only [r44]
    try simp only [e6]
    conv => whnf
    refine ⟨(by first | assumption | rfl), ?_⟩
    try simp (disch := omega) only [Int.cast_ofNat_Int, up_s, up_a, up_i, mp_a, mp_ge]
    try simp only [r30]
    try simp only [r31]
    try simp only [r32]
    try simp only [r33]
    try simp only [r34]
    try simp only [r35]
    try simp only [r36]
    try simp only [r37]
    try simp only [r38]
    try simp only [r39]
    try simp only [r40]
    try simp only [r41]
    try simp only [r42]
    try simp only [r43]
    try simp only [r44]
    try simp only [e6]
    conv => whnf
    refine ⟨(by first | assumption | rfl), ?_⟩
    try simp (disch := omega) only [Int.cast_ofNat_Int, up_s, up_a, up_i, mp_a, mp_ge]
    try simp only [r30]
    try simp only [r31]
    try simp only [r32]
    try simp only [r33]
    try simp only [r34]
    try simp only [r35]
    try simp only [r36]
    try simp only [r37]
    try simp only [r38]
    try simp only [r39]
    try simp only [r40]
    try simp only [r41]
    try simp only [r42]
    try simp only [r43]
    try simp only [r44]
    try simp only [e6]
    conv => whnf
    refine ⟨(by first | assumption | rfl), ?_⟩
    try simp (disch := omega) only [Int.cast_ofNat_Int, up_s, up_a, up_i, mp_a, mp_ge]
    try simp only [r30]
    try simp only [r31]
    try simp only [r32]
    try simp only [r33]
    try simp only [r34]
    try simp only [r35]
    try simp only [r36]
    try simp only [r37]
    try simp only [r38]
    try simp only [r39]
    try simp only [r40]
    try simp only [r41]
    try simp only [r42]
    try simp only [r43]
    try simp only [r44]
    try simp only [e6]
    conv => whnf
    refine ⟨(by first | assumption | rfl), ?_⟩
    try simp (disch := omega) only [Int.cast_ofNat_Int, up_s, up_a, up_i, mp_a, mp_ge]
    try simp only [r30]
    try simp only [r31]
    try simp only [r32]
    try simp only [r33]
    try simp only [r34]
    try simp only [r35]
    try simp only [r36]
    try simp only [r37]
    try simp only [r38]
    try simp only [r39]
    try simp only [r40]
    try simp only [r41]
    try simp only [r42]
    try simp only [r43]
    try simp only [r44]
    try simp only [e6]
    conv => whnf
    refine ⟨(by first | assumption | rfl), ?_⟩
    try simp (disch := omega) only [Int.cast_ofNat_Int, up_s, up_a, up_i, mp_a, mp_ge]
    try simp only [r30]
    try simp only [r31]
    try simp only [r32]
    try simp only [r33]
    try simp only [r34]
    try simp only [r35]
    try simp only [r36]
    try simp only [r37]
    try simp only [r38]
    try simp only [r39]
    try simp only [r40]
    try simp only [r41]
    try simp only [r42]
    try simp only [r43]
    try simp only [r44]
    try simp only [e6]
    conv => whnf
    refine ⟨(by first | assumption | rfl), ?_⟩
    try simp (disch := omega) only [Int.cast_ofNat_Int, up_s, up_a, up_i, mp_a, mp_ge]
    try simp only [r30]
    try simp only [r31]
    try simp only [r32]
    try simp only [r33]
    try simp only [r34]
    try simp only [r35]
    try simp only [r36]
    try simp only [r37]
    try simp only [r38]
    try simp only [r39]
    try simp only [r40]
    try simp only [r41]
    try simp only [r42]
    try simp only [r43]
    try simp only [r44]
    try simp only [e6]
    conv => whnf
    refine ⟨(by first | assumption | rfl), ?_⟩
    try simp (disch := omega) only [Int.cast_ofNat_Int, up_s, up_a, up_i, mp_a, mp_ge]
    try simp only [r30]
    try simp only [r31]
    try simp only [r32]
    try simp only [r33]
    try simp only [r34]
    try simp only [r35]
    try simp only [r36]
    try simp only [r37]
    try simp only [r38]
    try simp only [r39]
    try simp only [r40]
    try simp only [r41]
    try simp only [r42]
    try simp only [r43]
    try simp only [r44]
    try simp only [e6]
    conv => whnf
    refine ⟨(by first | assumption | rfl), ?_⟩
    try simp (disch := omega) only [Int.cast_ofNat_Int, up_s, up_a, up_i, mp_a, mp_ge]
    try simp only [r30]
    try simp only [r31]
    try simp only [r32]
    try simp only [r33]
    try simp only [r34]
    try simp only [r35]
    try simp only [r36]
    try simp only [r37]
    try simp only [r38]
    try simp only [r39]
    try simp only [r40]
    try simp only [r41]
    try simp only [r42]
    try simp only [r43]
    try simp only [r44]
    try simp only [e6]
    conv => whnf
    refine ⟨(by first | assumption | rfl), ?_⟩
    try simp (disch := omega) only [Int.cast_ofNat_Int, up_s, up_a, up_i, mp_a, mp_ge]
    try simp only [r30]
    try simp only [r31]
    try simp only [r32]
    try simp only [r33]
    try simp only [r34]
    try simp only [r35]
    try simp only [r36]
    try simp only [r37]
    try simp only [r38]
    try simp only [r39]
    try simp only [r40]
    try simp only [r41]
    try simp only [r42]
    try simp only [r43]
    try simp only [r44]
    try simp only [e6]
    conv => whnf
    refine ⟨(by first | assumption | rfl), ?_⟩
    try simp (disch := omega) only [Int.cast_ofNat_Int, up_s, up_a, up_i, mp_a, mp_ge]
    try simp only [r30]
    try simp only [r31]
    try simp only [r32]
    try simp only [r33]
    try simp only [r34]
    try simp only [r35]
    try simp only [r36]
    try simp only [r37]
    try simp only [r38]
    try simp only [r39]
    try simp only [r40]
    try simp only [r41]
    try simp only [r42]
    try simp only [r43]
    try simp only [r44]
    try simp only [e6]
    conv => whnf
    refine ⟨(by first | assumption | rfl), ?_⟩
    try simp (disch := omega) only [Int.cast_ofNat_Int, up_s, up_a, up_i, mp_a, mp_ge]
    try simp only [r30]
    try simp only [r31]
    try simp only [r32]
    try simp only [r33]
    try simp only [r34]
    try simp only [r35]
    try simp only [r36]
    try simp only [r37]
    try simp only [r38]
    try simp only [r39]
    try simp only [r40]
    try simp only [r41]
    try simp only [r42]
    try simp only [r43]
    try simp only [r44]
    try simp only [e6]
    generalize e127 : sx_up _ 124 17 _ = σ127
    have K127 : pKp 127 σ σ127 := ⟨fun a i z1 z2 => by rw [← e127, up_n (by omega), up_n (by omega), up_n (by omega), up_n (by omega), up_n (by omega), up_n (by omega)], fun i y0 y1 => by
        rw [← e127]
        rcases (show i = 12 ∨ i = 13 ∨ i = 14 ∨ i = 15 ∨ i = 16 ∨ i = 17 by omega) with e | e | e | e | e | e <;> subst e <;> simp (disch := decide) only [up_i, up_s] <;> rfl, fun r y r0 r1 => by omega⟩
    have r30 := pt_124_30 (pKp_pt K127 (by decide) hT)
    conv => whnf
    refine ⟨(by first | assumption | rfl), ?_⟩
    try simp (disch := omega) only [Int.cast_ofNat_Int, up_s, up_a, up_i, mp_a, mp_ge]
    try simp only [r30]
    try simp only [r31]
    try simp only [r32]
    try simp only [r33]
    try simp only [r34]
    try simp only [r35]
    try simp only [r36]
    try simp only [r37]
    try simp only [r38]
    try simp only [r39]
    try simp only [r40]
    try simp only [r41]
    try simp only [r42]
    try simp only [r43]
    try simp only [r44]
    try simp only [e6]
    conv => whnf
    refine ⟨Nat.le_of_ble_eq_true rfl, Nat.le_of_ble_eq_true rfl, ?_⟩
    refine c_Rcopies (show sx_lk shM 127 = (1, 96) from rfl) (by decide) (by decide) (by decide) ?_
    intro σ128 hf127 hc127
    have K128 := pKp_s K127 ⟨by decide, by decide⟩ (by decide) hf127 hc127
    have r31 := pt_124_31 (pKp_pt K128 (by decide) hT)
    conv => whnf
    refine ⟨(by first | assumption | rfl), ?_⟩
    try simp (disch := omega) only [Int.cast_ofNat_Int, up_s, up_a, up_i, mp_a, mp_ge]
    try simp only [r30]
    try simp only [r31]
    try simp only [r32]
    try simp only [r33]
    try simp only [r34]
    try simp only [r35]
    try simp only [r36]
    try simp only [r37]
    try simp only [r38]
    try simp only [r39]
    try simp only [r40]
    try simp only [r41]
    try simp only [r42]
    try simp only [r43]
    try simp only [r44]
    try simp only [e6]
    conv => whnf
    refine ⟨Nat.le_of_ble_eq_true rfl, Nat.le_of_ble_eq_true rfl, ?_⟩
    refine c_Rcopies (show sx_lk shM 128 = (1, 96) from rfl) (by decide) (by decide) (by decide) ?_
    intro σ129 hf128 hc128
    have K129 := pKp_s K128 ⟨by decide, by decide⟩ (by decide) hf128 hc128
    have r32 := pt_124_32 (pKp_pt K129 (by decide) hT)
    conv => whnf
    refine ⟨(by first | assumption | rfl), ?_⟩
    try simp (disch := omega) only [Int.cast_ofNat_Int, up_s, up_a, up_i, mp_a, mp_ge]
    try simp only [r30]
    try simp only [r31]
    try simp only [r32]
    try simp only [r33]
    try simp only [r34]
    try simp only [r35]
    try simp only [r36]
    try simp only [r37]
    try simp only [r38]
    try simp only [r39]
    try simp only [r40]
    try simp only [r41]
    try simp only [r42]
    try simp only [r43]
    try simp only [r44]
    try simp only [e6]
    conv => whnf
    refine ⟨Nat.le_of_ble_eq_true rfl, Nat.le_of_ble_eq_true rfl, ?_⟩
    refine c_Rcopies (show sx_lk shM 129 = (1, 6) from rfl) (by decide) (by decide) (by decide) ?_
    intro σ130 hf129 hc129
    have K130 := pKp_s K129 ⟨by decide, by decide⟩ (by decide) hf129 hc129
    have r33 := pt_124_33 (pKp_pt K130 (by decide) hT)
    conv => whnf
    refine ⟨(by first | assumption | rfl), ?_⟩
    try simp (disch := omega) only [Int.cast_ofNat_Int, up_s, up_a, up_i, mp_a, mp_ge]
    try simp only [r30]
    try simp only [r31]
    try simp only [r32]
    try simp only [r33]
    try simp only [r34]
    try simp only [r35]
    try simp only [r36]
    try simp only [r37]
    try simp only [r38]
    try simp only [r39]
    try simp only [r40]
    try simp only [r41]
    try simp only [r42]
    try simp only [r43]
    try simp only [r44]
    try simp only [e6]
    conv => whnf
    refine ⟨Nat.le_of_ble_eq_true rfl, Nat.le_of_ble_eq_true rfl, ?_⟩
    refine c_Rcopies (show sx_lk shM 130 = (1, 10) from rfl) (by decide) (by decide) (by decide) ?_
    intro σ131 hf130 hc130
    have K131 := pKp_s K130 ⟨by decide, by decide⟩ (by decide) hf130 hc130
    have r34 := pt_124_34 (pKp_pt K131 (by decide) hT)
    conv => whnf
    refine ⟨(by first | assumption | rfl), ?_⟩
    try simp (disch := omega) only [Int.cast_ofNat_Int, up_s, up_a, up_i, mp_a, mp_ge]
    try simp only [r30]
    try simp only [r31]
    try simp only [r32]
    try simp only [r33]
    try simp only [r34]
    try simp only [r35]
    try simp only [r36]
    try simp only [r37]
    try simp only [r38]
    try simp only [r39]
    try simp only [r40]
    try simp only [r41]
    try simp only [r42]
    try simp only [r43]
    try simp only [r44]
    try simp only [e6]
    conv => whnf
    refine ⟨Nat.le_of_ble_eq_true rfl, Nat.le_of_ble_eq_true rfl, ?_⟩
    refine c_Rcopies (show sx_lk shM 131 = (1, 10) from rfl) (by decide) (by decide) (by decide) ?_
    intro σ132 hf131 hc131
    have K132 := pKp_s K131 ⟨by decide, by decide⟩ (by decide) hf131 hc131
    have r35 := pt_124_35 (pKp_pt K132 (by decide) hT)
    conv => whnf
    refine ⟨(by first | assumption | rfl), ?_⟩
    try simp (disch := omega) only [Int.cast_ofNat_Int, up_s, up_a, up_i, mp_a, mp_ge]
    try simp only [r30]
    try simp only [r31]
    try simp only [r32]
    try simp only [r33]
    try simp only [r34]
    try simp only [r35]
    try simp only [r36]
    try simp only [r37]
    try simp only [r38]
    try simp only [r39]
    try simp only [r40]
    try simp only [r41]
    try simp only [r42]
    try simp only [r43]
    try simp only [r44]
    try simp only [e6]
    conv => whnf
    refine ⟨Nat.le_of_ble_eq_true rfl, Nat.le_of_ble_eq_true rfl, ?_⟩
    refine c_Rcopies (show sx_lk shM 132 = (1, 10) from rfl) (by decide) (by decide) (by decide) ?_
    intro σ133 hf132 hc132
    have K133 := pKp_s K132 ⟨by decide, by decide⟩ (by decide) hf132 hc132
    have r36 := pt_124_36 (pKp_pt K133 (by decide) hT)
    conv => whnf
    refine ⟨(by first | assumption | rfl), ?_⟩
    try simp (disch := omega) only [Int.cast_ofNat_Int, up_s, up_a, up_i, mp_a, mp_ge]
    try simp only [r30]
    try simp only [r31]
    try simp only [r32]
    try simp only [r33]
    try simp only [r34]
    try simp only [r35]
    try simp only [r36]
    try simp only [r37]
    try simp only [r38]
    try simp only [r39]
    try simp only [r40]
    try simp only [r41]
    try simp only [r42]
    try simp only [r43]
    try simp only [r44]
    try simp only [e6]
    conv => whnf
    refine ⟨Nat.le_of_ble_eq_true rfl, Nat.le_of_ble_eq_true rfl, ?_⟩
    refine c_Rcopies (show sx_lk shM 133 = (1, 10) from rfl) (by decide) (by decide) (by decide) ?_
    intro σ134 hf133 hc133
    have K134 := pKp_s K133 ⟨by decide, by decide⟩ (by decide) hf133 hc133
    have r37 := pt_124_37 (pKp_pt K134 (by decide) hT)
    conv => whnf
    refine ⟨(by first | assumption | rfl), ?_⟩
    try simp (disch := omega) only [Int.cast_ofNat_Int, up_s, up_a, up_i, mp_a, mp_ge]
    try simp only [r30]
    try simp only [r31]
    try simp only [r32]
    try simp only [r33]
    try simp only [r34]
    try simp only [r35]
    try simp only [r36]
    try simp only [r37]
    try simp only [r38]
    try simp only [r39]
    try simp only [r40]
    try simp only [r41]
    try simp only [r42]
    try simp only [r43]
    try simp only [r44]
    try simp only [e6]
    conv => whnf
    refine ⟨Nat.le_of_ble_eq_true rfl, Nat.le_of_ble_eq_true rfl, ?_⟩
    refine c_Rcopies (show sx_lk shM 134 = (1, 10) from rfl) (by decide) (by decide) (by decide) ?_
    intro σ135 hf134 hc134
    have K135 := pKp_s K134 ⟨by decide, by decide⟩ (by decide) hf134 hc134
    have r38 := pt_124_38 (pKp_pt K135 (by decide) hT)
    conv => whnf
    refine ⟨(by first | assumption | rfl), ?_⟩
    try simp (disch := omega) only [Int.cast_ofNat_Int, up_s, up_a, up_i, mp_a, mp_ge]
    try simp only [r30]
    try simp only [r31]
    try simp only [r32]
    try simp only [r33]
    try simp only [r34]
    try simp only [r35]
    try simp only [r36]
    try simp only [r37]
    try simp only [r38]
    try simp only [r39]
    try simp only [r40]
    try simp only [r41]
    try simp only [r42]
    try simp only [r43]
    try simp only [r44]
    try simp only [e6]
    conv => whnf
    refine ⟨Nat.le_of_ble_eq_true rfl, Nat.le_of_ble_eq_true rfl, ?_⟩
    refine c_Rcopies (show sx_lk shM 135 = (1, 48) from rfl) (by decide) (by decide) (by decide) ?_
    intro σ136 hf135 hc135
    have K136 := pKp_s K135 ⟨by decide, by decide⟩ (by decide) hf135 hc135
    conv => whnf
    refine ⟨_, ⟨rfl, _, rfl, rfl, ?_, rfl⟩⟩
    exact ⟨σ136, K136, fun a y _ => rfl, fun y y0 y1 => by omega, by omega, by omega⟩
  · intro n t L st σ' hk
    obtain ⟨rfl, i, rfl, rfl, hc, rfl⟩ := hk
    obtain ⟨σ136, K136, hf136, hc136, hi0, hi1⟩ := hc
    have T6 : PT σ' := PT_ar (pKp_pt K136 (by decide) hT) lk_136 (by decide) (fun b z9 => funext fun j => hf136 b j (fun w => z9 w.1))
    have r39 := pt_124_39 T6
    have r40 := pt_124_40 T6
    have e6 : σ' 136 (3 + i) = σ 136 (3 + i) := by rw [hf136 _ _ (by omega)]; exact K136.1 _ _ (by omega) (fun z9 => by omega) 
    conv => whnf
    refine ⟨fun g => ?_, fun g => ?_⟩
    · simp only [sx_cc, Classical.not_not] at g
      have ei : i = 3 := (by omega)
      subst ei
      obtain ⟨σ137, e137⟩ : ∃ s, s = σ' := ⟨_, rfl⟩
      subst e137
      have K137 := pKp_s K136 ⟨by decide, by decide⟩ (by decide) hf136 hc136
      conv => whnf
      refine ⟨(by first | assumption | rfl), ?_⟩
      try simp (disch := omega) only [Int.cast_ofNat_Int, up_s, up_a, up_i, mp_a, mp_ge]
      try simp only [r30]
      try simp only [r31]
      try simp only [r32]
      try simp only [r33]
      try simp only [r34]
      try simp only [r35]
      try simp only [r36]
      try simp only [r37]
      try simp only [r38]
      try simp only [r39]
      try simp only [r40]
      try simp only [r41]
      try simp only [r42]
      try simp only [r43]
      try simp only [r44]
      try simp only [e6]
      conv => whnf
      refine ⟨Nat.le_of_ble_eq_true rfl, Nat.le_of_ble_eq_true rfl, ?_⟩
      refine c_Rcopies (show sx_lk shM 137 = (1, 6) from rfl) (by decide) (by decide) (by decide) ?_
      intro σ138 hf137 hc137
      have K138 := pKp_s K137 ⟨by decide, by decide⟩ (by decide) hf137 hc137
      have r41 := pt_124_41 (pKp_pt K138 (by decide) hT)
      conv => whnf
      refine ⟨(by first | assumption | rfl), ?_⟩
      try simp (disch := omega) only [Int.cast_ofNat_Int, up_s, up_a, up_i, mp_a, mp_ge]
      try simp only [r30]
      try simp only [r31]
      try simp only [r32]
      try simp only [r33]
      try simp only [r34]
      try simp only [r35]
      try simp only [r36]
      try simp only [r37]
      try simp only [r38]
      try simp only [r39]
      try simp only [r40]
      try simp only [r41]
      try simp only [r42]
      try simp only [r43]
      try simp only [r44]
      try simp only [e6]
      conv => whnf
      refine ⟨Nat.le_of_ble_eq_true rfl, Nat.le_of_ble_eq_true rfl, ?_⟩
      refine c_Rcopies (show sx_lk shM 138 = (1, 6) from rfl) (by decide) (by decide) (by decide) ?_
      intro σ139 hf138 hc138
      have K139 := pKp_s K138 ⟨by decide, by decide⟩ (by decide) hf138 hc138
      have r42 := pt_124_42 (pKp_pt K139 (by decide) hT)
      conv => whnf
      refine ⟨(by first | assumption | rfl), ?_⟩
      try simp (disch := omega) only [Int.cast_ofNat_Int, up_s, up_a, up_i, mp_a, mp_ge]
      try simp only [r30]
      try simp only [r31]
      try simp only [r32]
      try simp only [r33]
      try simp only [r34]
      try simp only [r35]
      try simp only [r36]
      try simp only [r37]
      try simp only [r38]
      try simp only [r39]
      try simp only [r40]
      try simp only [r41]
      try simp only [r42]
      try simp only [r43]
      try simp only [r44]
      try simp only [e6]
      conv => whnf
      refine ⟨Nat.le_of_ble_eq_true rfl, Nat.le_of_ble_eq_true rfl, ?_⟩
      refine c_Rcopies (show sx_lk shM 139 = (1, 128) from rfl) (by decide) (by decide) (by decide) ?_
      intro σ140 hf139 hc139
      have K140 := pKp_s K139 ⟨by decide, by decide⟩ (by decide) hf139 hc139
      have r43 := pt_124_43 (pKp_pt K140 (by decide) hT)
      conv => whnf
      refine ⟨(by first | assumption | rfl), ?_⟩
      try simp (disch := omega) only [Int.cast_ofNat_Int, up_s, up_a, up_i, mp_a, mp_ge]
      try simp only [r30]
      try simp only [r31]
      try simp only [r32]
      try simp only [r33]
      try simp only [r34]
      try simp only [r35]
      try simp only [r36]
      try simp only [r37]
      try simp only [r38]
      try simp only [r39]
      try simp only [r40]
      try simp only [r41]
      try simp only [r42]
      try simp only [r43]
      try simp only [r44]
      try simp only [e6]
      conv => whnf
      refine ⟨Nat.le_of_ble_eq_true rfl, Nat.le_of_ble_eq_true rfl, ?_⟩
      refine c_Rcopies (show sx_lk shM 140 = (1, 128) from rfl) (by decide) (by decide) (by decide) ?_
      intro σ141 hf140 hc140
      have K141 := pKp_s K140 ⟨by decide, by decide⟩ (by decide) hf140 hc140
      have r44 := pt_124_44 (pKp_pt K141 (by decide) hT)
      conv => whnf
      refine ⟨(by first | assumption | rfl), ?_⟩
      try simp (disch := omega) only [Int.cast_ofNat_Int, up_s, up_a, up_i, mp_a, mp_ge]
      try simp only [r30]
      try simp only [r31]
      try simp only [r32]
      try simp only [r33]
      try simp only [r34]
      try simp only [r35]
      try simp only [r36]
      try simp only [r37]
      try simp only [r38]
      try simp only [r39]
      try simp only [r40]
      try simp only [r41]
      try simp only [r42]
      try simp only [r43]
      try simp only [r44]
      try simp only [e6]
      conv => whnf
      refine ⟨Nat.le_of_ble_eq_true rfl, Nat.le_of_ble_eq_true rfl, ?_⟩
      refine c_Rcopies (show sx_lk shM 141 = (1, 128) from rfl) (by decide) (by decide) (by decide) ?_
      intro σ142 hf141 hc141
      have K142 := pKp_s K141 ⟨by decide, by decide⟩ (by decide) hf141 hc141
      conv => whnf
      refine ⟨Nat.le_of_ble_eq_true rfl, Nat.le_of_ble_eq_true rfl, (by first | assumption | rfl), ?_⟩
      refine c_Rbegin wp (pKp_pt K142 (by decide) hT) (hRP _ K142) (hsc.of (fun j => K142.1 _ _ (by omega) (by omega)) (K142.1 _ _ (by decide) (by omega))) ?_
      intro σ9 f9 g9 w9 b1 b2 b3 b4
      conv => whnf
      refine ⟨rfl, ?_⟩
      exact h _ _ K142 f9 g9 w9 b1 b2 b3 b4
    · simp only [sx_cc, Classical.not_not] at g
      have hlt := hl (3 + i) (by omega) (by omega)
      conv => whnf
      refine ⟨(by first | assumption | rfl), ?_⟩
      try simp (disch := omega) only [Int.cast_ofNat_Int, up_s, up_a, up_i, mp_a, mp_ge]
      try simp only [r30]
      try simp only [r31]
      try simp only [r32]
      try simp only [r33]
      try simp only [r34]
      try simp only [r35]
      try simp only [r36]
      try simp only [r37]
      try simp only [r38]
      try simp only [r39]
      try simp only [r40]
      try simp only [r41]
      try simp only [r42]
      try simp only [r43]
      try simp only [r44]
      try simp only [e6]
      conv => whnf
      refine ⟨(by first | assumption | rfl), ?_⟩
      try simp (disch := omega) only [Int.cast_ofNat_Int, up_s, up_a, up_i, mp_a, mp_ge]
      try simp only [r30]
      try simp only [r31]
      try simp only [r32]
      try simp only [r33]
      try simp only [r34]
      try simp only [r35]
      try simp only [r36]
      try simp only [r37]
      try simp only [r38]
      try simp only [r39]
      try simp only [r40]
      try simp only [r41]
      try simp only [r42]
      try simp only [r43]
      try simp only [r44]
      try simp only [e6]
      conv => whnf
      refine ⟨⟨by omega, by omega⟩, ?_⟩
      conv => whnf
      refine ⟨by decide, ?_⟩
      conv => whnf
      refine ⟨sx_ixI (by first | assumption | rfl) (by omega) (by omega), ?_⟩
      try simp (disch := omega) only [Int.cast_ofNat_Int, up_s, up_a, up_i, mp_a, mp_ge]
      try simp only [r30]
      try simp only [r31]
      try simp only [r32]
      try simp only [r33]
      try simp only [r34]
      try simp only [r35]
      try simp only [r36]
      try simp only [r37]
      try simp only [r38]
      try simp only [r39]
      try simp only [r40]
      try simp only [r41]
      try simp only [r42]
      try simp only [r43]
      try simp only [r44]
      try simp only [e6]
      conv => whnf
      refine ⟨sx_ixI (by first | assumption | rfl) (by omega) (by omega), by omega, ?_⟩
      conv => whnf
      refine ⟨⟨by omega, by omega⟩, ?_⟩
      conv => whnf
      refine ⟨_, ?_, ⟨rfl, _, rfl, rfl, ?_, rfl⟩⟩
      · omega
      · refine ⟨σ136, K136, fun a y z9 => by rw [up_n (by omega)]; exact hf136 a y (by omega), fun y y0 y1 => ?_, by omega, by omega⟩
        by_cases e9 : y = i
        · rw [e9, up_s]; exact (K136.1 _ _ (by omega) (fun z9 => by omega)).symm
        · rw [up_i e9]; exact hc136 y y0 (by omega)
end SXS4
