/-! THE REFERENCE'S PLAN CLEARED (by wip/whole) -/
section SXO2
variable {X : sx_X} {Q : sx_R} {σ σ0 σ' σ1 σ2 : sx_S} {P : aP}
abbrev FPl (a i : Int) : Prop := (a = 124 ∧ ((18 ≤ i ∧ i ≤ 29) ∨ i = 51)) ∨ (a = 127 ∧ 48 ≤ i) ∨ (a = 128 ∧ 48 ≤ i) ∨ (a = 135 ∧ 24 ≤ i) ∨ (a = 136 ∧ 3 ≤ i)
theorem FPl_pts : ptL.all (fun q => decide (¬ FPl q.1 q.2.1)) = true := by decide +kernel
theorem fr.ptpl {σ σ' : sx_S} (h : fr FPl σ σ') (hT : PT σ) : PT σ' := hT.fr (fun q hq => h _ _ (of_decide_eq_true (List.all_eq_true.mp FPl_pts q hq)))
def pPl0 (σ : sx_S) : Prop := σ 124 18 = 6 ∧ σ 124 19 = 5 ∧ σ 124 20 = 0 ∧ σ 124 21 = 0 ∧ σ 124 22 = 0 ∧ σ 124 51 = 0 ∧ σ 124 23 = 0 ∧ σ 124 24 = 0 ∧ σ 124 25 = 0 ∧ σ 124 26 = 0 ∧ σ 124 27 = 0 ∧ σ 124 28 = 0 ∧ σ 124 29 = 0
theorem pPl0_of (h : pPl0 σ) (e : ∀ i : Int, (18 ≤ i ∧ i ≤ 29) ∨ i = 51 → σ' 124 i = σ 124 i) : pPl0 σ' := by
  unfold pPl0
  rw [e 18 (by decide), e 19 (by decide), e 20 (by decide), e 21 (by decide), e 22 (by decide), e 51 (by decide), e 23 (by decide), e 24 (by decide), e 25 (by decide), e 26 (by decide), e 27 (by decide), e 28 (by decide), e 29 (by decide)]
  exact h
set_option maxRecDepth 20000 in
theorem c_Rplain (hT : PT σ) (h : ∀ σ', fr FPl σ σ' → pPl0 σ' → (∀ c : Int, 48 ≤ c → c < 96 → σ' 127 c = 0 ∧ σ' 128 c = -1) → (∀ c : Int, 24 ≤ c → c < 48 → σ' 135 c = 0) → (∀ c : Int, 3 ≤ c → c < 6 → σ' 136 c = 0) → Q none shM σ') : sx_Run X 189 [.inr (.inr 124)] shM σ Q := by
  refine sx_rule2 (own := 12) (cd := kX12_plain) (nL := 2) (by decide +kernel) (by decide +kernel) kX12_plain_ok (by decide +kernel) (Nat.le_of_ble_eq_true rfl) [69, 98, 119] 40 (fun n t L st _ σ' => (t = 69 ∧ ∃ i : Int, st = [] ∧ L = [some (.inr (.inr (124))), some (.inl (i))] ∧ (fr FPl σ σ' ∧ pPl0 σ' ∧ (∀ c : Int, 48 ≤ c → c < i → σ' 127 c = 0 ∧ σ' 128 c = -1) ∧ 48 ≤ i ∧ i ≤ 96) ∧ n = (1000 - i).toNat) ∨ (t = 98 ∧ ∃ i : Int, st = [] ∧ L = [some (.inr (.inr (124))), some (.inl (i))] ∧ (fr FPl σ σ' ∧ pPl0 σ' ∧ (∀ c : Int, 48 ≤ c → c < 96 → σ' 127 c = 0 ∧ σ' 128 c = -1) ∧ (∀ c : Int, 24 ≤ c → c < i → σ' 135 c = 0) ∧ 24 ≤ i ∧ i ≤ 48) ∧ n = (500 - i).toNat) ∨ (t = 119 ∧ ∃ i : Int, st = [] ∧ L = [some (.inr (.inr (124))), some (.inl (i))] ∧ (fr FPl σ σ' ∧ pPl0 σ' ∧ (∀ c : Int, 48 ≤ c → c < 96 → σ' 127 c = 0 ∧ σ' 128 c = -1) ∧ (∀ c : Int, 24 ≤ c → c < 48 → σ' 135 c = 0) ∧ (∀ c : Int, 3 ≤ c → c < i → σ' 136 c = 0) ∧ 3 ≤ i ∧ i ≤ 6) ∧ n = (100 - i).toNat)) ?_ ?_
  · skip
    conv => whnf
    refine ⟨(by first | assumption | rfl), ?_⟩
    try simp (disch := omega) only [Int.cast_ofNat_Int, up_s, up_a, up_i, mp_a, mp_ge]
    try simp only [r30]
    try simp only [r31]
    try simp only [r38]
    try simp only [r39]
    conv => whnf
    refine ⟨(by first | assumption | rfl), ?_⟩
    try simp (disch := omega) only [Int.cast_ofNat_Int, up_s, up_a, up_i, mp_a, mp_ge]
    try simp only [r30]
    try simp only [r31]
    try simp only [r38]
    try simp only [r39]
    conv => whnf
    refine ⟨(by first | assumption | rfl), ?_⟩
    try simp (disch := omega) only [Int.cast_ofNat_Int, up_s, up_a, up_i, mp_a, mp_ge]
    try simp only [r30]
    try simp only [r31]
    try simp only [r38]
    try simp only [r39]
    conv => whnf
    refine ⟨(by first | assumption | rfl), ?_⟩
    try simp (disch := omega) only [Int.cast_ofNat_Int, up_s, up_a, up_i, mp_a, mp_ge]
    try simp only [r30]
    try simp only [r31]
    try simp only [r38]
    try simp only [r39]
    conv => whnf
    refine ⟨(by first | assumption | rfl), ?_⟩
    try simp (disch := omega) only [Int.cast_ofNat_Int, up_s, up_a, up_i, mp_a, mp_ge]
    try simp only [r30]
    try simp only [r31]
    try simp only [r38]
    try simp only [r39]
    conv => whnf
    refine ⟨(by first | assumption | rfl), ?_⟩
    try simp (disch := omega) only [Int.cast_ofNat_Int, up_s, up_a, up_i, mp_a, mp_ge]
    try simp only [r30]
    try simp only [r31]
    try simp only [r38]
    try simp only [r39]
    conv => whnf
    refine ⟨(by first | assumption | rfl), ?_⟩
    try simp (disch := omega) only [Int.cast_ofNat_Int, up_s, up_a, up_i, mp_a, mp_ge]
    try simp only [r30]
    try simp only [r31]
    try simp only [r38]
    try simp only [r39]
    conv => whnf
    refine ⟨(by first | assumption | rfl), ?_⟩
    try simp (disch := omega) only [Int.cast_ofNat_Int, up_s, up_a, up_i, mp_a, mp_ge]
    try simp only [r30]
    try simp only [r31]
    try simp only [r38]
    try simp only [r39]
    conv => whnf
    refine ⟨(by first | assumption | rfl), ?_⟩
    try simp (disch := omega) only [Int.cast_ofNat_Int, up_s, up_a, up_i, mp_a, mp_ge]
    try simp only [r30]
    try simp only [r31]
    try simp only [r38]
    try simp only [r39]
    conv => whnf
    refine ⟨(by first | assumption | rfl), by omega, ?_⟩
    try simp (disch := omega) only [Int.cast_ofNat_Int, up_s, up_a, up_i, mp_a, mp_ge]
    try simp only [r30]
    try simp only [r31]
    try simp only [r38]
    try simp only [r39]
    conv => whnf
    refine ⟨(by first | assumption | rfl), by omega, ?_⟩
    try simp (disch := omega) only [Int.cast_ofNat_Int, up_s, up_a, up_i, mp_a, mp_ge]
    try simp only [r30]
    try simp only [r31]
    try simp only [r38]
    try simp only [r39]
    conv => whnf
    refine ⟨(by first | assumption | rfl), by omega, ?_⟩
    try simp (disch := omega) only [Int.cast_ofNat_Int, up_s, up_a, up_i, mp_a, mp_ge]
    try simp only [r30]
    try simp only [r31]
    try simp only [r38]
    try simp only [r39]
    conv => whnf
    refine ⟨(by first | assumption | rfl), by omega, ?_⟩
    try simp (disch := omega) only [Int.cast_ofNat_Int, up_s, up_a, up_i, mp_a, mp_ge]
    try simp only [r30]
    try simp only [r31]
    try simp only [r38]
    try simp only [r39]
    generalize ea : sx_up _ 124 29 0 = σa
    have Fa : fr FPl σ σa := fun a i z9 => by unfold FPl at z9; rw [← ea, up_n (by omega), up_n (by omega), up_n (by omega), up_n (by omega), up_n (by omega), up_n (by omega), up_n (by omega), up_n (by omega), up_n (by omega), up_n (by omega), up_n (by omega), up_n (by omega), up_n (by omega)]
    have Ta := Fa.ptpl hT
    have ha : pPl0 σa := by
      refine ⟨?_, ?_, ?_, ?_, ?_, ?_, ?_, ?_, ?_, ?_, ?_, ?_, ?_⟩
      · rw [← ea, up_i (by decide), up_i (by decide), up_i (by decide), up_i (by decide), up_i (by decide), up_i (by decide), up_i (by decide), up_i (by decide), up_i (by decide), up_i (by decide), up_i (by decide), up_i (by decide), up_s]
      · rw [← ea, up_i (by decide), up_i (by decide), up_i (by decide), up_i (by decide), up_i (by decide), up_i (by decide), up_i (by decide), up_i (by decide), up_i (by decide), up_i (by decide), up_i (by decide), up_s]
      · rw [← ea, up_i (by decide), up_i (by decide), up_i (by decide), up_i (by decide), up_i (by decide), up_i (by decide), up_i (by decide), up_i (by decide), up_i (by decide), up_i (by decide), up_s]
      · rw [← ea, up_i (by decide), up_i (by decide), up_i (by decide), up_i (by decide), up_i (by decide), up_i (by decide), up_i (by decide), up_i (by decide), up_i (by decide), up_s]
      · rw [← ea, up_i (by decide), up_i (by decide), up_i (by decide), up_i (by decide), up_i (by decide), up_i (by decide), up_i (by decide), up_i (by decide), up_s]
      · rw [← ea, up_i (by decide), up_i (by decide), up_i (by decide), up_i (by decide), up_i (by decide), up_i (by decide), up_i (by decide), up_s]
      · rw [← ea, up_i (by decide), up_i (by decide), up_i (by decide), up_i (by decide), up_i (by decide), up_i (by decide), up_s]
      · rw [← ea, up_i (by decide), up_i (by decide), up_i (by decide), up_i (by decide), up_i (by decide), up_s]
      · rw [← ea, up_i (by decide), up_i (by decide), up_i (by decide), up_i (by decide), up_s]
      · rw [← ea, up_i (by decide), up_i (by decide), up_i (by decide), up_s]
      · rw [← ea, up_i (by decide), up_i (by decide), up_s]
      · rw [← ea, up_i (by decide), up_s]
      · rw [← ea, up_s]
    conv => whnf
    refine ⟨_, Or.inl ⟨rfl, _, rfl, rfl, ?_, rfl⟩⟩
    exact ⟨Fa, ha, fun c y0 y1 => by omega, by omega, by omega⟩
  · intro n t L st σ' hk
    rcases hk with hk | hk | hk
    · obtain ⟨rfl, i, rfl, rfl, hc, rfl⟩ := hk
      obtain ⟨hfi, hp0, h1, hi0, hi1⟩ := hc
      have Tc := hfi.ptpl hT
      have r30 := pt_124_30 Tc
      have r31 := pt_124_31 Tc
      have r38 := pt_124_38 Tc
      have r39 := pt_124_39 Tc
      conv => whnf
      refine ⟨fun g => ?_, fun g => ?_⟩
      · simp only [sx_cc, Classical.not_not] at g
        conv => whnf
        refine ⟨_, ?_, Or.inr (Or.inl ⟨rfl, _, rfl, rfl, ?_, rfl⟩)⟩
        · omega
        · exact ⟨hfi, hp0, fun c y0 y1 => h1 c y0 (by omega), fun c y0 y1 => by omega, by omega, by omega⟩
      · simp only [sx_cc, Classical.not_not] at g
        conv => whnf
        refine ⟨(by first | assumption | rfl), ?_⟩
        try simp (disch := omega) only [Int.cast_ofNat_Int, up_s, up_a, up_i, mp_a, mp_ge]
        try simp only [r30]
        try simp only [r31]
        try simp only [r38]
        try simp only [r39]
        conv => whnf
        refine ⟨sx_ixI (by first | assumption | rfl) (by omega) (by omega), ?_⟩
        conv => whnf
        refine ⟨(by first | assumption | rfl), ?_⟩
        try simp (disch := omega) only [Int.cast_ofNat_Int, up_s, up_a, up_i, mp_a, mp_ge]
        try simp only [r30]
        try simp only [r31]
        try simp only [r38]
        try simp only [r39]
        conv => whnf
        refine ⟨sx_ixI (by first | assumption | rfl) (by omega) (by omega), ?_⟩
        conv => whnf
        refine ⟨⟨by omega, by omega⟩, ?_⟩
        conv => whnf
        refine ⟨_, ?_, Or.inl ⟨rfl, _, rfl, rfl, ?_, rfl⟩⟩
        · omega
        · refine ⟨hfi.trans (fun a j z9 => by unfold FPl at z9; rw [up_n (by omega), up_n (by omega)]), pPl0_of hp0 (fun j z9 => by rw [up_a (by decide), up_a (by decide)]), fun c y0 y1 => ?_, by omega, by omega⟩
          rw [up_a (show ¬ (127 : Int) = 128 by decide)]
          by_cases e9 : c = i
          · rw [e9, up_s, up_s]; exact ⟨rfl, rfl⟩
          · rw [up_i e9, up_i e9, up_a (show ¬ (128 : Int) = 127 by decide)]; exact h1 c y0 (by omega)
    · obtain ⟨rfl, i, rfl, rfl, hc, rfl⟩ := hk
      obtain ⟨hfi, hp0, h1, h2, hi0, hi1⟩ := hc
      have Tc := hfi.ptpl hT
      have r30 := pt_124_30 Tc
      have r31 := pt_124_31 Tc
      have r38 := pt_124_38 Tc
      have r39 := pt_124_39 Tc
      conv => whnf
      refine ⟨fun g => ?_, fun g => ?_⟩
      · simp only [sx_cc, Classical.not_not] at g
        conv => whnf
        refine ⟨_, ?_, Or.inr (Or.inr (⟨rfl, _, rfl, rfl, ?_, rfl⟩))⟩
        · omega
        · exact ⟨hfi, hp0, h1, fun c y0 y1 => h2 c y0 (by omega), fun c y0 y1 => by omega, by omega, by omega⟩
      · simp only [sx_cc, Classical.not_not] at g
        conv => whnf
        refine ⟨(by first | assumption | rfl), ?_⟩
        try simp (disch := omega) only [Int.cast_ofNat_Int, up_s, up_a, up_i, mp_a, mp_ge]
        try simp only [r30]
        try simp only [r31]
        try simp only [r38]
        try simp only [r39]
        conv => whnf
        refine ⟨sx_ixI (by first | assumption | rfl) (by omega) (by omega), ?_⟩
        conv => whnf
        refine ⟨⟨by omega, by omega⟩, ?_⟩
        conv => whnf
        refine ⟨_, ?_, Or.inr (Or.inl ⟨rfl, _, rfl, rfl, ?_, rfl⟩)⟩
        · omega
        · refine ⟨hfi.trans (fun a j z9 => by unfold FPl at z9; rw [up_n (by omega)]), pPl0_of hp0 (fun j z9 => by rw [up_a (by decide)]), fun c y0 y1 => by rw [up_a (by decide), up_a (by decide)]; exact h1 c y0 y1, fun c y0 y1 => ?_, by omega, by omega⟩
          by_cases e9 : c = i
          · rw [e9, up_s]
          · rw [up_i e9]; exact h2 c y0 (by omega)
    · obtain ⟨rfl, i, rfl, rfl, hc, rfl⟩ := hk
      obtain ⟨hfi, hp0, h1, h2, h3, hi0, hi1⟩ := hc
      have Tc := hfi.ptpl hT
      have r30 := pt_124_30 Tc
      have r31 := pt_124_31 Tc
      have r38 := pt_124_38 Tc
      have r39 := pt_124_39 Tc
      conv => whnf
      refine ⟨fun g => ?_, fun g => ?_⟩
      · simp only [sx_cc, Classical.not_not] at g
        conv => whnf
        refine ⟨rfl, ?_⟩
        exact h _ hfi hp0 h1 h2 (fun c y0 y1 => h3 c y0 (by omega))
      · simp only [sx_cc, Classical.not_not] at g
        conv => whnf
        refine ⟨(by first | assumption | rfl), ?_⟩
        try simp (disch := omega) only [Int.cast_ofNat_Int, up_s, up_a, up_i, mp_a, mp_ge]
        try simp only [r30]
        try simp only [r31]
        try simp only [r38]
        try simp only [r39]
        conv => whnf
        refine ⟨sx_ixI (by first | assumption | rfl) (by omega) (by omega), by omega, ?_⟩
        conv => whnf
        refine ⟨⟨by omega, by omega⟩, ?_⟩
        conv => whnf
        refine ⟨_, ?_, Or.inr (Or.inr (⟨rfl, _, rfl, rfl, ?_, rfl⟩))⟩
        · omega
        · refine ⟨hfi.trans (fun a j z9 => by unfold FPl at z9; rw [up_n (by omega)]), pPl0_of hp0 (fun j z9 => by rw [up_a (by decide)]), fun c y0 y1 => by rw [up_a (by decide), up_a (by decide)]; exact h1 c y0 y1, fun c y0 y1 => by rw [up_a (by decide)]; exact h2 c y0 y1, fun c y0 y1 => ?_, by omega, by omega⟩
          by_cases e9 : c = i
          · rw [e9, up_s]
          · rw [up_i e9]; exact h3 c y0 (by omega)
end SXO2
