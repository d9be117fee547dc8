/-! THE REFERENCE'S CONSTRUCTOR: two methods of its own, at the cells that there are then (all but the last) -/
def shN : sx_H := shM.take 171
section GN_c_Rgohome
variable {X : sx_X} {σ σ0 : sx_S} {s p : Int} {Q : sx_R}
set_option maxRecDepth 20000 in
theorem c_RgohomeN (hT : PT σ) (h : Q none shN (sx_m3 (sx_up (sx_up σ 154 0 0) 155 0 0) 157 158 159 5 (σ 134))) : sx_Run X 223 [.inr (.inr 124)] shN σ Q := by
  have r30 := pt_124_30 hT
  have r31 := pt_124_31 hT
  have r32 := pt_124_32 hT
  have r33 := pt_124_33 hT
  have r34 := pt_124_34 hT
  have r35 := pt_124_35 hT
  have r36 := pt_124_36 hT
  have r37 := pt_124_37 hT
  have r38 := pt_124_38 hT
  have r57 := pt_124_57 hT
  have r58 := pt_124_58 hT
  have r59 := pt_124_59 hT
  have r60 := pt_124_60 hT
  have r61 := pt_124_61 hT
  have r62 := pt_124_62 hT
  have r63 := pt_124_63 hT
  have r64 := pt_124_64 hT
  have r65 := pt_124_65 hT
  have r66 := pt_124_66 hT
  have r67 := pt_124_67 hT
  have r68 := pt_124_68 hT
  have r69 := pt_124_69 hT
  have r70 := pt_124_70 hT
  have r71 := pt_124_71 hT
  refine sx_rule2 (own := 12) (cd := kX12_goHome) (nL := 2) (by decide +kernel) (by decide +kernel) kX12_goHome_ok (by decide +kernel) (Nat.le_of_ble_eq_true rfl) [16] 40 (fun n t L st _ σ' => (t = 16 ∧ ∃ i : Int, st = [] ∧ L = [some (.inr (.inr (124))), some (.inl (i))] ∧ (σ' = sx_m3 (sx_up (sx_up σ 154 0 0) 155 0 0) 157 158 159 i (σ 134) ∧ 0 ≤ i ∧ i ≤ 5) ∧ n = (5 - i).toNat)) ?_ ?_
  · skip
    conv => whnf
    refine ⟨(by first | assumption | rfl), ?_⟩
    try simp (disch := omega) only [Int.cast_ofNat_Int, up_s, up_a, up_i, mp_a, mp_ge, mq_a, mq_ge, m3_a, cp_a, r30, r31, r32, r33, r34, r35, r36, r37, r38, r57, r58, r59, r60, r61, r62, r63, r64, r65, r66, r67, r68, r69, r70, r71]
    conv => whnf
    refine ⟨sx_ixI (by first | assumption | rfl) (by omega) (by omega), ?_⟩
    conv => whnf
    refine ⟨(by first | assumption | rfl), ?_⟩
    try simp (disch := omega) only [Int.cast_ofNat_Int, up_s, up_a, up_i, mp_a, mp_ge, mq_a, mq_ge, m3_a, cp_a, r30, r31, r32, r33, r34, r35, r36, r37, r38, r57, r58, r59, r60, r61, r62, r63, r64, r65, r66, r67, r68, r69, r70, r71]
    conv => whnf
    refine ⟨sx_ixI (by first | assumption | rfl) (by omega) (by omega), ?_⟩
    conv => whnf
    refine ⟨_, ⟨rfl, _, rfl, rfl, ?_, rfl⟩⟩
    exact ⟨(m3_0 _ _ _ _ _).symm, by omega, by omega⟩
  · intro n t L st σ' hk
    obtain ⟨rfl, i, rfl, rfl, hc, rfl⟩ := hk
    obtain ⟨rfl, hi0, hi1⟩ := hc
    conv => whnf
    refine ⟨fun g => ?_, fun g => ?_⟩
    · simp only [sx_cc, Classical.not_not] at g
      conv => whnf
      refine ⟨rfl, ?_⟩
      have e9 : i = 5 := by omega
      rw [e9]
      exact h
    · simp only [sx_cc, Classical.not_not] at g
      conv => whnf
      refine ⟨(by first | assumption | rfl), ?_⟩
      try simp (disch := omega) only [Int.cast_ofNat_Int, up_s, up_a, up_i, mp_a, mp_ge, mq_a, mq_ge, m3_a, cp_a, r30, r31, r32, r33, r34, r35, r36, r37, r38, r57, r58, r59, r60, r61, r62, r63, r64, r65, r66, r67, r68, r69, r70, r71]
      conv => whnf
      refine ⟨(by first | assumption | rfl), ?_⟩
      try simp (disch := omega) only [Int.cast_ofNat_Int, up_s, up_a, up_i, mp_a, mp_ge, mq_a, mq_ge, m3_a, cp_a, r30, r31, r32, r33, r34, r35, r36, r37, r38, r57, r58, r59, r60, r61, r62, r63, r64, r65, r66, r67, r68, r69, r70, r71]
      conv => whnf
      refine ⟨sx_ixI (by first | assumption | rfl) (by omega) (by omega), ?_⟩
      try simp (disch := omega) only [Int.cast_ofNat_Int, up_s, up_a, up_i, mp_a, mp_ge, mq_a, mq_ge, m3_a, cp_a, r30, r31, r32, r33, r34, r35, r36, r37, r38, r57, r58, r59, r60, r61, r62, r63, r64, r65, r66, r67, r68, r69, r70, r71]
      conv => whnf
      refine ⟨sx_ixI (by first | assumption | rfl) (by omega) (by omega), ?_⟩
      conv => whnf
      refine ⟨(by first | assumption | rfl), ?_⟩
      try simp (disch := omega) only [Int.cast_ofNat_Int, up_s, up_a, up_i, mp_a, mp_ge, mq_a, mq_ge, m3_a, cp_a, r30, r31, r32, r33, r34, r35, r36, r37, r38, r57, r58, r59, r60, r61, r62, r63, r64, r65, r66, r67, r68, r69, r70, r71]
      conv => whnf
      refine ⟨sx_ixI (by first | assumption | rfl) (by omega) (by omega), ?_⟩
      conv => whnf
      refine ⟨(by first | assumption | rfl), ?_⟩
      try simp (disch := omega) only [Int.cast_ofNat_Int, up_s, up_a, up_i, mp_a, mp_ge, mq_a, mq_ge, m3_a, cp_a, r30, r31, r32, r33, r34, r35, r36, r37, r38, r57, r58, r59, r60, r61, r62, r63, r64, r65, r66, r67, r68, r69, r70, r71]
      conv => whnf
      refine ⟨sx_ixI (by first | assumption | rfl) (by omega) (by omega), ?_⟩
      conv => whnf
      refine ⟨⟨by omega, by omega⟩, ?_⟩
      conv => whnf
      refine ⟨_, ?_, ⟨rfl, _, rfl, rfl, ?_, rfl⟩⟩
      · omega
      · exact ⟨m3_s (by omega) (by omega) (by omega) hi0 rfl, by omega, by omega⟩
end GN_c_Rgohome
section GN_c_Rbegin
variable {X : sx_X} {Q : sx_R} {s p c : Int} {σ σ0 σ' σ1 σ2 : sx_S} {P : aP} {A : aM}
set_option maxRecDepth 20000 in
theorem c_RbeginN (wp : wP P) (hT : PT σ) (gp : rP σ P) (hsc : SCK σ) (h : ∀ σ', fr FBr σ σ' → GR 0 P (aM0 P) σ' → rW P σ' (aW0 P) → σ' 124 74 = 0 → σ' 124 75 = -1 → σ' 124 83 = 0 → σ' 124 85 = 0 → Q none shN σ') : sx_Run X 224 [.inr (.inr 124)] shN σ Q := by
  have v5 := wp.wa
  refine sx_rule2 (own := 12) (cd := kX12_begin) (nL := 2) (by decide +kernel) (by decide +kernel) kX12_begin_ok (by decide +kernel) (Nat.le_of_ble_eq_true rfl) [13] 40 (fun n t L st _ σ' => (t = 13 ∧ ∃ j : Int, st = [] ∧ L = [some (.inr (.inr (124))), some (.inl (j))] ∧ (fr FBr σ σ' ∧ σ' 154 0 = 0 ∧ σ' 155 0 = 0 ∧ σ' 156 0 = 0 ∧ (∀ w : Int, 0 ≤ w → w < 5 → σ' 157 w = σ 134 w ∧ σ' 158 w = 0 ∧ σ' 159 w = w) ∧ (∀ f : Int, 0 ≤ f → f < j → σ' 160 f = 0) ∧ 0 ≤ j ∧ j ≤ 3) ∧ n = (3 - j).toNat)) ?_ ?_
  · skip
    conv => whnf
    refine ⟨Nat.le_of_ble_eq_true rfl, Nat.le_of_ble_eq_true rfl, (by first | assumption | rfl), ?_⟩
    refine c_RgohomeN hT ?_
    generalize e1 : sx_m3 _ _ _ _ _ _ = σ1
    have x1 : ∀ a i : Int, ¬ (154 ≤ a ∧ a ≤ 155 ∧ i = 0) → ¬ (157 ≤ a ∧ a ≤ 159) → σ1 a i = σ a i := fun a i z1 z2 => by rw [← e1, m3_o (by omega) (by omega) (by omega), up_n (by omega), up_n (by omega)]
    have f1 : fr FBr σ σ1 := fun a i z9 => x1 a i (by unfold FBr at z9; omega) (by unfold FBr at z9; omega)
    have r67 := pt_124_67 (f1.ptbr hT)
    conv => whnf
    refine ⟨(by first | assumption | rfl), ?_⟩
    try simp (disch := omega) only [Int.cast_ofNat_Int, up_s, up_a, up_i, mp_a, mp_ge]
    try simp only [r67]
    try simp only [r71]
    try simp only [esd]
    conv => whnf
    refine ⟨sx_ixI (by first | assumption | rfl) (by omega) (by omega), ?_⟩
    conv => whnf
    refine ⟨_, ⟨rfl, _, rfl, rfl, ?_, rfl⟩⟩
    exact ⟨f1.trans (fun a i z9 => by unfold FBr at z9; rw [up_n (by omega)]), by rw [up_a (by decide), ← e1, m3_o (by decide) (by decide) (by decide), up_a (by decide), up_s], by rw [up_a (by decide), ← e1, m3_o (by decide) (by decide) (by decide), up_s], up_s, fun w y0 y1 => ⟨by rw [up_a (by decide), ← e1, m3_1 (by decide) (by decide) y0 y1], by rw [up_a (by decide), ← e1, m3_2 (by decide) y0 y1], by rw [up_a (by decide), ← e1, m3_3 y0 y1]⟩, fun f y0 y1 => by omega, by omega, by omega⟩
  · intro n t L st σ' hk
    obtain ⟨rfl, j, rfl, rfl, hc, rfl⟩ := hk
    obtain ⟨hfi, h54, h55, h56, hw, hdb, hj0, hj1⟩ := hc
    have Tc := hfi.ptbr hT
    have r71 := pt_124_71 Tc
    have esd : σ' 124 17 = P.sd := (hfi _ _ (by decide)).trans gp.sd
    conv => whnf
    refine ⟨fun g => ?_, fun g => ?_⟩
    · simp only [sx_cc, Classical.not_not] at g
      conv => whnf
      refine ⟨(by first | assumption | rfl), ?_⟩
      try simp (disch := omega) only [Int.cast_ofNat_Int, up_s, up_a, up_i, mp_a, mp_ge]
      try simp only [r67]
      try simp only [r71]
      try simp only [esd]
      conv => whnf
      refine ⟨(by first | assumption | rfl), ?_⟩
      try simp (disch := omega) only [Int.cast_ofNat_Int, up_s, up_a, up_i, mp_a, mp_ge]
      try simp only [r67]
      try simp only [r71]
      try simp only [esd]
      conv => whnf
      refine ⟨(by first | assumption | rfl), ?_⟩
      try simp (disch := omega) only [Int.cast_ofNat_Int, up_s, up_a, up_i, mp_a, mp_ge]
      try simp only [r67]
      try simp only [r71]
      try simp only [esd]
      conv => whnf
      refine ⟨(by first | assumption | rfl), ?_⟩
      try simp (disch := omega) only [Int.cast_ofNat_Int, up_s, up_a, up_i, mp_a, mp_ge]
      try simp only [r67]
      try simp only [r71]
      try simp only [esd]
      conv => whnf
      refine ⟨(by first | assumption | rfl), ?_⟩
      try simp (disch := omega) only [Int.cast_ofNat_Int, up_s, up_a, up_i, mp_a, mp_ge]
      try simp only [r67]
      try simp only [r71]
      try simp only [esd]
      conv => whnf
      refine ⟨(by first | assumption | rfl), ?_⟩
      try simp (disch := omega) only [Int.cast_ofNat_Int, up_s, up_a, up_i, mp_a, mp_ge]
      try simp only [r67]
      try simp only [r71]
      try simp only [esd]
      conv => whnf
      refine ⟨(by first | assumption | rfl), by omega, ?_⟩
      try simp (disch := omega) only [Int.cast_ofNat_Int, up_s, up_a, up_i, mp_a, mp_ge]
      try simp only [r67]
      try simp only [r71]
      try simp only [esd]
      conv => whnf
      refine ⟨rfl, ?_⟩
      generalize e8 : sx_up _ 124 85 0 = σ8
      have x8 : ∀ a i : Int, ¬ (a = 124 ∧ ((72 ≤ i ∧ i ≤ 75) ∨ i = 83 ∨ i = 85)) → σ8 a i = σ' a i := fun a i z9 => by rw [← e8, up_n (by omega), up_n (by omega), up_n (by omega), up_n (by omega), up_n (by omega), up_n (by omega)]
      have f8 : fr FBr σ σ8 := hfi.trans (fun a i z9 => x8 a i (by unfold FBr at z9; omega))
      have gp8 : rP σ8 P := gp.of (fun a i z1 z2 => f8 a i (by unfold FBr; omega)) (fun i z1 z2 => f8 _ i (by unfold FBr; omega))
      refine h σ8 f8 (GR.mk (f8.ptbr hT) gp8 (rS.empty0 rfl ((x8 _ _ (by decide)).trans h54) ((x8 _ _ (by decide)).trans h56) ((x8 _ _ (by decide)).trans h55) ?_) (hsc.of (fun i => f8 _ i (by unfold FBr; omega)) (f8 _ _ (by decide)))) (rW.mk (fun w y0 y1 => ?_) (fun w y0 y1 => ?_) (fun w y0 y1 => ?_) (fun f y0 y1 => ?_) ?_) ?_ ?_ ?_ ?_
      · rw [← e8, up_i (by decide), up_i (by decide), up_i (by decide), up_i (by decide), up_s]; rfl
      · rw [x8 _ _ (by omega), (hw w y0 (by omega)).1, gp.ho w y0 y1]; rfl
      · rw [x8 _ _ (by omega), (hw w y0 (by omega)).2.1]; rfl
      · rw [x8 _ _ (by omega), (hw w y0 (by omega)).2.2]; rfl
      · rw [x8 _ _ (by omega), hdb f y0 (by omega)]; rfl
      · rw [← e8, up_i (by decide), up_i (by decide), up_i (by decide), up_i (by decide), up_i (by decide), up_s]; rfl
      · rw [← e8, up_i (by decide), up_i (by decide), up_i (by decide), up_s]
      · rw [← e8, up_i (by decide), up_i (by decide), up_s]
      · rw [← e8, up_i (by decide), up_s]
      · rw [← e8, up_s]
    · simp only [sx_cc, Classical.not_not] at g
      conv => whnf
      refine ⟨(by first | assumption | rfl), ?_⟩
      try simp (disch := omega) only [Int.cast_ofNat_Int, up_s, up_a, up_i, mp_a, mp_ge]
      try simp only [r67]
      try simp only [r71]
      try simp only [esd]
      conv => whnf
      refine ⟨sx_ixI (by first | assumption | rfl) (by omega) (by omega), ?_⟩
      conv => whnf
      refine ⟨⟨by omega, by omega⟩, ?_⟩
      conv => whnf
      refine ⟨_, ?_, ⟨rfl, _, rfl, rfl, ?_, rfl⟩⟩
      · omega
      · refine ⟨hfi.trans (fun a i z9 => by unfold FBr at z9; rw [up_a (by omega)]), by rw [up_a (by decide)]; exact h54, by rw [up_a (by decide)]; exact h55, by rw [up_a (by decide)]; exact h56, fun w y0 y1 => by simp (disch := decide) only [up_a]; exact hw w y0 y1, fun f y0 y1 => ?_, by omega, by omega⟩
        by_cases e9 : f = j
        · rw [e9, up_s]
        · rw [up_i e9]; exact hdb f y0 (by omega)
end GN_c_Rbegin
section GN_c_Rcopies
variable {X : sx_X} {Q : sx_R} {s p c : Int} {σ σ0 σ' σ1 σ2 : sx_S} {P : aP} {A : aM}
set_option maxRecDepth 20000 in
theorem c_RcopiesN {to x : Int} {len : Nat} (hto : sx_lk shN to = (1, len)) (hx : 0 ≤ x) (hl : x + x ≤ (len : Int)) (hln : (len : Int) ≤ 100000) (h : ∀ σ', (∀ a y : Int, ¬ (a = to ∧ 0 ≤ y ∧ y < x) → σ' a y = σ a y) → (∀ y : Int, 0 ≤ y → y < x → σ' to y = σ to (x + y)) → Q none shN σ') : sx_Run X 190 [.inr (.inr to), .inl x] shN σ Q := by
  refine sx_rule2 (own := 12) (cd := kX12_copies) (nL := 3) (by decide +kernel) (by decide +kernel) kX12_copies_ok (by decide +kernel) (Nat.le_of_ble_eq_true rfl) [2] 40 (fun n t L st _ σ' => (t = 2 ∧ ∃ j : Int, st = [] ∧ L = [some (.inr (.inr (to))), some (.inl (x)), some (.inl (j))] ∧ ((∀ a y : Int, ¬ (a = to ∧ 0 ≤ y ∧ y < j) → σ' a y = σ a y) ∧ (∀ y : Int, 0 ≤ y → y < j → σ' to y = σ to (x + y)) ∧ 0 ≤ j ∧ j ≤ x) ∧ n = (x - j).toNat)) ?_ ?_
  · skip
    conv => whnf
    refine ⟨_, ⟨rfl, _, rfl, rfl, ?_, rfl⟩⟩
    exact ⟨fun a y z => rfl, fun y y0 y1 => by omega, by omega, by omega⟩
  · intro n t L st σ' hk
    obtain ⟨rfl, j, rfl, rfl, hc, rfl⟩ := hk
    obtain ⟨hfi, hcp, hj0, hj1⟩ := hc
    have ej : σ' to (x + j) = σ to (x + j) := hfi _ _ (by omega)
    conv => whnf
    refine ⟨fun g => ?_, fun g => ?_⟩
    · simp only [sx_cc, Classical.not_not] at g
      conv => whnf
      refine ⟨rfl, ?_⟩
      have e9 : j = x := by omega
      subst e9
      exact h _ hfi hcp
    · simp only [sx_cc, Classical.not_not] at g
      conv => whnf
      refine ⟨⟨by omega, by omega⟩, ?_⟩
      conv => whnf
      refine ⟨sx_ixI (by first | assumption | rfl) (by omega) (by omega), ?_⟩
      try simp (disch := omega) only [Int.cast_ofNat_Int, up_s, up_a, up_i, mp_a, mp_ge]
      try simp only [ej]
      conv => whnf
      refine ⟨sx_ixI (by first | assumption | rfl) (by omega) (by omega), ?_⟩
      conv => whnf
      refine ⟨⟨by omega, by omega⟩, ?_⟩
      conv => whnf
      refine ⟨_, ?_, ⟨rfl, _, rfl, rfl, ?_, rfl⟩⟩
      · omega
      · refine ⟨fun a y z9 => by rw [up_n (by omega)]; exact hfi a y (by omega), fun y y0 y1 => ?_, by omega, by omega⟩
        by_cases e9 : y = j
        · rw [e9, up_s]
        · rw [up_i e9]; exact hcp y y0 (by omega)
end GN_c_Rcopies
section GN_c_Rplain
variable {X : sx_X} {Q : sx_R} {σ σ0 σ' σ1 σ2 : sx_S} {P : aP}
set_option maxRecDepth 20000 in
theorem c_RplainN (hT : PT σ) (h : ∀ σ', fr FPl σ σ' → pPl0 σ' → (∀ c : Int, 48 ≤ c → c < 96 → σ' 127 c = 0 ∧ σ' 128 c = -1) → (∀ c : Int, 24 ≤ c → c < 48 → σ' 135 c = 0) → (∀ c : Int, 3 ≤ c → c < 6 → σ' 136 c = 0) → Q none shN σ') : sx_Run X 189 [.inr (.inr 124)] shN σ Q := by
  refine sx_rule2 (own := 12) (cd := kX12_plain) (nL := 2) (by decide +kernel) (by decide +kernel) kX12_plain_ok (by decide +kernel) (Nat.le_of_ble_eq_true rfl) [69, 98, 119] 40 (fun n t L st _ σ' => (t = 69 ∧ ∃ i : Int, st = [] ∧ L = [some (.inr (.inr (124))), some (.inl (i))] ∧ (fr FPl σ σ' ∧ pPl0 σ' ∧ (∀ c : Int, 48 ≤ c → c < i → σ' 127 c = 0 ∧ σ' 128 c = -1) ∧ 48 ≤ i ∧ i ≤ 96) ∧ n = (1000 - i).toNat) ∨ (t = 98 ∧ ∃ i : Int, st = [] ∧ L = [some (.inr (.inr (124))), some (.inl (i))] ∧ (fr FPl σ σ' ∧ pPl0 σ' ∧ (∀ c : Int, 48 ≤ c → c < 96 → σ' 127 c = 0 ∧ σ' 128 c = -1) ∧ (∀ c : Int, 24 ≤ c → c < i → σ' 135 c = 0) ∧ 24 ≤ i ∧ i ≤ 48) ∧ n = (500 - i).toNat) ∨ (t = 119 ∧ ∃ i : Int, st = [] ∧ L = [some (.inr (.inr (124))), some (.inl (i))] ∧ (fr FPl σ σ' ∧ pPl0 σ' ∧ (∀ c : Int, 48 ≤ c → c < 96 → σ' 127 c = 0 ∧ σ' 128 c = -1) ∧ (∀ c : Int, 24 ≤ c → c < 48 → σ' 135 c = 0) ∧ (∀ c : Int, 3 ≤ c → c < i → σ' 136 c = 0) ∧ 3 ≤ i ∧ i ≤ 6) ∧ n = (100 - i).toNat)) ?_ ?_
  · skip
    conv => whnf
    refine ⟨(by first | assumption | rfl), ?_⟩
    try simp (disch := omega) only [Int.cast_ofNat_Int, up_s, up_a, up_i, mp_a, mp_ge]
    try simp only [r30]
    try simp only [r31]
    try simp only [r38]
    try simp only [r39]
    conv => whnf
    refine ⟨(by first | assumption | rfl), ?_⟩
    try simp (disch := omega) only [Int.cast_ofNat_Int, up_s, up_a, up_i, mp_a, mp_ge]
    try simp only [r30]
    try simp only [r31]
    try simp only [r38]
    try simp only [r39]
    conv => whnf
    refine ⟨(by first | assumption | rfl), ?_⟩
    try simp (disch := omega) only [Int.cast_ofNat_Int, up_s, up_a, up_i, mp_a, mp_ge]
    try simp only [r30]
    try simp only [r31]
    try simp only [r38]
    try simp only [r39]
    conv => whnf
    refine ⟨(by first | assumption | rfl), ?_⟩
    try simp (disch := omega) only [Int.cast_ofNat_Int, up_s, up_a, up_i, mp_a, mp_ge]
    try simp only [r30]
    try simp only [r31]
    try simp only [r38]
    try simp only [r39]
    conv => whnf
    refine ⟨(by first | assumption | rfl), ?_⟩
    try simp (disch := omega) only [Int.cast_ofNat_Int, up_s, up_a, up_i, mp_a, mp_ge]
    try simp only [r30]
    try simp only [r31]
    try simp only [r38]
    try simp only [r39]
    conv => whnf
    refine ⟨(by first | assumption | rfl), ?_⟩
    try simp (disch := omega) only [Int.cast_ofNat_Int, up_s, up_a, up_i, mp_a, mp_ge]
    try simp only [r30]
    try simp only [r31]
    try simp only [r38]
    try simp only [r39]
    conv => whnf
    refine ⟨(by first | assumption | rfl), ?_⟩
    try simp (disch := omega) only [Int.cast_ofNat_Int, up_s, up_a, up_i, mp_a, mp_ge]
    try simp only [r30]
    try simp only [r31]
    try simp only [r38]
    try simp only [r39]
    conv => whnf
    refine ⟨(by first | assumption | rfl), ?_⟩
    try simp (disch := omega) only [Int.cast_ofNat_Int, up_s, up_a, up_i, mp_a, mp_ge]
    try simp only [r30]
    try simp only [r31]
    try simp only [r38]
    try simp only [r39]
    conv => whnf
    refine ⟨(by first | assumption | rfl), ?_⟩
    try simp (disch := omega) only [Int.cast_ofNat_Int, up_s, up_a, up_i, mp_a, mp_ge]
    try simp only [r30]
    try simp only [r31]
    try simp only [r38]
    try simp only [r39]
    conv => whnf
    refine ⟨(by first | assumption | rfl), by omega, ?_⟩
    try simp (disch := omega) only [Int.cast_ofNat_Int, up_s, up_a, up_i, mp_a, mp_ge]
    try simp only [r30]
    try simp only [r31]
    try simp only [r38]
    try simp only [r39]
    conv => whnf
    refine ⟨(by first | assumption | rfl), by omega, ?_⟩
    try simp (disch := omega) only [Int.cast_ofNat_Int, up_s, up_a, up_i, mp_a, mp_ge]
    try simp only [r30]
    try simp only [r31]
    try simp only [r38]
    try simp only [r39]
    conv => whnf
    refine ⟨(by first | assumption | rfl), by omega, ?_⟩
    try simp (disch := omega) only [Int.cast_ofNat_Int, up_s, up_a, up_i, mp_a, mp_ge]
    try simp only [r30]
    try simp only [r31]
    try simp only [r38]
    try simp only [r39]
    conv => whnf
    refine ⟨(by first | assumption | rfl), by omega, ?_⟩
    try simp (disch := omega) only [Int.cast_ofNat_Int, up_s, up_a, up_i, mp_a, mp_ge]
    try simp only [r30]
    try simp only [r31]
    try simp only [r38]
    try simp only [r39]
    generalize ea : sx_up _ 124 29 0 = σa
    have Fa : fr FPl σ σa := fun a i z9 => by unfold FPl at z9; rw [← ea, up_n (by omega), up_n (by omega), up_n (by omega), up_n (by omega), up_n (by omega), up_n (by omega), up_n (by omega), up_n (by omega), up_n (by omega), up_n (by omega), up_n (by omega), up_n (by omega), up_n (by omega)]
    have Ta := Fa.ptpl hT
    have ha : pPl0 σa := by
      refine ⟨?_, ?_, ?_, ?_, ?_, ?_, ?_, ?_, ?_, ?_, ?_, ?_, ?_⟩
      · rw [← ea, up_i (by decide), up_i (by decide), up_i (by decide), up_i (by decide), up_i (by decide), up_i (by decide), up_i (by decide), up_i (by decide), up_i (by decide), up_i (by decide), up_i (by decide), up_i (by decide), up_s]
      · rw [← ea, up_i (by decide), up_i (by decide), up_i (by decide), up_i (by decide), up_i (by decide), up_i (by decide), up_i (by decide), up_i (by decide), up_i (by decide), up_i (by decide), up_i (by decide), up_s]
      · rw [← ea, up_i (by decide), up_i (by decide), up_i (by decide), up_i (by decide), up_i (by decide), up_i (by decide), up_i (by decide), up_i (by decide), up_i (by decide), up_i (by decide), up_s]
      · rw [← ea, up_i (by decide), up_i (by decide), up_i (by decide), up_i (by decide), up_i (by decide), up_i (by decide), up_i (by decide), up_i (by decide), up_i (by decide), up_s]
      · rw [← ea, up_i (by decide), up_i (by decide), up_i (by decide), up_i (by decide), up_i (by decide), up_i (by decide), up_i (by decide), up_i (by decide), up_s]
      · rw [← ea, up_i (by decide), up_i (by decide), up_i (by decide), up_i (by decide), up_i (by decide), up_i (by decide), up_i (by decide), up_s]
      · rw [← ea, up_i (by decide), up_i (by decide), up_i (by decide), up_i (by decide), up_i (by decide), up_i (by decide), up_s]
      · rw [← ea, up_i (by decide), up_i (by decide), up_i (by decide), up_i (by decide), up_i (by decide), up_s]
      · rw [← ea, up_i (by decide), up_i (by decide), up_i (by decide), up_i (by decide), up_s]
      · rw [← ea, up_i (by decide), up_i (by decide), up_i (by decide), up_s]
      · rw [← ea, up_i (by decide), up_i (by decide), up_s]
      · rw [← ea, up_i (by decide), up_s]
      · rw [← ea, up_s]
    conv => whnf
    refine ⟨_, Or.inl ⟨rfl, _, rfl, rfl, ?_, rfl⟩⟩
    exact ⟨Fa, ha, fun c y0 y1 => by omega, by omega, by omega⟩
  · intro n t L st σ' hk
    rcases hk with hk | hk | hk
    · obtain ⟨rfl, i, rfl, rfl, hc, rfl⟩ := hk
      obtain ⟨hfi, hp0, h1, hi0, hi1⟩ := hc
      have Tc := hfi.ptpl hT
      have r30 := pt_124_30 Tc
      have r31 := pt_124_31 Tc
      have r38 := pt_124_38 Tc
      have r39 := pt_124_39 Tc
      conv => whnf
      refine ⟨fun g => ?_, fun g => ?_⟩
      · simp only [sx_cc, Classical.not_not] at g
        conv => whnf
        refine ⟨_, ?_, Or.inr (Or.inl ⟨rfl, _, rfl, rfl, ?_, rfl⟩)⟩
        · omega
        · exact ⟨hfi, hp0, fun c y0 y1 => h1 c y0 (by omega), fun c y0 y1 => by omega, by omega, by omega⟩
      · simp only [sx_cc, Classical.not_not] at g
        conv => whnf
        refine ⟨(by first | assumption | rfl), ?_⟩
        try simp (disch := omega) only [Int.cast_ofNat_Int, up_s, up_a, up_i, mp_a, mp_ge]
        try simp only [r30]
        try simp only [r31]
        try simp only [r38]
        try simp only [r39]
        conv => whnf
        refine ⟨sx_ixI (by first | assumption | rfl) (by omega) (by omega), ?_⟩
        conv => whnf
        refine ⟨(by first | assumption | rfl), ?_⟩
        try simp (disch := omega) only [Int.cast_ofNat_Int, up_s, up_a, up_i, mp_a, mp_ge]
        try simp only [r30]
        try simp only [r31]
        try simp only [r38]
        try simp only [r39]
        conv => whnf
        refine ⟨sx_ixI (by first | assumption | rfl) (by omega) (by omega), ?_⟩
        conv => whnf
        refine ⟨⟨by omega, by omega⟩, ?_⟩
        conv => whnf
        refine ⟨_, ?_, Or.inl ⟨rfl, _, rfl, rfl, ?_, rfl⟩⟩
        · omega
        · refine ⟨hfi.trans (fun a j z9 => by unfold FPl at z9; rw [up_n (by omega), up_n (by omega)]), pPl0_of hp0 (fun j z9 => by rw [up_a (by decide), up_a (by decide)]), fun c y0 y1 => ?_, by omega, by omega⟩
          rw [up_a (show ¬ (127 : Int) = 128 by decide)]
          by_cases e9 : c = i
          · rw [e9, up_s, up_s]; exact ⟨rfl, rfl⟩
          · rw [up_i e9, up_i e9, up_a (show ¬ (128 : Int) = 127 by decide)]; exact h1 c y0 (by omega)
    · obtain ⟨rfl, i, rfl, rfl, hc, rfl⟩ := hk
      obtain ⟨hfi, hp0, h1, h2, hi0, hi1⟩ := hc
      have Tc := hfi.ptpl hT
      have r30 := pt_124_30 Tc
      have r31 := pt_124_31 Tc
      have r38 := pt_124_38 Tc
      have r39 := pt_124_39 Tc
      conv => whnf
      refine ⟨fun g => ?_, fun g => ?_⟩
      · simp only [sx_cc, Classical.not_not] at g
        conv => whnf
        refine ⟨_, ?_, Or.inr (Or.inr (⟨rfl, _, rfl, rfl, ?_, rfl⟩))⟩
        · omega
        · exact ⟨hfi, hp0, h1, fun c y0 y1 => h2 c y0 (by omega), fun c y0 y1 => by omega, by omega, by omega⟩
      · simp only [sx_cc, Classical.not_not] at g
        conv => whnf
        refine ⟨(by first | assumption | rfl), ?_⟩
        try simp (disch := omega) only [Int.cast_ofNat_Int, up_s, up_a, up_i, mp_a, mp_ge]
        try simp only [r30]
        try simp only [r31]
        try simp only [r38]
        try simp only [r39]
        conv => whnf
        refine ⟨sx_ixI (by first | assumption | rfl) (by omega) (by omega), ?_⟩
        conv => whnf
        refine ⟨⟨by omega, by omega⟩, ?_⟩
        conv => whnf
        refine ⟨_, ?_, Or.inr (Or.inl ⟨rfl, _, rfl, rfl, ?_, rfl⟩)⟩
        · omega
        · refine ⟨hfi.trans (fun a j z9 => by unfold FPl at z9; rw [up_n (by omega)]), pPl0_of hp0 (fun j z9 => by rw [up_a (by decide)]), fun c y0 y1 => by rw [up_a (by decide), up_a (by decide)]; exact h1 c y0 y1, fun c y0 y1 => ?_, by omega, by omega⟩
          by_cases e9 : c = i
          · rw [e9, up_s]
          · rw [up_i e9]; exact h2 c y0 (by omega)
    · obtain ⟨rfl, i, rfl, rfl, hc, rfl⟩ := hk
      obtain ⟨hfi, hp0, h1, h2, h3, hi0, hi1⟩ := hc
      have Tc := hfi.ptpl hT
      have r30 := pt_124_30 Tc
      have r31 := pt_124_31 Tc
      have r38 := pt_124_38 Tc
      have r39 := pt_124_39 Tc
      conv => whnf
      refine ⟨fun g => ?_, fun g => ?_⟩
      · simp only [sx_cc, Classical.not_not] at g
        conv => whnf
        refine ⟨rfl, ?_⟩
        exact h _ hfi hp0 h1 h2 (fun c y0 y1 => h3 c y0 (by omega))
      · simp only [sx_cc, Classical.not_not] at g
        conv => whnf
        refine ⟨(by first | assumption | rfl), ?_⟩
        try simp (disch := omega) only [Int.cast_ofNat_Int, up_s, up_a, up_i, mp_a, mp_ge]
        try simp only [r30]
        try simp only [r31]
        try simp only [r38]
        try simp only [r39]
        conv => whnf
        refine ⟨sx_ixI (by first | assumption | rfl) (by omega) (by omega), by omega, ?_⟩
        conv => whnf
        refine ⟨⟨by omega, by omega⟩, ?_⟩
        conv => whnf
        refine ⟨_, ?_, Or.inr (Or.inr (⟨rfl, _, rfl, rfl, ?_, rfl⟩))⟩
        · omega
        · refine ⟨hfi.trans (fun a j z9 => by unfold FPl at z9; rw [up_n (by omega)]), pPl0_of hp0 (fun j z9 => by rw [up_a (by decide)]), fun c y0 y1 => by rw [up_a (by decide), up_a (by decide)]; exact h1 c y0 y1, fun c y0 y1 => by rw [up_a (by decide)]; exact h2 c y0 y1, fun c y0 y1 => ?_, by omega, by omega⟩
          by_cases e9 : c = i
          · rw [e9, up_s]
          · rw [up_i e9]; exact h3 c y0 (by omega)
end GN_c_Rplain
section GN_c_Rkeept2
variable {X : sx_X} {Q : sx_R} {σ σ0 σ' σ1 σ2 : sx_S} {P : aP}
set_option maxRecDepth 20000 in
theorem c_Rkeept2N (wp : wP P) (hT : PT σ) (hsc : SCK σ) (hl : ∀ i : Int, 3 ≤ i → i < 6 → σ 136 i = 0 ∨ σ 136 i = 1) (hRP : ∀ σ1, pKp 142 σ σ1 → rP σ1 P) (h : ∀ σ1 σ', pKp 142 σ σ1 → fr FBr σ1 σ' → GR 0 P (aM0 P) σ' → rW P σ' (aW0 P) → σ' 124 74 = 0 → σ' 124 75 = -1 → σ' 124 83 = 0 → σ' 124 85 = 0 → Q none shN σ') : sx_Run X 191 [.inr (.inr 124)] shN σ Q := by
  refine sx_rule2 (own := 12) (cd := kX12_keepText) (nL := 2) (by decide +kernel) (by decide +kernel) kX12_keepText_ok (by decide +kernel) (Nat.le_of_ble_eq_true rfl) [125] 40 (fun n t L st _ σ' => (t = 125 ∧ ∃ i : Int, st = [] ∧ L = [some (.inr (.inr (124))), some (.inl (i))] ∧ (∃ σ6 : sx_S, pKp 136 σ σ6 ∧ (∀ a y : Int, ¬ (a = 136 ∧ 0 ≤ y ∧ y < i) → σ' a y = σ6 a y) ∧ (∀ y : Int, 0 ≤ y → y < i → σ' 136 y = σ6 136 (3 + y)) ∧ 0 ≤ i ∧ i ≤ 3) ∧ n = (3 - i).toNat)) ?_ ?_
  · skip
    conv => whnf
    refine ⟨(by first | assumption | rfl), ?_⟩
    try simp (disch := omega) only [Int.cast_ofNat_Int, up_s, up_a, up_i, mp_a, mp_ge]
    try simp only [r30]
    try simp only [r31]
    try simp only [r32]
    try simp only [r33]
    try simp only [r34]
    try simp only [r35]
    try simp only [r36]
    try simp only [r37]
    try simp only [r38]
    try simp only [r39]
    try simp only [r40]
    try simp only [r41]
    try simp only [r42]
    try simp only [r43]
    try simp only [r44]
    try simp only [e6]
    conv => whnf
    refine ⟨(by first | assumption | rfl), ?_⟩
    try simp (disch := omega) only [Int.cast_ofNat_Int, up_s, up_a, up_i, mp_a, mp_ge]
    try simp only [r30]
    try simp only [r31]
    try simp only [r32]
    try simp only [r33]
    try simp only [r34]
    try simp only [r35]
    try simp only [r36]
    try simp only [r37]
    try simp only [r38]
    try simp only [r39]
    try simp only [r40]
    try simp only [r41]
    try simp only [r42]
    try simp only [r43]
    try simp only [r44]
    try simp only [e6]
    conv => whnf
    refine ⟨(by first | assumption | rfl), ?_⟩
    try simp (disch := omega) only [Int.cast_ofNat_Int, up_s, up_a, up_i, mp_a, mp_ge]
    try simp only [r30]
    try simp only [r31]
    try simp only [r32]
    try simp only [r33]
    try simp only [r34]
    try simp only [r35]
    try simp only [r36]
    try simp only [r37]
    try simp only [r38]
    try simp only [r39]
    try simp only [r40]
    try simp only [r41]
    try simp only [r42]
    try simp only [r43]
    try simp only [r44]
    try simp only [e6]
    conv => whnf
    refine ⟨(by first | assumption | rfl), ?_⟩
    try simp (disch := omega) only [Int.cast_ofNat_Int, up_s, up_a, up_i, mp_a, mp_ge]
    try simp only [r30]
    try simp only [r31]
    try simp only [r32]
    try simp only [r33]
    try simp only [r34]
    try simp only [r35]
    try simp only [r36]
    try simp only [r37]
    try simp only [r38]
    try simp only [r39]
    try simp only [r40]
    try simp only [r41]
    try simp only [r42]
    try simp only [r43]
    try simp only [r44]
    try simp only [e6]
    conv => whnf
    refine ⟨(by first | assumption | rfl), ?_⟩
    try simp (disch := omega) only [Int.cast_ofNat_Int, up_s, up_a, up_i, mp_a, mp_ge]
    try simp only [r30]
    try simp only [r31]
    try simp only [r32]
    try simp only [r33]
    try simp only [r34]
    try simp only [r35]
    try simp only [r36]
    try simp only [r37]
    try simp only [r38]
    try simp only [r39]
    try simp only [r40]
    try simp only [r41]
    try simp only [r42]
    try simp only [r43]
    try simp only [r44]
    try simp only [e6]
    conv => whnf
    refine ⟨(by first | assumption | rfl), ?_⟩
    try simp (disch := omega) only [Int.cast_ofNat_Int, up_s, up_a, up_i, mp_a, mp_ge]
    try simp only [r30]
    try simp only [r31]
    try simp only [r32]
    try simp only [r33]
    try simp only [r34]
    try simp only [r35]
    try simp only [r36]
    try simp only [r37]
    try simp only [r38]
    try simp only [r39]
    try simp only [r40]
    try simp only [r41]
    try simp only [r42]
    try simp only [r43]
    try simp only [r44]
    try simp only [e6]
    conv => whnf
    refine ⟨(by first | assumption | rfl), ?_⟩
    try simp (disch := omega) only [Int.cast_ofNat_Int, up_s, up_a, up_i, mp_a, mp_ge]
    try simp only [r30]
    try simp only [r31]
    try simp only [r32]
    try simp only [r33]
    try simp only [r34]
    try simp only [r35]
    try simp only [r36]
    try simp only [r37]
    try simp only [r38]
    try simp only [r39]
    try simp only [r40]
    try simp only [r41]
    try simp only [r42]
    try simp only [r43]
    try simp only [r44]
    try simp only [e6]
    conv => whnf
    refine ⟨(by first | assumption | rfl), ?_⟩
    try simp (disch := omega) only [Int.cast_ofNat_Int, up_s, up_a, up_i, mp_a, mp_ge]
    try simp only [r30]
    try simp only [r31]
    try simp only [r32]
    try simp only [r33]
    try simp only [r34]
    try simp only [r35]
    try simp only [r36]
    try simp only [r37]
    try simp only [r38]
    try simp only [r39]
    try simp only [r40]
    try simp only [r41]
    try simp only [r42]
    try simp only [r43]
    try simp only [r44]
    try simp only [e6]
    conv => whnf
    refine ⟨(by first | assumption | rfl), ?_⟩
    try simp (disch := omega) only [Int.cast_ofNat_Int, up_s, up_a, up_i, mp_a, mp_ge]
    try simp only [r30]
    try simp only [r31]
    try simp only [r32]
    try simp only [r33]
    try simp only [r34]
    try simp only [r35]
    try simp only [r36]
    try simp only [r37]
    try simp only [r38]
    try simp only [r39]
    try simp only [r40]
    try simp only [r41]
    try simp only [r42]
    try simp only [r43]
    try simp only [r44]
    try simp only [e6]
    conv => whnf
    refine ⟨(by first | assumption | rfl), ?_⟩
    try simp (disch := omega) only [Int.cast_ofNat_Int, up_s, up_a, up_i, mp_a, mp_ge]
    try simp only [r30]
    try simp only [r31]
    try simp only [r32]
    try simp only [r33]
    try simp only [r34]
    try simp only [r35]
    try simp only [r36]
    try simp only [r37]
    try simp only [r38]
    try simp only [r39]
    try simp only [r40]
    try simp only [r41]
    try simp only [r42]
    try simp only [r43]
    try simp only [r44]
    try simp only [e6]
    conv => whnf
    refine ⟨(by first | assumption | rfl), ?_⟩
    try simp (disch := omega) only [Int.cast_ofNat_Int, up_s, up_a, up_i, mp_a, mp_ge]
    try simp only [r30]
    try simp only [r31]
    try simp only [r32]
    try simp only [r33]
    try simp only [r34]
    try simp only [r35]
    try simp only [r36]
    try simp only [r37]
    try simp only [r38]
    try simp only [r39]
    try simp only [r40]
    try simp only [r41]
    try simp only [r42]
    try simp only [r43]
    try simp only [r44]
    try simp only [e6]
    conv => whnf
    refine ⟨(by first | assumption | rfl), ?_⟩
    try simp (disch := omega) only [Int.cast_ofNat_Int, up_s, up_a, up_i, mp_a, mp_ge]
    try simp only [r30]
    try simp only [r31]
    try simp only [r32]
    try simp only [r33]
    try simp only [r34]
    try simp only [r35]
    try simp only [r36]
    try simp only [r37]
    try simp only [r38]
    try simp only [r39]
    try simp only [r40]
    try simp only [r41]
    try simp only [r42]
    try simp only [r43]
    try simp only [r44]
    try simp only [e6]
    generalize e127 : sx_up _ 124 17 _ = σ127
    have K127 : pKp 127 σ σ127 := ⟨fun a i z1 z2 => by rw [← e127, up_n (by omega), up_n (by omega), up_n (by omega), up_n (by omega), up_n (by omega), up_n (by omega)], fun i y0 y1 => by
        rw [← e127]
        rcases (show i = 12 ∨ i = 13 ∨ i = 14 ∨ i = 15 ∨ i = 16 ∨ i = 17 by omega) with e | e | e | e | e | e <;> subst e <;> simp (disch := decide) only [up_i, up_s] <;> rfl, fun r y r0 r1 => by omega⟩
    have r30 := pt_124_30 (pKp_pt K127 (by decide) hT)
    conv => whnf
    refine ⟨(by first | assumption | rfl), ?_⟩
    try simp (disch := omega) only [Int.cast_ofNat_Int, up_s, up_a, up_i, mp_a, mp_ge]
    try simp only [r30]
    try simp only [r31]
    try simp only [r32]
    try simp only [r33]
    try simp only [r34]
    try simp only [r35]
    try simp only [r36]
    try simp only [r37]
    try simp only [r38]
    try simp only [r39]
    try simp only [r40]
    try simp only [r41]
    try simp only [r42]
    try simp only [r43]
    try simp only [r44]
    try simp only [e6]
    conv => whnf
    refine ⟨Nat.le_of_ble_eq_true rfl, Nat.le_of_ble_eq_true rfl, ?_⟩
    refine c_RcopiesN (show sx_lk shN 127 = (1, 96) from rfl) (by decide) (by decide) (by decide) ?_
    intro σ128 hf127 hc127
    have K128 := pKp_s K127 ⟨by decide, by decide⟩ (by decide) hf127 hc127
    have r31 := pt_124_31 (pKp_pt K128 (by decide) hT)
    conv => whnf
    refine ⟨(by first | assumption | rfl), ?_⟩
    try simp (disch := omega) only [Int.cast_ofNat_Int, up_s, up_a, up_i, mp_a, mp_ge]
    try simp only [r30]
    try simp only [r31]
    try simp only [r32]
    try simp only [r33]
    try simp only [r34]
    try simp only [r35]
    try simp only [r36]
    try simp only [r37]
    try simp only [r38]
    try simp only [r39]
    try simp only [r40]
    try simp only [r41]
    try simp only [r42]
    try simp only [r43]
    try simp only [r44]
    try simp only [e6]
    conv => whnf
    refine ⟨Nat.le_of_ble_eq_true rfl, Nat.le_of_ble_eq_true rfl, ?_⟩
    refine c_RcopiesN (show sx_lk shN 128 = (1, 96) from rfl) (by decide) (by decide) (by decide) ?_
    intro σ129 hf128 hc128
    have K129 := pKp_s K128 ⟨by decide, by decide⟩ (by decide) hf128 hc128
    have r32 := pt_124_32 (pKp_pt K129 (by decide) hT)
    conv => whnf
    refine ⟨(by first | assumption | rfl), ?_⟩
    try simp (disch := omega) only [Int.cast_ofNat_Int, up_s, up_a, up_i, mp_a, mp_ge]
    try simp only [r30]
    try simp only [r31]
    try simp only [r32]
    try simp only [r33]
    try simp only [r34]
    try simp only [r35]
    try simp only [r36]
    try simp only [r37]
    try simp only [r38]
    try simp only [r39]
    try simp only [r40]
    try simp only [r41]
    try simp only [r42]
    try simp only [r43]
    try simp only [r44]
    try simp only [e6]
    conv => whnf
    refine ⟨Nat.le_of_ble_eq_true rfl, Nat.le_of_ble_eq_true rfl, ?_⟩
    refine c_RcopiesN (show sx_lk shN 129 = (1, 6) from rfl) (by decide) (by decide) (by decide) ?_
    intro σ130 hf129 hc129
    have K130 := pKp_s K129 ⟨by decide, by decide⟩ (by decide) hf129 hc129
    have r33 := pt_124_33 (pKp_pt K130 (by decide) hT)
    conv => whnf
    refine ⟨(by first | assumption | rfl), ?_⟩
    try simp (disch := omega) only [Int.cast_ofNat_Int, up_s, up_a, up_i, mp_a, mp_ge]
    try simp only [r30]
    try simp only [r31]
    try simp only [r32]
    try simp only [r33]
    try simp only [r34]
    try simp only [r35]
    try simp only [r36]
    try simp only [r37]
    try simp only [r38]
    try simp only [r39]
    try simp only [r40]
    try simp only [r41]
    try simp only [r42]
    try simp only [r43]
    try simp only [r44]
    try simp only [e6]
    conv => whnf
    refine ⟨Nat.le_of_ble_eq_true rfl, Nat.le_of_ble_eq_true rfl, ?_⟩
    refine c_RcopiesN (show sx_lk shN 130 = (1, 10) from rfl) (by decide) (by decide) (by decide) ?_
    intro σ131 hf130 hc130
    have K131 := pKp_s K130 ⟨by decide, by decide⟩ (by decide) hf130 hc130
    have r34 := pt_124_34 (pKp_pt K131 (by decide) hT)
    conv => whnf
    refine ⟨(by first | assumption | rfl), ?_⟩
    try simp (disch := omega) only [Int.cast_ofNat_Int, up_s, up_a, up_i, mp_a, mp_ge]
    try simp only [r30]
    try simp only [r31]
    try simp only [r32]
    try simp only [r33]
    try simp only [r34]
    try simp only [r35]
    try simp only [r36]
    try simp only [r37]
    try simp only [r38]
    try simp only [r39]
    try simp only [r40]
    try simp only [r41]
    try simp only [r42]
    try simp only [r43]
    try simp only [r44]
    try simp only [e6]
    conv => whnf
    refine ⟨Nat.le_of_ble_eq_true rfl, Nat.le_of_ble_eq_true rfl, ?_⟩
    refine c_RcopiesN (show sx_lk shN 131 = (1, 10) from rfl) (by decide) (by decide) (by decide) ?_
    intro σ132 hf131 hc131
    have K132 := pKp_s K131 ⟨by decide, by decide⟩ (by decide) hf131 hc131
    have r35 := pt_124_35 (pKp_pt K132 (by decide) hT)
    conv => whnf
    refine ⟨(by first | assumption | rfl), ?_⟩
    try simp (disch := omega) only [Int.cast_ofNat_Int, up_s, up_a, up_i, mp_a, mp_ge]
    try simp only [r30]
    try simp only [r31]
    try simp only [r32]
    try simp only [r33]
    try simp only [r34]
    try simp only [r35]
    try simp only [r36]
    try simp only [r37]
    try simp only [r38]
    try simp only [r39]
    try simp only [r40]
    try simp only [r41]
    try simp only [r42]
    try simp only [r43]
    try simp only [r44]
    try simp only [e6]
    conv => whnf
    refine ⟨Nat.le_of_ble_eq_true rfl, Nat.le_of_ble_eq_true rfl, ?_⟩
    refine c_RcopiesN (show sx_lk shN 132 = (1, 10) from rfl) (by decide) (by decide) (by decide) ?_
    intro σ133 hf132 hc132
    have K133 := pKp_s K132 ⟨by decide, by decide⟩ (by decide) hf132 hc132
    have r36 := pt_124_36 (pKp_pt K133 (by decide) hT)
    conv => whnf
    refine ⟨(by first | assumption | rfl), ?_⟩
    try simp (disch := omega) only [Int.cast_ofNat_Int, up_s, up_a, up_i, mp_a, mp_ge]
    try simp only [r30]
    try simp only [r31]
    try simp only [r32]
    try simp only [r33]
    try simp only [r34]
    try simp only [r35]
    try simp only [r36]
    try simp only [r37]
    try simp only [r38]
    try simp only [r39]
    try simp only [r40]
    try simp only [r41]
    try simp only [r42]
    try simp only [r43]
    try simp only [r44]
    try simp only [e6]
    conv => whnf
    refine ⟨Nat.le_of_ble_eq_true rfl, Nat.le_of_ble_eq_true rfl, ?_⟩
    refine c_RcopiesN (show sx_lk shN 133 = (1, 10) from rfl) (by decide) (by decide) (by decide) ?_
    intro σ134 hf133 hc133
    have K134 := pKp_s K133 ⟨by decide, by decide⟩ (by decide) hf133 hc133
    have r37 := pt_124_37 (pKp_pt K134 (by decide) hT)
    conv => whnf
    refine ⟨(by first | assumption | rfl), ?_⟩
    try simp (disch := omega) only [Int.cast_ofNat_Int, up_s, up_a, up_i, mp_a, mp_ge]
    try simp only [r30]
    try simp only [r31]
    try simp only [r32]
    try simp only [r33]
    try simp only [r34]
    try simp only [r35]
    try simp only [r36]
    try simp only [r37]
    try simp only [r38]
    try simp only [r39]
    try simp only [r40]
    try simp only [r41]
    try simp only [r42]
    try simp only [r43]
    try simp only [r44]
    try simp only [e6]
    conv => whnf
    refine ⟨Nat.le_of_ble_eq_true rfl, Nat.le_of_ble_eq_true rfl, ?_⟩
    refine c_RcopiesN (show sx_lk shN 134 = (1, 10) from rfl) (by decide) (by decide) (by decide) ?_
    intro σ135 hf134 hc134
    have K135 := pKp_s K134 ⟨by decide, by decide⟩ (by decide) hf134 hc134
    have r38 := pt_124_38 (pKp_pt K135 (by decide) hT)
    conv => whnf
    refine ⟨(by first | assumption | rfl), ?_⟩
    try simp (disch := omega) only [Int.cast_ofNat_Int, up_s, up_a, up_i, mp_a, mp_ge]
    try simp only [r30]
    try simp only [r31]
    try simp only [r32]
    try simp only [r33]
    try simp only [r34]
    try simp only [r35]
    try simp only [r36]
    try simp only [r37]
    try simp only [r38]
    try simp only [r39]
    try simp only [r40]
    try simp only [r41]
    try simp only [r42]
    try simp only [r43]
    try simp only [r44]
    try simp only [e6]
    conv => whnf
    refine ⟨Nat.le_of_ble_eq_true rfl, Nat.le_of_ble_eq_true rfl, ?_⟩
    refine c_RcopiesN (show sx_lk shN 135 = (1, 48) from rfl) (by decide) (by decide) (by decide) ?_
    intro σ136 hf135 hc135
    have K136 := pKp_s K135 ⟨by decide, by decide⟩ (by decide) hf135 hc135
    conv => whnf
    refine ⟨_, ⟨rfl, _, rfl, rfl, ?_, rfl⟩⟩
    exact ⟨σ136, K136, fun a y _ => rfl, fun y y0 y1 => by omega, by omega, by omega⟩
  · intro n t L st σ' hk
    obtain ⟨rfl, i, rfl, rfl, hc, rfl⟩ := hk
    obtain ⟨σ136, K136, hf136, hc136, hi0, hi1⟩ := hc
    have T6 : PT σ' := PT_ar (pKp_pt K136 (by decide) hT) lk_136 (by decide) (fun b z9 => funext fun j => hf136 b j (fun w => z9 w.1))
    have r39 := pt_124_39 T6
    have r40 := pt_124_40 T6
    have e6 : σ' 136 (3 + i) = σ 136 (3 + i) := by rw [hf136 _ _ (by omega)]; exact K136.1 _ _ (by omega) (fun z9 => by omega) 
    conv => whnf
    refine ⟨fun g => ?_, fun g => ?_⟩
    · simp only [sx_cc, Classical.not_not] at g
      have ei : i = 3 := (by omega)
      subst ei
      obtain ⟨σ137, e137⟩ : ∃ s, s = σ' := ⟨_, rfl⟩
      subst e137
      have K137 := pKp_s K136 ⟨by decide, by decide⟩ (by decide) hf136 hc136
      conv => whnf
      refine ⟨(by first | assumption | rfl), ?_⟩
      try simp (disch := omega) only [Int.cast_ofNat_Int, up_s, up_a, up_i, mp_a, mp_ge]
      try simp only [r30]
      try simp only [r31]
      try simp only [r32]
      try simp only [r33]
      try simp only [r34]
      try simp only [r35]
      try simp only [r36]
      try simp only [r37]
      try simp only [r38]
      try simp only [r39]
      try simp only [r40]
      try simp only [r41]
      try simp only [r42]
      try simp only [r43]
      try simp only [r44]
      try simp only [e6]
      conv => whnf
      refine ⟨Nat.le_of_ble_eq_true rfl, Nat.le_of_ble_eq_true rfl, ?_⟩
      refine c_RcopiesN (show sx_lk shN 137 = (1, 6) from rfl) (by decide) (by decide) (by decide) ?_
      intro σ138 hf137 hc137
      have K138 := pKp_s K137 ⟨by decide, by decide⟩ (by decide) hf137 hc137
      have r41 := pt_124_41 (pKp_pt K138 (by decide) hT)
      conv => whnf
      refine ⟨(by first | assumption | rfl), ?_⟩
      try simp (disch := omega) only [Int.cast_ofNat_Int, up_s, up_a, up_i, mp_a, mp_ge]
      try simp only [r30]
      try simp only [r31]
      try simp only [r32]
      try simp only [r33]
      try simp only [r34]
      try simp only [r35]
      try simp only [r36]
      try simp only [r37]
      try simp only [r38]
      try simp only [r39]
      try simp only [r40]
      try simp only [r41]
      try simp only [r42]
      try simp only [r43]
      try simp only [r44]
      try simp only [e6]
      conv => whnf
      refine ⟨Nat.le_of_ble_eq_true rfl, Nat.le_of_ble_eq_true rfl, ?_⟩
      refine c_RcopiesN (show sx_lk shN 138 = (1, 6) from rfl) (by decide) (by decide) (by decide) ?_
      intro σ139 hf138 hc138
      have K139 := pKp_s K138 ⟨by decide, by decide⟩ (by decide) hf138 hc138
      have r42 := pt_124_42 (pKp_pt K139 (by decide) hT)
      conv => whnf
      refine ⟨(by first | assumption | rfl), ?_⟩
      try simp (disch := omega) only [Int.cast_ofNat_Int, up_s, up_a, up_i, mp_a, mp_ge]
      try simp only [r30]
      try simp only [r31]
      try simp only [r32]
      try simp only [r33]
      try simp only [r34]
      try simp only [r35]
      try simp only [r36]
      try simp only [r37]
      try simp only [r38]
      try simp only [r39]
      try simp only [r40]
      try simp only [r41]
      try simp only [r42]
      try simp only [r43]
      try simp only [r44]
      try simp only [e6]
      conv => whnf
      refine ⟨Nat.le_of_ble_eq_true rfl, Nat.le_of_ble_eq_true rfl, ?_⟩
      refine c_RcopiesN (show sx_lk shN 139 = (1, 128) from rfl) (by decide) (by decide) (by decide) ?_
      intro σ140 hf139 hc139
      have K140 := pKp_s K139 ⟨by decide, by decide⟩ (by decide) hf139 hc139
      have r43 := pt_124_43 (pKp_pt K140 (by decide) hT)
      conv => whnf
      refine ⟨(by first | assumption | rfl), ?_⟩
      try simp (disch := omega) only [Int.cast_ofNat_Int, up_s, up_a, up_i, mp_a, mp_ge]
      try simp only [r30]
      try simp only [r31]
      try simp only [r32]
      try simp only [r33]
      try simp only [r34]
      try simp only [r35]
      try simp only [r36]
      try simp only [r37]
      try simp only [r38]
      try simp only [r39]
      try simp only [r40]
      try simp only [r41]
      try simp only [r42]
      try simp only [r43]
      try simp only [r44]
      try simp only [e6]
      conv => whnf
      refine ⟨Nat.le_of_ble_eq_true rfl, Nat.le_of_ble_eq_true rfl, ?_⟩
      refine c_RcopiesN (show sx_lk shN 140 = (1, 128) from rfl) (by decide) (by decide) (by decide) ?_
      intro σ141 hf140 hc140
      have K141 := pKp_s K140 ⟨by decide, by decide⟩ (by decide) hf140 hc140
      have r44 := pt_124_44 (pKp_pt K141 (by decide) hT)
      conv => whnf
      refine ⟨(by first | assumption | rfl), ?_⟩
      try simp (disch := omega) only [Int.cast_ofNat_Int, up_s, up_a, up_i, mp_a, mp_ge]
      try simp only [r30]
      try simp only [r31]
      try simp only [r32]
      try simp only [r33]
      try simp only [r34]
      try simp only [r35]
      try simp only [r36]
      try simp only [r37]
      try simp only [r38]
      try simp only [r39]
      try simp only [r40]
      try simp only [r41]
      try simp only [r42]
      try simp only [r43]
      try simp only [r44]
      try simp only [e6]
      conv => whnf
      refine ⟨Nat.le_of_ble_eq_true rfl, Nat.le_of_ble_eq_true rfl, ?_⟩
      refine c_RcopiesN (show sx_lk shN 141 = (1, 128) from rfl) (by decide) (by decide) (by decide) ?_
      intro σ142 hf141 hc141
      have K142 := pKp_s K141 ⟨by decide, by decide⟩ (by decide) hf141 hc141
      conv => whnf
      refine ⟨Nat.le_of_ble_eq_true rfl, Nat.le_of_ble_eq_true rfl, (by first | assumption | rfl), ?_⟩
      refine c_RbeginN wp (pKp_pt K142 (by decide) hT) (hRP _ K142) (hsc.of (fun j => K142.1 _ _ (by omega) (by omega)) (K142.1 _ _ (by decide) (by omega))) ?_
      intro σ9 f9 g9 w9 b1 b2 b3 b4
      conv => whnf
      refine ⟨rfl, ?_⟩
      exact h _ _ K142 f9 g9 w9 b1 b2 b3 b4
    · simp only [sx_cc, Classical.not_not] at g
      have hlt := hl (3 + i) (by omega) (by omega)
      conv => whnf
      refine ⟨(by first | assumption | rfl), ?_⟩
      try simp (disch := omega) only [Int.cast_ofNat_Int, up_s, up_a, up_i, mp_a, mp_ge]
      try simp only [r30]
      try simp only [r31]
      try simp only [r32]
      try simp only [r33]
      try simp only [r34]
      try simp only [r35]
      try simp only [r36]
      try simp only [r37]
      try simp only [r38]
      try simp only [r39]
      try simp only [r40]
      try simp only [r41]
      try simp only [r42]
      try simp only [r43]
      try simp only [r44]
      try simp only [e6]
      conv => whnf
      refine ⟨(by first | assumption | rfl), ?_⟩
      try simp (disch := omega) only [Int.cast_ofNat_Int, up_s, up_a, up_i, mp_a, mp_ge]
      try simp only [r30]
      try simp only [r31]
      try simp only [r32]
      try simp only [r33]
      try simp only [r34]
      try simp only [r35]
      try simp only [r36]
      try simp only [r37]
      try simp only [r38]
      try simp only [r39]
      try simp only [r40]
      try simp only [r41]
      try simp only [r42]
      try simp only [r43]
      try simp only [r44]
      try simp only [e6]
      conv => whnf
      refine ⟨⟨by omega, by omega⟩, ?_⟩
      conv => whnf
      refine ⟨by decide, ?_⟩
      conv => whnf
      refine ⟨sx_ixI (by first | assumption | rfl) (by omega) (by omega), ?_⟩
      try simp (disch := omega) only [Int.cast_ofNat_Int, up_s, up_a, up_i, mp_a, mp_ge]
      try simp only [r30]
      try simp only [r31]
      try simp only [r32]
      try simp only [r33]
      try simp only [r34]
      try simp only [r35]
      try simp only [r36]
      try simp only [r37]
      try simp only [r38]
      try simp only [r39]
      try simp only [r40]
      try simp only [r41]
      try simp only [r42]
      try simp only [r43]
      try simp only [r44]
      try simp only [e6]
      conv => whnf
      refine ⟨sx_ixI (by first | assumption | rfl) (by omega) (by omega), by omega, ?_⟩
      conv => whnf
      refine ⟨⟨by omega, by omega⟩, ?_⟩
      conv => whnf
      refine ⟨_, ?_, ⟨rfl, _, rfl, rfl, ?_, rfl⟩⟩
      · omega
      · refine ⟨σ136, K136, fun a y z9 => by rw [up_n (by omega)]; exact hf136 a y (by omega), fun y y0 y1 => ?_, by omega, by omega⟩
        by_cases e9 : y = i
        · rw [e9, up_s]; exact (K136.1 _ _ (by omega) (fun z9 => by omega)).symm
        · rw [up_i e9]; exact hc136 y y0 (by omega)
end GN_c_Rkeept2
