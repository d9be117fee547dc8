/-! RECKONING: one step of the reference (by wip/whole) -/
section SXK2
variable {X : sx_X} {σ σ0 : sx_S} {Q : sx_R}
set_option maxRecDepth 20000 in
theorem c_Rbounded (hfl : σ 124 56 = 0 ∨ σ 124 56 = 1) {a : Int} (h1 : ∀ v, pB12 v → (σ 124 56 = 0 → pB12 a ∧ v = a) → Q (some (.inr (.inl v))) shM σ) (h0 : σ 124 56 = 0 → ¬ pB12 a → Q (some (.inr (.inl 0))) shM (sx_up σ 124 56 1)) : sx_Run X 214 [.inr (.inr 124), .inr (.inl a)] shM σ Q := by
  refine sx_rule0 (own := 12) (cd := kX12_bounded) (nL := 3) (by decide +kernel) (by decide +kernel) kX12_bounded_ok (by decide +kernel) (Nat.le_of_ble_eq_true rfl) 40 ?_
  conv => whnf
  refine ⟨(by first | assumption | rfl), ?_⟩
  try simp (disch := omega) only [Int.cast_ofNat_Int, up_s, up_a, up_i, mp_a, mp_ge, cp_a]
  conv => whnf
  refine ⟨fun g => ?_, fun g => ?_⟩
  · simp only [sx_cc, Classical.not_not] at g; try simp only [cmp_eq, cmp_ge, cmp_lt, cmp_gt, cmp_le, Int.cast_ofNat_Int] at g
    conv => whnf
    refine ⟨(by first | assumption | rfl), by omega, ?_⟩
    try simp (disch := omega) only [Int.cast_ofNat_Int, up_s, up_a, up_i, mp_a, mp_ge, cp_a]
    conv => whnf
    refine ⟨(by first | assumption | rfl), ?_⟩
    try simp (disch := omega) only [Int.cast_ofNat_Int, up_s, up_a, up_i, mp_a, mp_ge, cp_a]
    conv => whnf
    refine ⟨fun g => ?_, fun g => ?_⟩
    · exact absurd g (by simp [sx_cc])
    · skip
      conv => whnf
      first | (rw [up_id (by omega)]; exact h1 0 ⟨by omega, by omega⟩ (fun z => absurd z (by omega))) | exact h0 (by omega) (fun z => by have z1 : -1000000000000 ≤ a ∧ a ≤ 1000000000000 := z; omega) | (rw [up_id (by omega)]; exact h1 a ⟨by omega, by omega⟩ (fun _ => ⟨⟨by omega, by omega⟩, rfl⟩))
  · simp only [sx_cc, Classical.not_not] at g; try simp only [cmp_eq, cmp_ge, cmp_lt, cmp_gt, cmp_le, Int.cast_ofNat_Int] at g
    conv => whnf
    refine ⟨fun g => ?_, fun g => ?_⟩
    · simp only [sx_cc, Classical.not_not] at g; try simp only [cmp_eq, cmp_ge, cmp_lt, cmp_gt, cmp_le, Int.cast_ofNat_Int] at g
      conv => whnf
      refine ⟨(by first | assumption | rfl), by omega, ?_⟩
      try simp (disch := omega) only [Int.cast_ofNat_Int, up_s, up_a, up_i, mp_a, mp_ge, cp_a]
      conv => whnf
      refine ⟨(by first | assumption | rfl), ?_⟩
      try simp (disch := omega) only [Int.cast_ofNat_Int, up_s, up_a, up_i, mp_a, mp_ge, cp_a]
      conv => whnf
      refine ⟨fun g => ?_, fun g => ?_⟩
      · exact absurd g (by simp [sx_cc])
      · skip
        conv => whnf
        first | (rw [up_id (by omega)]; exact h1 0 ⟨by omega, by omega⟩ (fun z => absurd z (by omega))) | exact h0 (by omega) (fun z => by have z1 : -1000000000000 ≤ a ∧ a ≤ 1000000000000 := z; omega) | (rw [up_id (by omega)]; exact h1 a ⟨by omega, by omega⟩ (fun _ => ⟨⟨by omega, by omega⟩, rfl⟩))
    · simp only [sx_cc, Classical.not_not] at g; try simp only [cmp_eq, cmp_ge, cmp_lt, cmp_gt, cmp_le, Int.cast_ofNat_Int] at g
      conv => whnf
      refine ⟨fun g => ?_, fun g => ?_⟩
      · simp only [sx_cc, Classical.not_not] at g; try simp only [cmp_eq, cmp_ge, cmp_lt, cmp_gt, cmp_le, Int.cast_ofNat_Int] at g
        conv => whnf
        refine ⟨(by first | assumption | rfl), by omega, ?_⟩
        try simp (disch := omega) only [Int.cast_ofNat_Int, up_s, up_a, up_i, mp_a, mp_ge, cp_a]
        conv => whnf
        refine ⟨(by first | assumption | rfl), ?_⟩
        try simp (disch := omega) only [Int.cast_ofNat_Int, up_s, up_a, up_i, mp_a, mp_ge, cp_a]
        conv => whnf
        refine ⟨fun g => ?_, fun g => ?_⟩
        · skip
          conv => whnf
          first | (rw [up_id (by omega)]; exact h1 0 ⟨by omega, by omega⟩ (fun z => absurd z (by omega))) | exact h0 (by omega) (fun z => by have z1 : -1000000000000 ≤ a ∧ a ≤ 1000000000000 := z; omega) | (rw [up_id (by omega)]; exact h1 a ⟨by omega, by omega⟩ (fun _ => ⟨⟨by omega, by omega⟩, rfl⟩))
        · exact absurd g (by simp [sx_cc])
      · simp only [sx_cc, Classical.not_not] at g; try simp only [cmp_eq, cmp_ge, cmp_lt, cmp_gt, cmp_le, Int.cast_ofNat_Int] at g
        conv => whnf
        refine ⟨(by first | assumption | rfl), by omega, ?_⟩
        try simp (disch := omega) only [Int.cast_ofNat_Int, up_s, up_a, up_i, mp_a, mp_ge, cp_a]
        conv => whnf
        refine ⟨(by first | assumption | rfl), ?_⟩
        try simp (disch := omega) only [Int.cast_ofNat_Int, up_s, up_a, up_i, mp_a, mp_ge, cp_a]
        conv => whnf
        refine ⟨fun g => ?_, fun g => ?_⟩
        · exact absurd g (by simp [sx_cc])
        · skip
          conv => whnf
          first | (rw [up_id (by omega)]; exact h1 0 ⟨by omega, by omega⟩ (fun z => absurd z (by omega))) | exact h0 (by omega) (fun z => by have z1 : -1000000000000 ≤ a ∧ a ≤ 1000000000000 := z; omega) | (rw [up_id (by omega)]; exact h1 a ⟨by omega, by omega⟩ (fun _ => ⟨⟨by omega, by omega⟩, rfl⟩))
set_option maxRecDepth 20000 in
theorem c_Rcompares {k a b : Int} (hk : 5 ≤ k ∧ k ≤ 10) (h : ∀ v, fJo k a b = some v → Q (some (.inl v)) shM σ) : sx_Run X 215 [.inl k, .inr (.inl a), .inr (.inl b)] shM σ Q := by
  refine sx_rule0 (own := 12) (cd := kX12_compares) (nL := 5) (by decide +kernel) (by decide +kernel) kX12_compares_ok (by decide +kernel) (Nat.le_of_ble_eq_true rfl) 40 ?_
  conv => whnf
  refine ⟨fun g => ?_, ?_⟩
  · skip
    conv => whnf
    refine ⟨fun g => ?_, fun g => ?_⟩
    · simp only [sx_cc, Classical.not_not] at g; try simp only [cmp_eq, cmp_ge, cmp_lt, cmp_gt, cmp_le, Int.cast_ofNat_Int] at g
      conv => whnf
      refine ⟨fun q9 => by first | (simp at q9; done) | omega, ?_⟩
      exact h _ (by unfold fJo fB; repeat (first | rw [if_pos (by first | omega | assumption)] | rw [if_neg (by first | omega | assumption)]))
    · simp only [sx_cc, Classical.not_not] at g; try simp only [cmp_eq, cmp_ge, cmp_lt, cmp_gt, cmp_le, Int.cast_ofNat_Int] at g
      conv => whnf
      refine ⟨fun q9 => by first | (simp at q9; done) | omega, ?_⟩
      exact h _ (by unfold fJo fB; repeat (first | rw [if_pos (by first | omega | assumption)] | rw [if_neg (by first | omega | assumption)]))
  conv => whnf
  refine ⟨fun g => ?_, ?_⟩
  · skip
    conv => whnf
    refine ⟨fun g => ?_, fun g => ?_⟩
    · simp only [sx_cc, Classical.not_not] at g; try simp only [cmp_eq, cmp_ge, cmp_lt, cmp_gt, cmp_le, Int.cast_ofNat_Int] at g
      conv => whnf
      refine ⟨fun q9 => by first | (simp at q9; done) | omega, ?_⟩
      exact h _ (by unfold fJo fB; repeat (first | rw [if_pos (by first | omega | assumption)] | rw [if_neg (by first | omega | assumption)]))
    · simp only [sx_cc, Classical.not_not] at g; try simp only [cmp_eq, cmp_ge, cmp_lt, cmp_gt, cmp_le, Int.cast_ofNat_Int] at g
      conv => whnf
      refine ⟨fun q9 => by first | (simp at q9; done) | omega, ?_⟩
      exact h _ (by unfold fJo fB; repeat (first | rw [if_pos (by first | omega | assumption)] | rw [if_neg (by first | omega | assumption)]))
  conv => whnf
  refine ⟨fun g => ?_, ?_⟩
  · skip
    conv => whnf
    refine ⟨fun g => ?_, fun g => ?_⟩
    · simp only [sx_cc, Classical.not_not] at g; try simp only [cmp_eq, cmp_ge, cmp_lt, cmp_gt, cmp_le, Int.cast_ofNat_Int] at g
      conv => whnf
      refine ⟨fun q9 => by first | (simp at q9; done) | omega, ?_⟩
      exact h _ (by unfold fJo fB; repeat (first | rw [if_pos (by first | omega | assumption)] | rw [if_neg (by first | omega | assumption)]))
    · simp only [sx_cc, Classical.not_not] at g; try simp only [cmp_eq, cmp_ge, cmp_lt, cmp_gt, cmp_le, Int.cast_ofNat_Int] at g
      conv => whnf
      refine ⟨fun q9 => by first | (simp at q9; done) | omega, ?_⟩
      exact h _ (by unfold fJo fB; repeat (first | rw [if_pos (by first | omega | assumption)] | rw [if_neg (by first | omega | assumption)]))
  conv => whnf
  refine ⟨fun g => ?_, ?_⟩
  · skip
    conv => whnf
    refine ⟨fun g => ?_, fun g => ?_⟩
    · simp only [sx_cc, Classical.not_not] at g; try simp only [cmp_eq, cmp_ge, cmp_lt, cmp_gt, cmp_le, Int.cast_ofNat_Int] at g
      conv => whnf
      refine ⟨fun q9 => by first | (simp at q9; done) | omega, ?_⟩
      exact h _ (by unfold fJo fB; repeat (first | rw [if_pos (by first | omega | assumption)] | rw [if_neg (by first | omega | assumption)]))
    · simp only [sx_cc, Classical.not_not] at g; try simp only [cmp_eq, cmp_ge, cmp_lt, cmp_gt, cmp_le, Int.cast_ofNat_Int] at g
      conv => whnf
      refine ⟨fun q9 => by first | (simp at q9; done) | omega, ?_⟩
      exact h _ (by unfold fJo fB; repeat (first | rw [if_pos (by first | omega | assumption)] | rw [if_neg (by first | omega | assumption)]))
  conv => whnf
  refine ⟨fun g => ?_, ?_⟩
  · skip
    conv => whnf
    refine ⟨fun g => ?_, fun g => ?_⟩
    · simp only [sx_cc, Classical.not_not] at g; try simp only [cmp_eq, cmp_ge, cmp_lt, cmp_gt, cmp_le, Int.cast_ofNat_Int] at g
      conv => whnf
      refine ⟨fun q9 => by first | (simp at q9; done) | omega, ?_⟩
      exact h _ (by unfold fJo fB; repeat (first | rw [if_pos (by first | omega | assumption)] | rw [if_neg (by first | omega | assumption)]))
    · simp only [sx_cc, Classical.not_not] at g; try simp only [cmp_eq, cmp_ge, cmp_lt, cmp_gt, cmp_le, Int.cast_ofNat_Int] at g
      conv => whnf
      refine ⟨fun q9 => by first | (simp at q9; done) | omega, ?_⟩
      exact h _ (by unfold fJo fB; repeat (first | rw [if_pos (by first | omega | assumption)] | rw [if_neg (by first | omega | assumption)]))
  conv => whnf
  refine ⟨fun g => ?_, ?_⟩
  · skip
    conv => whnf
    refine ⟨fun g => ?_, fun g => ?_⟩
    · simp only [sx_cc, Classical.not_not] at g; try simp only [cmp_eq, cmp_ge, cmp_lt, cmp_gt, cmp_le, Int.cast_ofNat_Int] at g
      conv => whnf
      refine ⟨fun q9 => by first | (simp at q9; done) | omega, ?_⟩
      exact h _ (by unfold fJo fB; repeat (first | rw [if_pos (by first | omega | assumption)] | rw [if_neg (by first | omega | assumption)]))
    · simp only [sx_cc, Classical.not_not] at g; try simp only [cmp_eq, cmp_ge, cmp_lt, cmp_gt, cmp_le, Int.cast_ofNat_Int] at g
      conv => whnf
      refine ⟨fun q9 => by first | (simp at q9; done) | omega, ?_⟩
      exact h _ (by unfold fJo fB; repeat (first | rw [if_pos (by first | omega | assumption)] | rw [if_neg (by first | omega | assumption)]))
  exact trivial
set_option maxRecDepth 20000 in
theorem c_Rtimes (hfl : σ 124 56 = 0 ∨ σ 124 56 = 1) {a b : Int} (ha : pB12 a) (hb : pB12 b) (h1 : ∀ v, pB12 v → (σ 124 56 = 0 → ¬ pBig a b ∧ v = a * b) → Q (some (.inr (.inl v))) shM σ) (h0 : σ 124 56 = 0 → pBig a b → Q (some (.inr (.inl 0))) shM (sx_up σ 124 56 1)) : sx_Run X 216 [.inr (.inr 124), .inr (.inl a), .inr (.inl b)] shM σ Q := by
  have ha9 : -1000000000000 ≤ a ∧ a ≤ 1000000000000 := ha
  have hb9 : -1000000000000 ≤ b ∧ b ≤ 1000000000000 := hb
  have hfa := fAbs_bd a
  have hfb := fAbs_bd b
  refine sx_rule0 (own := 12) (cd := kX12_times) (nL := 6) (by decide +kernel) (by decide +kernel) kX12_times_ok (by decide +kernel) (Nat.le_of_ble_eq_true rfl) 40 ?_
  conv => whnf
  refine ⟨fun g => ?_, fun g => ?_⟩
  · simp only [sx_cc, Classical.not_not] at g; try simp only [cmp_eq, cmp_ge, cmp_lt, cmp_gt, cmp_le, Int.cast_ofNat_Int] at g
    conv => whnf
    refine ⟨(by first | assumption | rfl), ?_⟩
    try simp (disch := omega) only [Int.cast_ofNat_Int, up_s, up_a, up_i, mp_a, mp_ge, cp_a]
    conv => whnf
    refine ⟨fun g => ?_, fun g => ?_⟩
    · simp only [sx_cc, Classical.not_not] at g; try simp only [cmp_eq, cmp_ge, cmp_lt, cmp_gt, cmp_le, Int.cast_ofNat_Int] at g
      conv => whnf
      refine ⟨(by first | assumption | rfl), by omega, ?_⟩
      try simp (disch := omega) only [Int.cast_ofNat_Int, up_s, up_a, up_i, mp_a, mp_ge, cp_a]
      conv => whnf
      refine ⟨(by first | assumption | rfl), ?_⟩
      try simp (disch := omega) only [Int.cast_ofNat_Int, up_s, up_a, up_i, mp_a, mp_ge, cp_a]
      conv => whnf
      refine ⟨fun g => ?_, fun g => ?_⟩
      · exact absurd g (by simp [sx_cc])
      · skip
        conv => whnf
        first | (rw [up_id (by omega)]; exact h1 0 ⟨by omega, by omega⟩ (fun z => absurd z (by omega))) | exact h0 (by omega) ⟨by omega, by first | (rw [show fAbs a = a by omega]; omega) | (rw [show fAbs a = -a by omega]; omega)⟩ | (rw [up_id (by omega)]; exact h1 (a * b) (pBig_no (fun z => by first | exact z.1 (by omega) | (have z2 := z.2; have e0 : b = 0 := (by omega); rw [e0] at z2; have z3 := tm_bd (show (0 : Int) ≤ 1000000000000 by omega) (show 0 < fAbs a by have := z.1; omega); have z4 : fAbs 0 = 0 := rfl; omega) | (have z2 := z.2; rw [show fAbs a = a by omega] at z2; omega) | (have z2 := z.2; rw [show fAbs a = -a by omega] at z2; omega))) (fun _ => ⟨(fun z => by first | exact z.1 (by omega) | (have z2 := z.2; have e0 : b = 0 := (by omega); rw [e0] at z2; have z3 := tm_bd (show (0 : Int) ≤ 1000000000000 by omega) (show 0 < fAbs a by have := z.1; omega); have z4 : fAbs 0 = 0 := rfl; omega) | (have z2 := z.2; rw [show fAbs a = a by omega] at z2; omega) | (have z2 := z.2; rw [show fAbs a = -a by omega] at z2; omega)), rfl⟩))
    · simp only [sx_cc, Classical.not_not] at g; try simp only [cmp_eq, cmp_ge, cmp_lt, cmp_gt, cmp_le, Int.cast_ofNat_Int] at g
      conv => whnf
      refine ⟨fun g => ?_, fun g => ?_⟩
      · skip
        conv => whnf
        refine ⟨(by first | assumption | rfl), by omega, ?_⟩
        try simp (disch := omega) only [Int.cast_ofNat_Int, up_s, up_a, up_i, mp_a, mp_ge, cp_a]
        conv => whnf
        refine ⟨(by first | assumption | rfl), ?_⟩
        try simp (disch := omega) only [Int.cast_ofNat_Int, up_s, up_a, up_i, mp_a, mp_ge, cp_a]
        conv => whnf
        refine ⟨fun g => ?_, fun g => ?_⟩
        · skip
          conv => whnf
          refine ⟨(by first | exact ⟨by omega, by omega⟩ | exact pB64 (pBig_no (fun z => by first | exact z.1 (by omega) | (have z2 := z.2; have e0 : b = 0 := (by omega); rw [e0] at z2; have z3 := tm_bd (show (0 : Int) ≤ 1000000000000 by omega) (show 0 < fAbs a by have := z.1; omega); have z4 : fAbs 0 = 0 := rfl; omega) | (have z2 := z.2; rw [show fAbs a = a by omega] at z2; omega) | (have z2 := z.2; rw [show fAbs a = -a by omega] at z2; omega)))), ?_⟩
          conv => whnf
          first | (rw [up_id (by omega)]; exact h1 0 ⟨by omega, by omega⟩ (fun z => absurd z (by omega))) | exact h0 (by omega) ⟨by omega, by first | (rw [show fAbs a = a by omega]; omega) | (rw [show fAbs a = -a by omega]; omega)⟩ | (rw [up_id (by omega)]; exact h1 (a * b) (pBig_no (fun z => by first | exact z.1 (by omega) | (have z2 := z.2; have e0 : b = 0 := (by omega); rw [e0] at z2; have z3 := tm_bd (show (0 : Int) ≤ 1000000000000 by omega) (show 0 < fAbs a by have := z.1; omega); have z4 : fAbs 0 = 0 := rfl; omega) | (have z2 := z.2; rw [show fAbs a = a by omega] at z2; omega) | (have z2 := z.2; rw [show fAbs a = -a by omega] at z2; omega))) (fun _ => ⟨(fun z => by first | exact z.1 (by omega) | (have z2 := z.2; have e0 : b = 0 := (by omega); rw [e0] at z2; have z3 := tm_bd (show (0 : Int) ≤ 1000000000000 by omega) (show 0 < fAbs a by have := z.1; omega); have z4 : fAbs 0 = 0 := rfl; omega) | (have z2 := z.2; rw [show fAbs a = a by omega] at z2; omega) | (have z2 := z.2; rw [show fAbs a = -a by omega] at z2; omega)), rfl⟩))
        · exact absurd g (by simp [sx_cc])
      · exact absurd g (by simp [sx_cc])
  · simp only [sx_cc, Classical.not_not] at g; try simp only [cmp_eq, cmp_ge, cmp_lt, cmp_gt, cmp_le, Int.cast_ofNat_Int] at g
    conv => whnf
    refine ⟨fun g => ?_, fun g => ?_⟩
    · simp only [sx_cc, Classical.not_not] at g; try simp only [cmp_eq, cmp_ge, cmp_lt, cmp_gt, cmp_le, Int.cast_ofNat_Int] at g
      conv => whnf
      refine ⟨(by first | assumption | rfl), ?_⟩
      try simp (disch := omega) only [Int.cast_ofNat_Int, up_s, up_a, up_i, mp_a, mp_ge, cp_a]
      conv => whnf
      refine ⟨fun g => ?_, fun g => ?_⟩
      · simp only [sx_cc, Classical.not_not] at g; try simp only [cmp_eq, cmp_ge, cmp_lt, cmp_gt, cmp_le, Int.cast_ofNat_Int] at g
        conv => whnf
        refine ⟨(by first | assumption | rfl), by omega, ?_⟩
        try simp (disch := omega) only [Int.cast_ofNat_Int, up_s, up_a, up_i, mp_a, mp_ge, cp_a]
        conv => whnf
        refine ⟨(by first | assumption | rfl), ?_⟩
        try simp (disch := omega) only [Int.cast_ofNat_Int, up_s, up_a, up_i, mp_a, mp_ge, cp_a]
        conv => whnf
        refine ⟨fun g => ?_, fun g => ?_⟩
        · exact absurd g (by simp [sx_cc])
        · skip
          conv => whnf
          first | (rw [up_id (by omega)]; exact h1 0 ⟨by omega, by omega⟩ (fun z => absurd z (by omega))) | exact h0 (by omega) ⟨by omega, by first | (rw [show fAbs a = a by omega]; omega) | (rw [show fAbs a = -a by omega]; omega)⟩ | (rw [up_id (by omega)]; exact h1 (a * b) (pBig_no (fun z => by first | exact z.1 (by omega) | (have z2 := z.2; have e0 : b = 0 := (by omega); rw [e0] at z2; have z3 := tm_bd (show (0 : Int) ≤ 1000000000000 by omega) (show 0 < fAbs a by have := z.1; omega); have z4 : fAbs 0 = 0 := rfl; omega) | (have z2 := z.2; rw [show fAbs a = a by omega] at z2; omega) | (have z2 := z.2; rw [show fAbs a = -a by omega] at z2; omega))) (fun _ => ⟨(fun z => by first | exact z.1 (by omega) | (have z2 := z.2; have e0 : b = 0 := (by omega); rw [e0] at z2; have z3 := tm_bd (show (0 : Int) ≤ 1000000000000 by omega) (show 0 < fAbs a by have := z.1; omega); have z4 : fAbs 0 = 0 := rfl; omega) | (have z2 := z.2; rw [show fAbs a = a by omega] at z2; omega) | (have z2 := z.2; rw [show fAbs a = -a by omega] at z2; omega)), rfl⟩))
      · simp only [sx_cc, Classical.not_not] at g; try simp only [cmp_eq, cmp_ge, cmp_lt, cmp_gt, cmp_le, Int.cast_ofNat_Int] at g
        conv => whnf
        refine ⟨fun g => ?_, fun g => ?_⟩
        · skip
          conv => whnf
          refine ⟨(by first | assumption | rfl), by omega, ?_⟩
          try simp (disch := omega) only [Int.cast_ofNat_Int, up_s, up_a, up_i, mp_a, mp_ge, cp_a]
          conv => whnf
          refine ⟨(by first | assumption | rfl), ?_⟩
          try simp (disch := omega) only [Int.cast_ofNat_Int, up_s, up_a, up_i, mp_a, mp_ge, cp_a]
          conv => whnf
          refine ⟨fun g => ?_, fun g => ?_⟩
          · skip
            conv => whnf
            refine ⟨(by first | exact ⟨by omega, by omega⟩ | exact pB64 (pBig_no (fun z => by first | exact z.1 (by omega) | (have z2 := z.2; have e0 : b = 0 := (by omega); rw [e0] at z2; have z3 := tm_bd (show (0 : Int) ≤ 1000000000000 by omega) (show 0 < fAbs a by have := z.1; omega); have z4 : fAbs 0 = 0 := rfl; omega) | (have z2 := z.2; rw [show fAbs a = a by omega] at z2; omega) | (have z2 := z.2; rw [show fAbs a = -a by omega] at z2; omega)))), ?_⟩
            conv => whnf
            first | (rw [up_id (by omega)]; exact h1 0 ⟨by omega, by omega⟩ (fun z => absurd z (by omega))) | exact h0 (by omega) ⟨by omega, by first | (rw [show fAbs a = a by omega]; omega) | (rw [show fAbs a = -a by omega]; omega)⟩ | (rw [up_id (by omega)]; exact h1 (a * b) (pBig_no (fun z => by first | exact z.1 (by omega) | (have z2 := z.2; have e0 : b = 0 := (by omega); rw [e0] at z2; have z3 := tm_bd (show (0 : Int) ≤ 1000000000000 by omega) (show 0 < fAbs a by have := z.1; omega); have z4 : fAbs 0 = 0 := rfl; omega) | (have z2 := z.2; rw [show fAbs a = a by omega] at z2; omega) | (have z2 := z.2; rw [show fAbs a = -a by omega] at z2; omega))) (fun _ => ⟨(fun z => by first | exact z.1 (by omega) | (have z2 := z.2; have e0 : b = 0 := (by omega); rw [e0] at z2; have z3 := tm_bd (show (0 : Int) ≤ 1000000000000 by omega) (show 0 < fAbs a by have := z.1; omega); have z4 : fAbs 0 = 0 := rfl; omega) | (have z2 := z.2; rw [show fAbs a = a by omega] at z2; omega) | (have z2 := z.2; rw [show fAbs a = -a by omega] at z2; omega)), rfl⟩))
          · exact absurd g (by simp [sx_cc])
        · exact absurd g (by simp [sx_cc])
    · simp only [sx_cc, Classical.not_not] at g; try simp only [cmp_eq, cmp_ge, cmp_lt, cmp_gt, cmp_le, Int.cast_ofNat_Int] at g
      conv => whnf
      refine ⟨fun g => ?_, fun g => ?_⟩
      · simp only [sx_cc, Classical.not_not] at g; try simp only [cmp_eq, cmp_ge, cmp_lt, cmp_gt, cmp_le, Int.cast_ofNat_Int] at g
        conv => whnf
        refine ⟨fun g => ?_, fun g => ?_⟩
        · simp only [sx_cc, Classical.not_not] at g; try simp only [cmp_eq, cmp_ge, cmp_lt, cmp_gt, cmp_le, Int.cast_ofNat_Int] at g
          conv => whnf
          refine ⟨by omega, (show sx_r64 _ from (by first | (have htd := tm_bd (show (0 : Int) ≤ 1000000000000 by omega) (show 0 < a by omega); exact ⟨by show -9223372036854775808 ≤ (1000000000000 : Int).tdiv a; omega, by show (1000000000000 : Int).tdiv a ≤ 9223372036854775807; omega⟩) | (have htd := tm_bd (show (0 : Int) ≤ 1000000000000 by omega) (show 0 < -a by omega); exact ⟨by show -9223372036854775808 ≤ (1000000000000 : Int).tdiv (-a); omega, by show (1000000000000 : Int).tdiv (-a) ≤ 9223372036854775807; omega⟩))), ?_⟩
          conv => whnf
          refine ⟨fun g => ?_, fun g => ?_⟩
          · simp only [sx_cc, Classical.not_not] at g; try simp only [cmp_eq, cmp_ge, cmp_lt, cmp_gt, cmp_le, Int.cast_ofNat_Int] at g
            conv => whnf
            refine ⟨(by first | assumption | rfl), ?_⟩
            try simp (disch := omega) only [Int.cast_ofNat_Int, up_s, up_a, up_i, mp_a, mp_ge, cp_a]
            conv => whnf
            refine ⟨fun g => ?_, fun g => ?_⟩
            · simp only [sx_cc, Classical.not_not] at g; try simp only [cmp_eq, cmp_ge, cmp_lt, cmp_gt, cmp_le, Int.cast_ofNat_Int] at g
              conv => whnf
              refine ⟨(by first | assumption | rfl), by omega, ?_⟩
              try simp (disch := omega) only [Int.cast_ofNat_Int, up_s, up_a, up_i, mp_a, mp_ge, cp_a]
              conv => whnf
              refine ⟨(by first | assumption | rfl), ?_⟩
              try simp (disch := omega) only [Int.cast_ofNat_Int, up_s, up_a, up_i, mp_a, mp_ge, cp_a]
              conv => whnf
              refine ⟨fun g => ?_, fun g => ?_⟩
              · exact absurd g (by simp [sx_cc])
              · skip
                conv => whnf
                first | (rw [up_id (by omega)]; exact h1 0 ⟨by omega, by omega⟩ (fun z => absurd z (by omega))) | exact h0 (by omega) ⟨by omega, by first | (rw [show fAbs a = a by omega]; omega) | (rw [show fAbs a = -a by omega]; omega)⟩ | (rw [up_id (by omega)]; exact h1 (a * b) (pBig_no (fun z => by first | exact z.1 (by omega) | (have z2 := z.2; have e0 : b = 0 := (by omega); rw [e0] at z2; have z3 := tm_bd (show (0 : Int) ≤ 1000000000000 by omega) (show 0 < fAbs a by have := z.1; omega); have z4 : fAbs 0 = 0 := rfl; omega) | (have z2 := z.2; rw [show fAbs a = a by omega] at z2; omega) | (have z2 := z.2; rw [show fAbs a = -a by omega] at z2; omega))) (fun _ => ⟨(fun z => by first | exact z.1 (by omega) | (have z2 := z.2; have e0 : b = 0 := (by omega); rw [e0] at z2; have z3 := tm_bd (show (0 : Int) ≤ 1000000000000 by omega) (show 0 < fAbs a by have := z.1; omega); have z4 : fAbs 0 = 0 := rfl; omega) | (have z2 := z.2; rw [show fAbs a = a by omega] at z2; omega) | (have z2 := z.2; rw [show fAbs a = -a by omega] at z2; omega)), rfl⟩))
            · simp only [sx_cc, Classical.not_not] at g; try simp only [cmp_eq, cmp_ge, cmp_lt, cmp_gt, cmp_le, Int.cast_ofNat_Int] at g
              conv => whnf
              refine ⟨fun g => ?_, fun g => ?_⟩
              · skip
                conv => whnf
                refine ⟨(by first | assumption | rfl), by omega, ?_⟩
                try simp (disch := omega) only [Int.cast_ofNat_Int, up_s, up_a, up_i, mp_a, mp_ge, cp_a]
                conv => whnf
                refine ⟨(by first | assumption | rfl), ?_⟩
                try simp (disch := omega) only [Int.cast_ofNat_Int, up_s, up_a, up_i, mp_a, mp_ge, cp_a]
                conv => whnf
                refine ⟨fun g => ?_, fun g => ?_⟩
                · skip
                  conv => whnf
                  refine ⟨(by first | exact ⟨by omega, by omega⟩ | exact pB64 (pBig_no (fun z => by first | exact z.1 (by omega) | (have z2 := z.2; have e0 : b = 0 := (by omega); rw [e0] at z2; have z3 := tm_bd (show (0 : Int) ≤ 1000000000000 by omega) (show 0 < fAbs a by have := z.1; omega); have z4 : fAbs 0 = 0 := rfl; omega) | (have z2 := z.2; rw [show fAbs a = a by omega] at z2; omega) | (have z2 := z.2; rw [show fAbs a = -a by omega] at z2; omega)))), ?_⟩
                  conv => whnf
                  first | (rw [up_id (by omega)]; exact h1 0 ⟨by omega, by omega⟩ (fun z => absurd z (by omega))) | exact h0 (by omega) ⟨by omega, by first | (rw [show fAbs a = a by omega]; omega) | (rw [show fAbs a = -a by omega]; omega)⟩ | (rw [up_id (by omega)]; exact h1 (a * b) (pBig_no (fun z => by first | exact z.1 (by omega) | (have z2 := z.2; have e0 : b = 0 := (by omega); rw [e0] at z2; have z3 := tm_bd (show (0 : Int) ≤ 1000000000000 by omega) (show 0 < fAbs a by have := z.1; omega); have z4 : fAbs 0 = 0 := rfl; omega) | (have z2 := z.2; rw [show fAbs a = a by omega] at z2; omega) | (have z2 := z.2; rw [show fAbs a = -a by omega] at z2; omega))) (fun _ => ⟨(fun z => by first | exact z.1 (by omega) | (have z2 := z.2; have e0 : b = 0 := (by omega); rw [e0] at z2; have z3 := tm_bd (show (0 : Int) ≤ 1000000000000 by omega) (show 0 < fAbs a by have := z.1; omega); have z4 : fAbs 0 = 0 := rfl; omega) | (have z2 := z.2; rw [show fAbs a = a by omega] at z2; omega) | (have z2 := z.2; rw [show fAbs a = -a by omega] at z2; omega)), rfl⟩))
                · exact absurd g (by simp [sx_cc])
              · exact absurd g (by simp [sx_cc])
          · simp only [sx_cc, Classical.not_not] at g; try simp only [cmp_eq, cmp_ge, cmp_lt, cmp_gt, cmp_le, Int.cast_ofNat_Int] at g
            conv => whnf
            refine ⟨(by first | assumption | rfl), ?_⟩
            try simp (disch := omega) only [Int.cast_ofNat_Int, up_s, up_a, up_i, mp_a, mp_ge, cp_a]
            conv => whnf
            refine ⟨fun g => ?_, fun g => ?_⟩
            · simp only [sx_cc, Classical.not_not] at g; try simp only [cmp_eq, cmp_ge, cmp_lt, cmp_gt, cmp_le, Int.cast_ofNat_Int] at g
              conv => whnf
              refine ⟨(by first | assumption | rfl), by omega, ?_⟩
              try simp (disch := omega) only [Int.cast_ofNat_Int, up_s, up_a, up_i, mp_a, mp_ge, cp_a]
              conv => whnf
              refine ⟨(by first | assumption | rfl), ?_⟩
              try simp (disch := omega) only [Int.cast_ofNat_Int, up_s, up_a, up_i, mp_a, mp_ge, cp_a]
              conv => whnf
              refine ⟨fun g => ?_, fun g => ?_⟩
              · exact absurd g (by simp [sx_cc])
              · skip
                conv => whnf
                first | (rw [up_id (by omega)]; exact h1 0 ⟨by omega, by omega⟩ (fun z => absurd z (by omega))) | exact h0 (by omega) ⟨by omega, by first | (rw [show fAbs a = a by omega]; omega) | (rw [show fAbs a = -a by omega]; omega)⟩ | (rw [up_id (by omega)]; exact h1 (a * b) (pBig_no (fun z => by first | exact z.1 (by omega) | (have z2 := z.2; have e0 : b = 0 := (by omega); rw [e0] at z2; have z3 := tm_bd (show (0 : Int) ≤ 1000000000000 by omega) (show 0 < fAbs a by have := z.1; omega); have z4 : fAbs 0 = 0 := rfl; omega) | (have z2 := z.2; rw [show fAbs a = a by omega] at z2; omega) | (have z2 := z.2; rw [show fAbs a = -a by omega] at z2; omega))) (fun _ => ⟨(fun z => by first | exact z.1 (by omega) | (have z2 := z.2; have e0 : b = 0 := (by omega); rw [e0] at z2; have z3 := tm_bd (show (0 : Int) ≤ 1000000000000 by omega) (show 0 < fAbs a by have := z.1; omega); have z4 : fAbs 0 = 0 := rfl; omega) | (have z2 := z.2; rw [show fAbs a = a by omega] at z2; omega) | (have z2 := z.2; rw [show fAbs a = -a by omega] at z2; omega)), rfl⟩))
            · simp only [sx_cc, Classical.not_not] at g; try simp only [cmp_eq, cmp_ge, cmp_lt, cmp_gt, cmp_le, Int.cast_ofNat_Int] at g
              conv => whnf
              refine ⟨fun g => ?_, fun g => ?_⟩
              · exact absurd g (by simp [sx_cc])
              · skip
                conv => whnf
                refine ⟨(by first | assumption | rfl), by omega, ?_⟩
                try simp (disch := omega) only [Int.cast_ofNat_Int, up_s, up_a, up_i, mp_a, mp_ge, cp_a]
                conv => whnf
                refine ⟨(by first | assumption | rfl), ?_⟩
                try simp (disch := omega) only [Int.cast_ofNat_Int, up_s, up_a, up_i, mp_a, mp_ge, cp_a]
                conv => whnf
                refine ⟨fun g => ?_, fun g => ?_⟩
                · exact absurd g (by simp [sx_cc])
                · skip
                  conv => whnf
                  first | (rw [up_id (by omega)]; exact h1 0 ⟨by omega, by omega⟩ (fun z => absurd z (by omega))) | exact h0 (by omega) ⟨by omega, by first | (rw [show fAbs a = a by omega]; omega) | (rw [show fAbs a = -a by omega]; omega)⟩ | (rw [up_id (by omega)]; exact h1 (a * b) (pBig_no (fun z => by first | exact z.1 (by omega) | (have z2 := z.2; have e0 : b = 0 := (by omega); rw [e0] at z2; have z3 := tm_bd (show (0 : Int) ≤ 1000000000000 by omega) (show 0 < fAbs a by have := z.1; omega); have z4 : fAbs 0 = 0 := rfl; omega) | (have z2 := z.2; rw [show fAbs a = a by omega] at z2; omega) | (have z2 := z.2; rw [show fAbs a = -a by omega] at z2; omega))) (fun _ => ⟨(fun z => by first | exact z.1 (by omega) | (have z2 := z.2; have e0 : b = 0 := (by omega); rw [e0] at z2; have z3 := tm_bd (show (0 : Int) ≤ 1000000000000 by omega) (show 0 < fAbs a by have := z.1; omega); have z4 : fAbs 0 = 0 := rfl; omega) | (have z2 := z.2; rw [show fAbs a = a by omega] at z2; omega) | (have z2 := z.2; rw [show fAbs a = -a by omega] at z2; omega)), rfl⟩))
        · simp only [sx_cc, Classical.not_not] at g; try simp only [cmp_eq, cmp_ge, cmp_lt, cmp_gt, cmp_le, Int.cast_ofNat_Int] at g
          conv => whnf
          refine ⟨(by first | exact ⟨by omega, by omega⟩ | exact pB64 (pBig_no (fun z => by first | exact z.1 (by omega) | (have z2 := z.2; have e0 : b = 0 := (by omega); rw [e0] at z2; have z3 := tm_bd (show (0 : Int) ≤ 1000000000000 by omega) (show 0 < fAbs a by have := z.1; omega); have z4 : fAbs 0 = 0 := rfl; omega) | (have z2 := z.2; rw [show fAbs a = a by omega] at z2; omega) | (have z2 := z.2; rw [show fAbs a = -a by omega] at z2; omega)))), ?_⟩
          conv => whnf
          refine ⟨by omega, (show sx_r64 _ from (by first | (have htd := tm_bd (show (0 : Int) ≤ 1000000000000 by omega) (show 0 < a by omega); exact ⟨by show -9223372036854775808 ≤ (1000000000000 : Int).tdiv a; omega, by show (1000000000000 : Int).tdiv a ≤ 9223372036854775807; omega⟩) | (have htd := tm_bd (show (0 : Int) ≤ 1000000000000 by omega) (show 0 < -a by omega); exact ⟨by show -9223372036854775808 ≤ (1000000000000 : Int).tdiv (-a); omega, by show (1000000000000 : Int).tdiv (-a) ≤ 9223372036854775807; omega⟩))), ?_⟩
          conv => whnf
          refine ⟨fun g => ?_, fun g => ?_⟩
          · simp only [sx_cc, Classical.not_not] at g; try simp only [cmp_eq, cmp_ge, cmp_lt, cmp_gt, cmp_le, Int.cast_ofNat_Int] at g
            conv => whnf
            refine ⟨(by first | assumption | rfl), ?_⟩
            try simp (disch := omega) only [Int.cast_ofNat_Int, up_s, up_a, up_i, mp_a, mp_ge, cp_a]
            conv => whnf
            refine ⟨fun g => ?_, fun g => ?_⟩
            · simp only [sx_cc, Classical.not_not] at g; try simp only [cmp_eq, cmp_ge, cmp_lt, cmp_gt, cmp_le, Int.cast_ofNat_Int] at g
              conv => whnf
              refine ⟨(by first | assumption | rfl), by omega, ?_⟩
              try simp (disch := omega) only [Int.cast_ofNat_Int, up_s, up_a, up_i, mp_a, mp_ge, cp_a]
              conv => whnf
              refine ⟨(by first | assumption | rfl), ?_⟩
              try simp (disch := omega) only [Int.cast_ofNat_Int, up_s, up_a, up_i, mp_a, mp_ge, cp_a]
              conv => whnf
              refine ⟨fun g => ?_, fun g => ?_⟩
              · exact absurd g (by simp [sx_cc])
              · skip
                conv => whnf
                first | (rw [up_id (by omega)]; exact h1 0 ⟨by omega, by omega⟩ (fun z => absurd z (by omega))) | exact h0 (by omega) ⟨by omega, by first | (rw [show fAbs a = a by omega]; omega) | (rw [show fAbs a = -a by omega]; omega)⟩ | (rw [up_id (by omega)]; exact h1 (a * b) (pBig_no (fun z => by first | exact z.1 (by omega) | (have z2 := z.2; have e0 : b = 0 := (by omega); rw [e0] at z2; have z3 := tm_bd (show (0 : Int) ≤ 1000000000000 by omega) (show 0 < fAbs a by have := z.1; omega); have z4 : fAbs 0 = 0 := rfl; omega) | (have z2 := z.2; rw [show fAbs a = a by omega] at z2; omega) | (have z2 := z.2; rw [show fAbs a = -a by omega] at z2; omega))) (fun _ => ⟨(fun z => by first | exact z.1 (by omega) | (have z2 := z.2; have e0 : b = 0 := (by omega); rw [e0] at z2; have z3 := tm_bd (show (0 : Int) ≤ 1000000000000 by omega) (show 0 < fAbs a by have := z.1; omega); have z4 : fAbs 0 = 0 := rfl; omega) | (have z2 := z.2; rw [show fAbs a = a by omega] at z2; omega) | (have z2 := z.2; rw [show fAbs a = -a by omega] at z2; omega)), rfl⟩))
            · simp only [sx_cc, Classical.not_not] at g; try simp only [cmp_eq, cmp_ge, cmp_lt, cmp_gt, cmp_le, Int.cast_ofNat_Int] at g
              conv => whnf
              refine ⟨fun g => ?_, fun g => ?_⟩
              · skip
                conv => whnf
                refine ⟨(by first | assumption | rfl), by omega, ?_⟩
                try simp (disch := omega) only [Int.cast_ofNat_Int, up_s, up_a, up_i, mp_a, mp_ge, cp_a]
                conv => whnf
                refine ⟨(by first | assumption | rfl), ?_⟩
                try simp (disch := omega) only [Int.cast_ofNat_Int, up_s, up_a, up_i, mp_a, mp_ge, cp_a]
                conv => whnf
                refine ⟨fun g => ?_, fun g => ?_⟩
                · skip
                  conv => whnf
                  refine ⟨(by first | exact ⟨by omega, by omega⟩ | exact pB64 (pBig_no (fun z => by first | exact z.1 (by omega) | (have z2 := z.2; have e0 : b = 0 := (by omega); rw [e0] at z2; have z3 := tm_bd (show (0 : Int) ≤ 1000000000000 by omega) (show 0 < fAbs a by have := z.1; omega); have z4 : fAbs 0 = 0 := rfl; omega) | (have z2 := z.2; rw [show fAbs a = a by omega] at z2; omega) | (have z2 := z.2; rw [show fAbs a = -a by omega] at z2; omega)))), ?_⟩
                  conv => whnf
                  first | (rw [up_id (by omega)]; exact h1 0 ⟨by omega, by omega⟩ (fun z => absurd z (by omega))) | exact h0 (by omega) ⟨by omega, by first | (rw [show fAbs a = a by omega]; omega) | (rw [show fAbs a = -a by omega]; omega)⟩ | (rw [up_id (by omega)]; exact h1 (a * b) (pBig_no (fun z => by first | exact z.1 (by omega) | (have z2 := z.2; have e0 : b = 0 := (by omega); rw [e0] at z2; have z3 := tm_bd (show (0 : Int) ≤ 1000000000000 by omega) (show 0 < fAbs a by have := z.1; omega); have z4 : fAbs 0 = 0 := rfl; omega) | (have z2 := z.2; rw [show fAbs a = a by omega] at z2; omega) | (have z2 := z.2; rw [show fAbs a = -a by omega] at z2; omega))) (fun _ => ⟨(fun z => by first | exact z.1 (by omega) | (have z2 := z.2; have e0 : b = 0 := (by omega); rw [e0] at z2; have z3 := tm_bd (show (0 : Int) ≤ 1000000000000 by omega) (show 0 < fAbs a by have := z.1; omega); have z4 : fAbs 0 = 0 := rfl; omega) | (have z2 := z.2; rw [show fAbs a = a by omega] at z2; omega) | (have z2 := z.2; rw [show fAbs a = -a by omega] at z2; omega)), rfl⟩))
                · exact absurd g (by simp [sx_cc])
              · exact absurd g (by simp [sx_cc])
          · simp only [sx_cc, Classical.not_not] at g; try simp only [cmp_eq, cmp_ge, cmp_lt, cmp_gt, cmp_le, Int.cast_ofNat_Int] at g
            conv => whnf
            refine ⟨(by first | assumption | rfl), ?_⟩
            try simp (disch := omega) only [Int.cast_ofNat_Int, up_s, up_a, up_i, mp_a, mp_ge, cp_a]
            conv => whnf
            refine ⟨fun g => ?_, fun g => ?_⟩
            · simp only [sx_cc, Classical.not_not] at g; try simp only [cmp_eq, cmp_ge, cmp_lt, cmp_gt, cmp_le, Int.cast_ofNat_Int] at g
              conv => whnf
              refine ⟨(by first | assumption | rfl), by omega, ?_⟩
              try simp (disch := omega) only [Int.cast_ofNat_Int, up_s, up_a, up_i, mp_a, mp_ge, cp_a]
              conv => whnf
              refine ⟨(by first | assumption | rfl), ?_⟩
              try simp (disch := omega) only [Int.cast_ofNat_Int, up_s, up_a, up_i, mp_a, mp_ge, cp_a]
              conv => whnf
              refine ⟨fun g => ?_, fun g => ?_⟩
              · exact absurd g (by simp [sx_cc])
              · skip
                conv => whnf
                first | (rw [up_id (by omega)]; exact h1 0 ⟨by omega, by omega⟩ (fun z => absurd z (by omega))) | exact h0 (by omega) ⟨by omega, by first | (rw [show fAbs a = a by omega]; omega) | (rw [show fAbs a = -a by omega]; omega)⟩ | (rw [up_id (by omega)]; exact h1 (a * b) (pBig_no (fun z => by first | exact z.1 (by omega) | (have z2 := z.2; have e0 : b = 0 := (by omega); rw [e0] at z2; have z3 := tm_bd (show (0 : Int) ≤ 1000000000000 by omega) (show 0 < fAbs a by have := z.1; omega); have z4 : fAbs 0 = 0 := rfl; omega) | (have z2 := z.2; rw [show fAbs a = a by omega] at z2; omega) | (have z2 := z.2; rw [show fAbs a = -a by omega] at z2; omega))) (fun _ => ⟨(fun z => by first | exact z.1 (by omega) | (have z2 := z.2; have e0 : b = 0 := (by omega); rw [e0] at z2; have z3 := tm_bd (show (0 : Int) ≤ 1000000000000 by omega) (show 0 < fAbs a by have := z.1; omega); have z4 : fAbs 0 = 0 := rfl; omega) | (have z2 := z.2; rw [show fAbs a = a by omega] at z2; omega) | (have z2 := z.2; rw [show fAbs a = -a by omega] at z2; omega)), rfl⟩))
            · simp only [sx_cc, Classical.not_not] at g; try simp only [cmp_eq, cmp_ge, cmp_lt, cmp_gt, cmp_le, Int.cast_ofNat_Int] at g
              conv => whnf
              refine ⟨fun g => ?_, fun g => ?_⟩
              · exact absurd g (by simp [sx_cc])
              · skip
                conv => whnf
                refine ⟨(by first | assumption | rfl), by omega, ?_⟩
                try simp (disch := omega) only [Int.cast_ofNat_Int, up_s, up_a, up_i, mp_a, mp_ge, cp_a]
                conv => whnf
                refine ⟨(by first | assumption | rfl), ?_⟩
                try simp (disch := omega) only [Int.cast_ofNat_Int, up_s, up_a, up_i, mp_a, mp_ge, cp_a]
                conv => whnf
                refine ⟨fun g => ?_, fun g => ?_⟩
                · exact absurd g (by simp [sx_cc])
                · skip
                  conv => whnf
                  first | (rw [up_id (by omega)]; exact h1 0 ⟨by omega, by omega⟩ (fun z => absurd z (by omega))) | exact h0 (by omega) ⟨by omega, by first | (rw [show fAbs a = a by omega]; omega) | (rw [show fAbs a = -a by omega]; omega)⟩ | (rw [up_id (by omega)]; exact h1 (a * b) (pBig_no (fun z => by first | exact z.1 (by omega) | (have z2 := z.2; have e0 : b = 0 := (by omega); rw [e0] at z2; have z3 := tm_bd (show (0 : Int) ≤ 1000000000000 by omega) (show 0 < fAbs a by have := z.1; omega); have z4 : fAbs 0 = 0 := rfl; omega) | (have z2 := z.2; rw [show fAbs a = a by omega] at z2; omega) | (have z2 := z.2; rw [show fAbs a = -a by omega] at z2; omega))) (fun _ => ⟨(fun z => by first | exact z.1 (by omega) | (have z2 := z.2; have e0 : b = 0 := (by omega); rw [e0] at z2; have z3 := tm_bd (show (0 : Int) ≤ 1000000000000 by omega) (show 0 < fAbs a by have := z.1; omega); have z4 : fAbs 0 = 0 := rfl; omega) | (have z2 := z.2; rw [show fAbs a = a by omega] at z2; omega) | (have z2 := z.2; rw [show fAbs a = -a by omega] at z2; omega)), rfl⟩))
      · simp only [sx_cc, Classical.not_not] at g; try simp only [cmp_eq, cmp_ge, cmp_lt, cmp_gt, cmp_le, Int.cast_ofNat_Int] at g
        conv => whnf
        refine ⟨(by first | exact ⟨by omega, by omega⟩ | exact pB64 (pBig_no (fun z => by first | exact z.1 (by omega) | (have z2 := z.2; have e0 : b = 0 := (by omega); rw [e0] at z2; have z3 := tm_bd (show (0 : Int) ≤ 1000000000000 by omega) (show 0 < fAbs a by have := z.1; omega); have z4 : fAbs 0 = 0 := rfl; omega) | (have z2 := z.2; rw [show fAbs a = a by omega] at z2; omega) | (have z2 := z.2; rw [show fAbs a = -a by omega] at z2; omega)))), ?_⟩
        conv => whnf
        refine ⟨fun g => ?_, fun g => ?_⟩
        · simp only [sx_cc, Classical.not_not] at g; try simp only [cmp_eq, cmp_ge, cmp_lt, cmp_gt, cmp_le, Int.cast_ofNat_Int] at g
          conv => whnf
          refine ⟨by omega, (show sx_r64 _ from (by first | (have htd := tm_bd (show (0 : Int) ≤ 1000000000000 by omega) (show 0 < a by omega); exact ⟨by show -9223372036854775808 ≤ (1000000000000 : Int).tdiv a; omega, by show (1000000000000 : Int).tdiv a ≤ 9223372036854775807; omega⟩) | (have htd := tm_bd (show (0 : Int) ≤ 1000000000000 by omega) (show 0 < -a by omega); exact ⟨by show -9223372036854775808 ≤ (1000000000000 : Int).tdiv (-a); omega, by show (1000000000000 : Int).tdiv (-a) ≤ 9223372036854775807; omega⟩))), ?_⟩
          conv => whnf
          refine ⟨fun g => ?_, fun g => ?_⟩
          · simp only [sx_cc, Classical.not_not] at g; try simp only [cmp_eq, cmp_ge, cmp_lt, cmp_gt, cmp_le, Int.cast_ofNat_Int] at g
            conv => whnf
            refine ⟨(by first | assumption | rfl), ?_⟩
            try simp (disch := omega) only [Int.cast_ofNat_Int, up_s, up_a, up_i, mp_a, mp_ge, cp_a]
            conv => whnf
            refine ⟨fun g => ?_, fun g => ?_⟩
            · simp only [sx_cc, Classical.not_not] at g; try simp only [cmp_eq, cmp_ge, cmp_lt, cmp_gt, cmp_le, Int.cast_ofNat_Int] at g
              conv => whnf
              refine ⟨(by first | assumption | rfl), by omega, ?_⟩
              try simp (disch := omega) only [Int.cast_ofNat_Int, up_s, up_a, up_i, mp_a, mp_ge, cp_a]
              conv => whnf
              refine ⟨(by first | assumption | rfl), ?_⟩
              try simp (disch := omega) only [Int.cast_ofNat_Int, up_s, up_a, up_i, mp_a, mp_ge, cp_a]
              conv => whnf
              refine ⟨fun g => ?_, fun g => ?_⟩
              · exact absurd g (by simp [sx_cc])
              · skip
                conv => whnf
                first | (rw [up_id (by omega)]; exact h1 0 ⟨by omega, by omega⟩ (fun z => absurd z (by omega))) | exact h0 (by omega) ⟨by omega, by first | (rw [show fAbs a = a by omega]; omega) | (rw [show fAbs a = -a by omega]; omega)⟩ | (rw [up_id (by omega)]; exact h1 (a * b) (pBig_no (fun z => by first | exact z.1 (by omega) | (have z2 := z.2; have e0 : b = 0 := (by omega); rw [e0] at z2; have z3 := tm_bd (show (0 : Int) ≤ 1000000000000 by omega) (show 0 < fAbs a by have := z.1; omega); have z4 : fAbs 0 = 0 := rfl; omega) | (have z2 := z.2; rw [show fAbs a = a by omega] at z2; omega) | (have z2 := z.2; rw [show fAbs a = -a by omega] at z2; omega))) (fun _ => ⟨(fun z => by first | exact z.1 (by omega) | (have z2 := z.2; have e0 : b = 0 := (by omega); rw [e0] at z2; have z3 := tm_bd (show (0 : Int) ≤ 1000000000000 by omega) (show 0 < fAbs a by have := z.1; omega); have z4 : fAbs 0 = 0 := rfl; omega) | (have z2 := z.2; rw [show fAbs a = a by omega] at z2; omega) | (have z2 := z.2; rw [show fAbs a = -a by omega] at z2; omega)), rfl⟩))
            · simp only [sx_cc, Classical.not_not] at g; try simp only [cmp_eq, cmp_ge, cmp_lt, cmp_gt, cmp_le, Int.cast_ofNat_Int] at g
              conv => whnf
              refine ⟨fun g => ?_, fun g => ?_⟩
              · skip
                conv => whnf
                refine ⟨(by first | assumption | rfl), by omega, ?_⟩
                try simp (disch := omega) only [Int.cast_ofNat_Int, up_s, up_a, up_i, mp_a, mp_ge, cp_a]
                conv => whnf
                refine ⟨(by first | assumption | rfl), ?_⟩
                try simp (disch := omega) only [Int.cast_ofNat_Int, up_s, up_a, up_i, mp_a, mp_ge, cp_a]
                conv => whnf
                refine ⟨fun g => ?_, fun g => ?_⟩
                · skip
                  conv => whnf
                  refine ⟨(by first | exact ⟨by omega, by omega⟩ | exact pB64 (pBig_no (fun z => by first | exact z.1 (by omega) | (have z2 := z.2; have e0 : b = 0 := (by omega); rw [e0] at z2; have z3 := tm_bd (show (0 : Int) ≤ 1000000000000 by omega) (show 0 < fAbs a by have := z.1; omega); have z4 : fAbs 0 = 0 := rfl; omega) | (have z2 := z.2; rw [show fAbs a = a by omega] at z2; omega) | (have z2 := z.2; rw [show fAbs a = -a by omega] at z2; omega)))), ?_⟩
                  conv => whnf
                  first | (rw [up_id (by omega)]; exact h1 0 ⟨by omega, by omega⟩ (fun z => absurd z (by omega))) | exact h0 (by omega) ⟨by omega, by first | (rw [show fAbs a = a by omega]; omega) | (rw [show fAbs a = -a by omega]; omega)⟩ | (rw [up_id (by omega)]; exact h1 (a * b) (pBig_no (fun z => by first | exact z.1 (by omega) | (have z2 := z.2; have e0 : b = 0 := (by omega); rw [e0] at z2; have z3 := tm_bd (show (0 : Int) ≤ 1000000000000 by omega) (show 0 < fAbs a by have := z.1; omega); have z4 : fAbs 0 = 0 := rfl; omega) | (have z2 := z.2; rw [show fAbs a = a by omega] at z2; omega) | (have z2 := z.2; rw [show fAbs a = -a by omega] at z2; omega))) (fun _ => ⟨(fun z => by first | exact z.1 (by omega) | (have z2 := z.2; have e0 : b = 0 := (by omega); rw [e0] at z2; have z3 := tm_bd (show (0 : Int) ≤ 1000000000000 by omega) (show 0 < fAbs a by have := z.1; omega); have z4 : fAbs 0 = 0 := rfl; omega) | (have z2 := z.2; rw [show fAbs a = a by omega] at z2; omega) | (have z2 := z.2; rw [show fAbs a = -a by omega] at z2; omega)), rfl⟩))
                · exact absurd g (by simp [sx_cc])
              · exact absurd g (by simp [sx_cc])
          · simp only [sx_cc, Classical.not_not] at g; try simp only [cmp_eq, cmp_ge, cmp_lt, cmp_gt, cmp_le, Int.cast_ofNat_Int] at g
            conv => whnf
            refine ⟨(by first | assumption | rfl), ?_⟩
            try simp (disch := omega) only [Int.cast_ofNat_Int, up_s, up_a, up_i, mp_a, mp_ge, cp_a]
            conv => whnf
            refine ⟨fun g => ?_, fun g => ?_⟩
            · simp only [sx_cc, Classical.not_not] at g; try simp only [cmp_eq, cmp_ge, cmp_lt, cmp_gt, cmp_le, Int.cast_ofNat_Int] at g
              conv => whnf
              refine ⟨(by first | assumption | rfl), by omega, ?_⟩
              try simp (disch := omega) only [Int.cast_ofNat_Int, up_s, up_a, up_i, mp_a, mp_ge, cp_a]
              conv => whnf
              refine ⟨(by first | assumption | rfl), ?_⟩
              try simp (disch := omega) only [Int.cast_ofNat_Int, up_s, up_a, up_i, mp_a, mp_ge, cp_a]
              conv => whnf
              refine ⟨fun g => ?_, fun g => ?_⟩
              · exact absurd g (by simp [sx_cc])
              · skip
                conv => whnf
                first | (rw [up_id (by omega)]; exact h1 0 ⟨by omega, by omega⟩ (fun z => absurd z (by omega))) | exact h0 (by omega) ⟨by omega, by first | (rw [show fAbs a = a by omega]; omega) | (rw [show fAbs a = -a by omega]; omega)⟩ | (rw [up_id (by omega)]; exact h1 (a * b) (pBig_no (fun z => by first | exact z.1 (by omega) | (have z2 := z.2; have e0 : b = 0 := (by omega); rw [e0] at z2; have z3 := tm_bd (show (0 : Int) ≤ 1000000000000 by omega) (show 0 < fAbs a by have := z.1; omega); have z4 : fAbs 0 = 0 := rfl; omega) | (have z2 := z.2; rw [show fAbs a = a by omega] at z2; omega) | (have z2 := z.2; rw [show fAbs a = -a by omega] at z2; omega))) (fun _ => ⟨(fun z => by first | exact z.1 (by omega) | (have z2 := z.2; have e0 : b = 0 := (by omega); rw [e0] at z2; have z3 := tm_bd (show (0 : Int) ≤ 1000000000000 by omega) (show 0 < fAbs a by have := z.1; omega); have z4 : fAbs 0 = 0 := rfl; omega) | (have z2 := z.2; rw [show fAbs a = a by omega] at z2; omega) | (have z2 := z.2; rw [show fAbs a = -a by omega] at z2; omega)), rfl⟩))
            · simp only [sx_cc, Classical.not_not] at g; try simp only [cmp_eq, cmp_ge, cmp_lt, cmp_gt, cmp_le, Int.cast_ofNat_Int] at g
              conv => whnf
              refine ⟨fun g => ?_, fun g => ?_⟩
              · exact absurd g (by simp [sx_cc])
              · skip
                conv => whnf
                refine ⟨(by first | assumption | rfl), by omega, ?_⟩
                try simp (disch := omega) only [Int.cast_ofNat_Int, up_s, up_a, up_i, mp_a, mp_ge, cp_a]
                conv => whnf
                refine ⟨(by first | assumption | rfl), ?_⟩
                try simp (disch := omega) only [Int.cast_ofNat_Int, up_s, up_a, up_i, mp_a, mp_ge, cp_a]
                conv => whnf
                refine ⟨fun g => ?_, fun g => ?_⟩
                · exact absurd g (by simp [sx_cc])
                · skip
                  conv => whnf
                  first | (rw [up_id (by omega)]; exact h1 0 ⟨by omega, by omega⟩ (fun z => absurd z (by omega))) | exact h0 (by omega) ⟨by omega, by first | (rw [show fAbs a = a by omega]; omega) | (rw [show fAbs a = -a by omega]; omega)⟩ | (rw [up_id (by omega)]; exact h1 (a * b) (pBig_no (fun z => by first | exact z.1 (by omega) | (have z2 := z.2; have e0 : b = 0 := (by omega); rw [e0] at z2; have z3 := tm_bd (show (0 : Int) ≤ 1000000000000 by omega) (show 0 < fAbs a by have := z.1; omega); have z4 : fAbs 0 = 0 := rfl; omega) | (have z2 := z.2; rw [show fAbs a = a by omega] at z2; omega) | (have z2 := z.2; rw [show fAbs a = -a by omega] at z2; omega))) (fun _ => ⟨(fun z => by first | exact z.1 (by omega) | (have z2 := z.2; have e0 : b = 0 := (by omega); rw [e0] at z2; have z3 := tm_bd (show (0 : Int) ≤ 1000000000000 by omega) (show 0 < fAbs a by have := z.1; omega); have z4 : fAbs 0 = 0 := rfl; omega) | (have z2 := z.2; rw [show fAbs a = a by omega] at z2; omega) | (have z2 := z.2; rw [show fAbs a = -a by omega] at z2; omega)), rfl⟩))
        · simp only [sx_cc, Classical.not_not] at g; try simp only [cmp_eq, cmp_ge, cmp_lt, cmp_gt, cmp_le, Int.cast_ofNat_Int] at g
          conv => whnf
          refine ⟨(by first | exact ⟨by omega, by omega⟩ | exact pB64 (pBig_no (fun z => by first | exact z.1 (by omega) | (have z2 := z.2; have e0 : b = 0 := (by omega); rw [e0] at z2; have z3 := tm_bd (show (0 : Int) ≤ 1000000000000 by omega) (show 0 < fAbs a by have := z.1; omega); have z4 : fAbs 0 = 0 := rfl; omega) | (have z2 := z.2; rw [show fAbs a = a by omega] at z2; omega) | (have z2 := z.2; rw [show fAbs a = -a by omega] at z2; omega)))), ?_⟩
          conv => whnf
          refine ⟨by omega, (show sx_r64 _ from (by first | (have htd := tm_bd (show (0 : Int) ≤ 1000000000000 by omega) (show 0 < a by omega); exact ⟨by show -9223372036854775808 ≤ (1000000000000 : Int).tdiv a; omega, by show (1000000000000 : Int).tdiv a ≤ 9223372036854775807; omega⟩) | (have htd := tm_bd (show (0 : Int) ≤ 1000000000000 by omega) (show 0 < -a by omega); exact ⟨by show -9223372036854775808 ≤ (1000000000000 : Int).tdiv (-a); omega, by show (1000000000000 : Int).tdiv (-a) ≤ 9223372036854775807; omega⟩))), ?_⟩
          conv => whnf
          refine ⟨fun g => ?_, fun g => ?_⟩
          · simp only [sx_cc, Classical.not_not] at g; try simp only [cmp_eq, cmp_ge, cmp_lt, cmp_gt, cmp_le, Int.cast_ofNat_Int] at g
            conv => whnf
            refine ⟨(by first | assumption | rfl), ?_⟩
            try simp (disch := omega) only [Int.cast_ofNat_Int, up_s, up_a, up_i, mp_a, mp_ge, cp_a]
            conv => whnf
            refine ⟨fun g => ?_, fun g => ?_⟩
            · simp only [sx_cc, Classical.not_not] at g; try simp only [cmp_eq, cmp_ge, cmp_lt, cmp_gt, cmp_le, Int.cast_ofNat_Int] at g
              conv => whnf
              refine ⟨(by first | assumption | rfl), by omega, ?_⟩
              try simp (disch := omega) only [Int.cast_ofNat_Int, up_s, up_a, up_i, mp_a, mp_ge, cp_a]
              conv => whnf
              refine ⟨(by first | assumption | rfl), ?_⟩
              try simp (disch := omega) only [Int.cast_ofNat_Int, up_s, up_a, up_i, mp_a, mp_ge, cp_a]
              conv => whnf
              refine ⟨fun g => ?_, fun g => ?_⟩
              · exact absurd g (by simp [sx_cc])
              · skip
                conv => whnf
                first | (rw [up_id (by omega)]; exact h1 0 ⟨by omega, by omega⟩ (fun z => absurd z (by omega))) | exact h0 (by omega) ⟨by omega, by first | (rw [show fAbs a = a by omega]; omega) | (rw [show fAbs a = -a by omega]; omega)⟩ | (rw [up_id (by omega)]; exact h1 (a * b) (pBig_no (fun z => by first | exact z.1 (by omega) | (have z2 := z.2; have e0 : b = 0 := (by omega); rw [e0] at z2; have z3 := tm_bd (show (0 : Int) ≤ 1000000000000 by omega) (show 0 < fAbs a by have := z.1; omega); have z4 : fAbs 0 = 0 := rfl; omega) | (have z2 := z.2; rw [show fAbs a = a by omega] at z2; omega) | (have z2 := z.2; rw [show fAbs a = -a by omega] at z2; omega))) (fun _ => ⟨(fun z => by first | exact z.1 (by omega) | (have z2 := z.2; have e0 : b = 0 := (by omega); rw [e0] at z2; have z3 := tm_bd (show (0 : Int) ≤ 1000000000000 by omega) (show 0 < fAbs a by have := z.1; omega); have z4 : fAbs 0 = 0 := rfl; omega) | (have z2 := z.2; rw [show fAbs a = a by omega] at z2; omega) | (have z2 := z.2; rw [show fAbs a = -a by omega] at z2; omega)), rfl⟩))
            · simp only [sx_cc, Classical.not_not] at g; try simp only [cmp_eq, cmp_ge, cmp_lt, cmp_gt, cmp_le, Int.cast_ofNat_Int] at g
              conv => whnf
              refine ⟨fun g => ?_, fun g => ?_⟩
              · skip
                conv => whnf
                refine ⟨(by first | assumption | rfl), by omega, ?_⟩
                try simp (disch := omega) only [Int.cast_ofNat_Int, up_s, up_a, up_i, mp_a, mp_ge, cp_a]
                conv => whnf
                refine ⟨(by first | assumption | rfl), ?_⟩
                try simp (disch := omega) only [Int.cast_ofNat_Int, up_s, up_a, up_i, mp_a, mp_ge, cp_a]
                conv => whnf
                refine ⟨fun g => ?_, fun g => ?_⟩
                · skip
                  conv => whnf
                  refine ⟨(by first | exact ⟨by omega, by omega⟩ | exact pB64 (pBig_no (fun z => by first | exact z.1 (by omega) | (have z2 := z.2; have e0 : b = 0 := (by omega); rw [e0] at z2; have z3 := tm_bd (show (0 : Int) ≤ 1000000000000 by omega) (show 0 < fAbs a by have := z.1; omega); have z4 : fAbs 0 = 0 := rfl; omega) | (have z2 := z.2; rw [show fAbs a = a by omega] at z2; omega) | (have z2 := z.2; rw [show fAbs a = -a by omega] at z2; omega)))), ?_⟩
                  conv => whnf
                  first | (rw [up_id (by omega)]; exact h1 0 ⟨by omega, by omega⟩ (fun z => absurd z (by omega))) | exact h0 (by omega) ⟨by omega, by first | (rw [show fAbs a = a by omega]; omega) | (rw [show fAbs a = -a by omega]; omega)⟩ | (rw [up_id (by omega)]; exact h1 (a * b) (pBig_no (fun z => by first | exact z.1 (by omega) | (have z2 := z.2; have e0 : b = 0 := (by omega); rw [e0] at z2; have z3 := tm_bd (show (0 : Int) ≤ 1000000000000 by omega) (show 0 < fAbs a by have := z.1; omega); have z4 : fAbs 0 = 0 := rfl; omega) | (have z2 := z.2; rw [show fAbs a = a by omega] at z2; omega) | (have z2 := z.2; rw [show fAbs a = -a by omega] at z2; omega))) (fun _ => ⟨(fun z => by first | exact z.1 (by omega) | (have z2 := z.2; have e0 : b = 0 := (by omega); rw [e0] at z2; have z3 := tm_bd (show (0 : Int) ≤ 1000000000000 by omega) (show 0 < fAbs a by have := z.1; omega); have z4 : fAbs 0 = 0 := rfl; omega) | (have z2 := z.2; rw [show fAbs a = a by omega] at z2; omega) | (have z2 := z.2; rw [show fAbs a = -a by omega] at z2; omega)), rfl⟩))
                · exact absurd g (by simp [sx_cc])
              · exact absurd g (by simp [sx_cc])
          · simp only [sx_cc, Classical.not_not] at g; try simp only [cmp_eq, cmp_ge, cmp_lt, cmp_gt, cmp_le, Int.cast_ofNat_Int] at g
            conv => whnf
            refine ⟨(by first | assumption | rfl), ?_⟩
            try simp (disch := omega) only [Int.cast_ofNat_Int, up_s, up_a, up_i, mp_a, mp_ge, cp_a]
            conv => whnf
            refine ⟨fun g => ?_, fun g => ?_⟩
            · simp only [sx_cc, Classical.not_not] at g; try simp only [cmp_eq, cmp_ge, cmp_lt, cmp_gt, cmp_le, Int.cast_ofNat_Int] at g
              conv => whnf
              refine ⟨(by first | assumption | rfl), by omega, ?_⟩
              try simp (disch := omega) only [Int.cast_ofNat_Int, up_s, up_a, up_i, mp_a, mp_ge, cp_a]
              conv => whnf
              refine ⟨(by first | assumption | rfl), ?_⟩
              try simp (disch := omega) only [Int.cast_ofNat_Int, up_s, up_a, up_i, mp_a, mp_ge, cp_a]
              conv => whnf
              refine ⟨fun g => ?_, fun g => ?_⟩
              · exact absurd g (by simp [sx_cc])
              · skip
                conv => whnf
                first | (rw [up_id (by omega)]; exact h1 0 ⟨by omega, by omega⟩ (fun z => absurd z (by omega))) | exact h0 (by omega) ⟨by omega, by first | (rw [show fAbs a = a by omega]; omega) | (rw [show fAbs a = -a by omega]; omega)⟩ | (rw [up_id (by omega)]; exact h1 (a * b) (pBig_no (fun z => by first | exact z.1 (by omega) | (have z2 := z.2; have e0 : b = 0 := (by omega); rw [e0] at z2; have z3 := tm_bd (show (0 : Int) ≤ 1000000000000 by omega) (show 0 < fAbs a by have := z.1; omega); have z4 : fAbs 0 = 0 := rfl; omega) | (have z2 := z.2; rw [show fAbs a = a by omega] at z2; omega) | (have z2 := z.2; rw [show fAbs a = -a by omega] at z2; omega))) (fun _ => ⟨(fun z => by first | exact z.1 (by omega) | (have z2 := z.2; have e0 : b = 0 := (by omega); rw [e0] at z2; have z3 := tm_bd (show (0 : Int) ≤ 1000000000000 by omega) (show 0 < fAbs a by have := z.1; omega); have z4 : fAbs 0 = 0 := rfl; omega) | (have z2 := z.2; rw [show fAbs a = a by omega] at z2; omega) | (have z2 := z.2; rw [show fAbs a = -a by omega] at z2; omega)), rfl⟩))
            · simp only [sx_cc, Classical.not_not] at g; try simp only [cmp_eq, cmp_ge, cmp_lt, cmp_gt, cmp_le, Int.cast_ofNat_Int] at g
              conv => whnf
              refine ⟨fun g => ?_, fun g => ?_⟩
              · exact absurd g (by simp [sx_cc])
              · skip
                conv => whnf
                refine ⟨(by first | assumption | rfl), by omega, ?_⟩
                try simp (disch := omega) only [Int.cast_ofNat_Int, up_s, up_a, up_i, mp_a, mp_ge, cp_a]
                conv => whnf
                refine ⟨(by first | assumption | rfl), ?_⟩
                try simp (disch := omega) only [Int.cast_ofNat_Int, up_s, up_a, up_i, mp_a, mp_ge, cp_a]
                conv => whnf
                refine ⟨fun g => ?_, fun g => ?_⟩
                · exact absurd g (by simp [sx_cc])
                · skip
                  conv => whnf
                  first | (rw [up_id (by omega)]; exact h1 0 ⟨by omega, by omega⟩ (fun z => absurd z (by omega))) | exact h0 (by omega) ⟨by omega, by first | (rw [show fAbs a = a by omega]; omega) | (rw [show fAbs a = -a by omega]; omega)⟩ | (rw [up_id (by omega)]; exact h1 (a * b) (pBig_no (fun z => by first | exact z.1 (by omega) | (have z2 := z.2; have e0 : b = 0 := (by omega); rw [e0] at z2; have z3 := tm_bd (show (0 : Int) ≤ 1000000000000 by omega) (show 0 < fAbs a by have := z.1; omega); have z4 : fAbs 0 = 0 := rfl; omega) | (have z2 := z.2; rw [show fAbs a = a by omega] at z2; omega) | (have z2 := z.2; rw [show fAbs a = -a by omega] at z2; omega))) (fun _ => ⟨(fun z => by first | exact z.1 (by omega) | (have z2 := z.2; have e0 : b = 0 := (by omega); rw [e0] at z2; have z3 := tm_bd (show (0 : Int) ≤ 1000000000000 by omega) (show 0 < fAbs a by have := z.1; omega); have z4 : fAbs 0 = 0 := rfl; omega) | (have z2 := z.2; rw [show fAbs a = a by omega] at z2; omega) | (have z2 := z.2; rw [show fAbs a = -a by omega] at z2; omega)), rfl⟩))
end SXK2
