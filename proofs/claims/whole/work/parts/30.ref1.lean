/-! THE REFERENCE: cells, reading, trails (by wip/whole) -/
section SXR1
variable {X : sx_X} {σ : sx_S} {Q : sx_R}
def RD (σ : sx_S) : Prop := 1 ≤ σ 124 12 ∧ σ 124 12 ≤ 8 ∧ 1 ≤ σ 124 13 ∧ σ 124 13 ≤ 6
theorem RD.mul {σ : sx_S} (h : RD σ) : 1 ≤ σ 124 12 * σ 124 13 ∧ σ 124 12 * σ 124 13 ≤ 48 := wh_bd h
theorem fAbs_neg (x : Int) : fAbs (-x) = fAbs x := by unfold fAbs; split <;> split <;> omega
theorem fFar_comm (w a b : Int) : fFar w a b = fFar w b a := by
  unfold fFar
  rw [← fAbs_neg (a.tmod w - b.tmod w), ← fAbs_neg (a.tdiv w - b.tdiv w), Int.neg_sub, Int.neg_sub]
set_option maxRecDepth 20000 in
theorem c_Rcells (hd : RD σ) (h : Q (some (.inl (σ 124 12 * σ 124 13))) shM σ) : sx_Run X 218 [.inr (.inr 124)] shM σ Q := by
  have hw := hd.mul
  refine sx_rule0 (own := 12) (cd := kX12_cells) (nL := 1) (by decide +kernel) (by decide +kernel) kX12_cells_ok (by decide +kernel) (Nat.le_of_ble_eq_true rfl) 40 ?_
  conv => whnf
  refine ⟨(by first | assumption | rfl), ?_⟩
  try simp (disch := omega) only [Int.cast_ofNat_Int, up_s, up_a, up_i, mp_a, mp_ge, cp_a]
  conv => whnf
  refine ⟨(by first | assumption | rfl), ?_⟩
  try simp (disch := omega) only [Int.cast_ofNat_Int, up_s, up_a, up_i, mp_a, mp_ge, cp_a]
  conv => whnf
  refine ⟨⟨by omega, by omega⟩, ?_⟩
  conv => whnf
  refine ⟨fun q9 => by first | (simp at q9; done) | omega, ?_⟩
  exact h
set_option maxRecDepth 20000 in
theorem c_Riscell (hd : RD σ) {c : Int} (h1 : 0 ≤ c → c < σ 124 12 * σ 124 13 → Q (some (.inl 1)) shM σ) (h0 : ¬ (0 ≤ c ∧ c < σ 124 12 * σ 124 13) → Q (some (.inl 0)) shM σ) : sx_Run X 219 [.inr (.inr 124), .inl c] shM σ Q := by
  refine sx_rule0 (own := 12) (cd := kX12_isCell) (nL := 2) (by decide +kernel) (by decide +kernel) kX12_isCell_ok (by decide +kernel) (Nat.le_of_ble_eq_true rfl) 40 ?_
  conv => whnf
  refine ⟨fun g => ?_, fun g => ?_⟩
  · simp only [sx_cc, Classical.not_not] at g
    conv => whnf
    refine ⟨fun q9 => by first | (simp at q9; done) | omega, ?_⟩
    first | exact h1 (by omega) (by omega) | exact h0 (by omega)
  · simp only [sx_cc, Classical.not_not] at g
    conv => whnf
    refine ⟨Nat.le_of_ble_eq_true rfl, Nat.le_of_ble_eq_true rfl, (by first | assumption | rfl), ?_⟩
    refine c_Rcells hd ?_
    conv => whnf
    refine ⟨fun g => ?_, fun g => ?_⟩
    · simp only [sx_cc, Classical.not_not] at g
      conv => whnf
      refine ⟨fun q9 => by first | (simp at q9; done) | omega, ?_⟩
      first | exact h1 (by omega) (by omega) | exact h0 (by omega)
    · simp only [sx_cc, Classical.not_not] at g
      conv => whnf
      refine ⟨fun q9 => by first | (simp at q9; done) | omega, ?_⟩
      first | exact h1 (by omega) (by omega) | exact h0 (by omega)
set_option maxRecDepth 20000 in
theorem c_Riswalker {c : Int} (h1 : 0 ≤ c → c < σ 124 15 → Q (some (.inl 1)) shM σ) (h0 : ¬ (0 ≤ c ∧ c < σ 124 15) → Q (some (.inl 0)) shM σ) : sx_Run X 220 [.inr (.inr 124), .inl c] shM σ Q := by
  refine sx_rule0 (own := 12) (cd := kX12_isWalker) (nL := 2) (by decide +kernel) (by decide +kernel) kX12_isWalker_ok (by decide +kernel) (Nat.le_of_ble_eq_true rfl) 40 ?_
  conv => whnf
  refine ⟨fun g => ?_, fun g => ?_⟩
  · simp only [sx_cc, Classical.not_not] at g
    conv => whnf
    refine ⟨fun q9 => by first | (simp at q9; done) | omega, ?_⟩
    first | exact h1 (by omega) (by omega) | exact h0 (by omega)
  · simp only [sx_cc, Classical.not_not] at g
    conv => whnf
    refine ⟨(by first | assumption | rfl), ?_⟩
    try simp (disch := omega) only [Int.cast_ofNat_Int, up_s, up_a, up_i, mp_a, mp_ge, cp_a]
    conv => whnf
    refine ⟨fun g => ?_, fun g => ?_⟩
    · simp only [sx_cc, Classical.not_not] at g
      conv => whnf
      refine ⟨fun q9 => by first | (simp at q9; done) | omega, ?_⟩
      first | exact h1 (by omega) (by omega) | exact h0 (by omega)
    · simp only [sx_cc, Classical.not_not] at g
      conv => whnf
      refine ⟨fun q9 => by first | (simp at q9; done) | omega, ?_⟩
      first | exact h1 (by omega) (by omega) | exact h0 (by omega)
set_option maxRecDepth 20000 in
theorem c_Risfarm {c : Int} (h1 : 0 ≤ c → c < σ 124 14 → Q (some (.inl 1)) shM σ) (h0 : ¬ (0 ≤ c ∧ c < σ 124 14) → Q (some (.inl 0)) shM σ) : sx_Run X 221 [.inr (.inr 124), .inl c] shM σ Q := by
  refine sx_rule0 (own := 12) (cd := kX12_isFarm) (nL := 2) (by decide +kernel) (by decide +kernel) kX12_isFarm_ok (by decide +kernel) (Nat.le_of_ble_eq_true rfl) 40 ?_
  conv => whnf
  refine ⟨fun g => ?_, fun g => ?_⟩
  · simp only [sx_cc, Classical.not_not] at g
    conv => whnf
    refine ⟨fun q9 => by first | (simp at q9; done) | omega, ?_⟩
    first | exact h1 (by omega) (by omega) | exact h0 (by omega)
  · simp only [sx_cc, Classical.not_not] at g
    conv => whnf
    refine ⟨(by first | assumption | rfl), ?_⟩
    try simp (disch := omega) only [Int.cast_ofNat_Int, up_s, up_a, up_i, mp_a, mp_ge, cp_a]
    conv => whnf
    refine ⟨fun g => ?_, fun g => ?_⟩
    · simp only [sx_cc, Classical.not_not] at g
      conv => whnf
      refine ⟨fun q9 => by first | (simp at q9; done) | omega, ?_⟩
      first | exact h1 (by omega) (by omega) | exact h0 (by omega)
    · simp only [sx_cc, Classical.not_not] at g
      conv => whnf
      refine ⟨fun q9 => by first | (simp at q9; done) | omega, ?_⟩
      first | exact h1 (by omega) (by omega) | exact h0 (by omega)
set_option maxRecDepth 20000 in
theorem c_Rismark (hT : PT σ) {c : Int} (h1 : 0 ≤ c → c < σ 154 0 → Q (some (.inl 1)) shM σ) (h0 : ¬ (0 ≤ c ∧ c < σ 154 0) → Q (some (.inl 0)) shM σ) : sx_Run X 222 [.inr (.inr 124), .inl c] shM σ Q := by
  have r30 := pt_124_30 hT
  have r31 := pt_124_31 hT
  have r32 := pt_124_32 hT
  have r33 := pt_124_33 hT
  have r34 := pt_124_34 hT
  have r35 := pt_124_35 hT
  have r36 := pt_124_36 hT
  have r37 := pt_124_37 hT
  have r38 := pt_124_38 hT
  have r57 := pt_124_57 hT
  have r58 := pt_124_58 hT
  have r59 := pt_124_59 hT
  have r60 := pt_124_60 hT
  have r61 := pt_124_61 hT
  have r62 := pt_124_62 hT
  have r63 := pt_124_63 hT
  have r64 := pt_124_64 hT
  have r65 := pt_124_65 hT
  have r66 := pt_124_66 hT
  have r67 := pt_124_67 hT
  have r68 := pt_124_68 hT
  have r69 := pt_124_69 hT
  have r70 := pt_124_70 hT
  have r71 := pt_124_71 hT
  refine sx_rule0 (own := 12) (cd := kX12_isMark) (nL := 2) (by decide +kernel) (by decide +kernel) kX12_isMark_ok (by decide +kernel) (Nat.le_of_ble_eq_true rfl) 40 ?_
  conv => whnf
  refine ⟨fun g => ?_, fun g => ?_⟩
  · simp only [sx_cc, Classical.not_not] at g
    conv => whnf
    refine ⟨fun q9 => by first | (simp at q9; done) | omega, ?_⟩
    first | exact h1 (by omega) (by omega) | exact h0 (by omega)
  · simp only [sx_cc, Classical.not_not] at g
    conv => whnf
    refine ⟨(by first | assumption | rfl), ?_⟩
    try simp (disch := omega) only [Int.cast_ofNat_Int, up_s, up_a, up_i, mp_a, mp_ge, cp_a, r30, r31, r32, r33, r34, r35, r36, r37, r38, r57, r58, r59, r60, r61, r62, r63, r64, r65, r66, r67, r68, r69, r70, r71]
    conv => whnf
    refine ⟨sx_ixI (by first | assumption | rfl) (by omega) (by omega), ?_⟩
    try simp (disch := omega) only [Int.cast_ofNat_Int, up_s, up_a, up_i, mp_a, mp_ge, cp_a, r30, r31, r32, r33, r34, r35, r36, r37, r38, r57, r58, r59, r60, r61, r62, r63, r64, r65, r66, r67, r68, r69, r70, r71]
    conv => whnf
    refine ⟨fun g => ?_, fun g => ?_⟩
    · simp only [sx_cc, Classical.not_not] at g
      conv => whnf
      refine ⟨fun q9 => by first | (simp at q9; done) | omega, ?_⟩
      first | exact h1 (by omega) (by omega) | exact h0 (by omega)
    · simp only [sx_cc, Classical.not_not] at g
      conv => whnf
      refine ⟨fun q9 => by first | (simp at q9; done) | omega, ?_⟩
      first | exact h1 (by omega) (by omega) | exact h0 (by omega)
set_option maxRecDepth 20000 in
theorem c_Risthere (hT : PT σ) (hn : 0 ≤ σ 154 0 ∧ σ 154 0 ≤ 90) {c : Int} (h1 : 0 ≤ c → c < σ 154 0 → 0 < σ 150 c → Q (some (.inl 1)) shM σ) (h0 : ¬ (0 ≤ c ∧ c < σ 154 0 ∧ 0 < σ 150 c) → Q (some (.inl 0)) shM σ) : sx_Run X 267 [.inr (.inr 124), .inl c] shM σ Q := by
  have r30 := pt_124_30 hT
  have r31 := pt_124_31 hT
  have r32 := pt_124_32 hT
  have r33 := pt_124_33 hT
  have r34 := pt_124_34 hT
  have r35 := pt_124_35 hT
  have r36 := pt_124_36 hT
  have r37 := pt_124_37 hT
  have r38 := pt_124_38 hT
  have r57 := pt_124_57 hT
  have r58 := pt_124_58 hT
  have r59 := pt_124_59 hT
  have r60 := pt_124_60 hT
  have r61 := pt_124_61 hT
  have r62 := pt_124_62 hT
  have r63 := pt_124_63 hT
  have r64 := pt_124_64 hT
  have r65 := pt_124_65 hT
  have r66 := pt_124_66 hT
  have r67 := pt_124_67 hT
  have r68 := pt_124_68 hT
  have r69 := pt_124_69 hT
  have r70 := pt_124_70 hT
  have r71 := pt_124_71 hT
  refine sx_rule0 (own := 12) (cd := kX12_isThere) (nL := 2) (by decide +kernel) (by decide +kernel) kX12_isThere_ok (by decide +kernel) (Nat.le_of_ble_eq_true rfl) 40 ?_
  conv => whnf
  refine ⟨Nat.le_of_ble_eq_true rfl, Nat.le_of_ble_eq_true rfl, (by first | assumption | rfl), ?_⟩
  refine c_Rismark hT (fun g1 g2 => ?_) (fun g0 => ?_)
  · skip
    conv => whnf
    refine ⟨fun g => ?_, fun g => ?_⟩
    · exact absurd g (by simp [sx_cc])
    · skip
      conv => whnf
      refine ⟨(by first | assumption | rfl), ?_⟩
      try simp (disch := omega) only [Int.cast_ofNat_Int, up_s, up_a, up_i, mp_a, mp_ge, cp_a, r30, r31, r32, r33, r34, r35, r36, r37, r38, r57, r58, r59, r60, r61, r62, r63, r64, r65, r66, r67, r68, r69, r70, r71]
      conv => whnf
      refine ⟨sx_ixI (by first | assumption | rfl) (by omega) (by omega), ?_⟩
      try simp (disch := omega) only [Int.cast_ofNat_Int, up_s, up_a, up_i, mp_a, mp_ge, cp_a, r30, r31, r32, r33, r34, r35, r36, r37, r38, r57, r58, r59, r60, r61, r62, r63, r64, r65, r66, r67, r68, r69, r70, r71]
      conv => whnf
      refine ⟨fun g => ?_, fun g => ?_⟩
      · simp only [sx_cc, Classical.not_not] at g
        conv => whnf
        refine ⟨fun q9 => by first | (simp at q9; done) | omega, ?_⟩
        first | exact h1 (by omega) (by omega) (by omega) | exact h0 (by omega)
      · simp only [sx_cc, Classical.not_not] at g
        conv => whnf
        refine ⟨fun q9 => by first | (simp at q9; done) | omega, ?_⟩
        first | exact h1 (by omega) (by omega) (by omega) | exact h0 (by omega)
  · skip
    conv => whnf
    refine ⟨fun g => ?_, fun g => ?_⟩
    · skip
      conv => whnf
      refine ⟨fun q9 => by first | (simp at q9; done) | omega, ?_⟩
      first | exact h1 (by omega) (by omega) (by omega) | exact h0 (by omega)
    · exact absurd g (by simp [sx_cc])
set_option maxRecDepth 20000 in
theorem c_Rfar (hd : RD σ) {a b : Int} (ha : 0 ≤ a ∧ a < 48) (hb : 0 ≤ b ∧ b < 48) (h : Q (some (.inl (fFar (σ 124 12) a b))) shM σ) : sx_Run X 227 [.inr (.inr 124), .inl a, .inl b] shM σ Q := by
  have e1 := tm_bd ha.1 (show 0 < σ 124 12 from hd.1)
  have e2 := tm_bd hb.1 (show 0 < σ 124 12 from hd.1)
  have d0 : σ 124 12 ≤ 8 := hd.2.1
  have d1 : 1 ≤ σ 124 12 := hd.1
  refine sx_rule0 (own := 12) (cd := kX12_far) (nL := 5) (by decide +kernel) (by decide +kernel) kX12_far_ok (by decide +kernel) (Nat.le_of_ble_eq_true rfl) 40 ?_
  conv => whnf
  refine ⟨(by first | assumption | rfl), ?_⟩
  try simp (disch := omega) only [Int.cast_ofNat_Int, up_s, up_a, up_i, mp_a, mp_ge, cp_a]
  conv => whnf
  refine ⟨by omega, (show sx_r32 _ from ⟨by omega, by omega⟩), ?_⟩
  conv => whnf
  refine ⟨(by first | assumption | rfl), ?_⟩
  try simp (disch := omega) only [Int.cast_ofNat_Int, up_s, up_a, up_i, mp_a, mp_ge, cp_a]
  conv => whnf
  refine ⟨by omega, (show sx_r32 _ from ⟨by omega, by omega⟩), ?_⟩
  conv => whnf
  refine ⟨⟨by omega, by omega⟩, ?_⟩
  conv => whnf
  refine ⟨(by first | assumption | rfl), ?_⟩
  try simp (disch := omega) only [Int.cast_ofNat_Int, up_s, up_a, up_i, mp_a, mp_ge, cp_a]
  conv => whnf
  refine ⟨by omega, (show sx_r32 _ from ⟨by omega, by omega⟩), ?_⟩
  conv => whnf
  refine ⟨(by first | assumption | rfl), ?_⟩
  try simp (disch := omega) only [Int.cast_ofNat_Int, up_s, up_a, up_i, mp_a, mp_ge, cp_a]
  conv => whnf
  refine ⟨by omega, (show sx_r32 _ from ⟨by omega, by omega⟩), ?_⟩
  conv => whnf
  refine ⟨⟨by omega, by omega⟩, ?_⟩
  conv => whnf
  refine ⟨fun g => ?_, fun g => ?_⟩
  · simp only [sx_cc, Classical.not_not] at g
    conv => whnf
    refine ⟨fun g => ?_, fun g => ?_⟩
    · simp only [sx_cc, Classical.not_not] at g
      conv => whnf
      refine ⟨⟨by omega, by omega⟩, ?_⟩
      conv => whnf
      refine ⟨fun q9 => by first | (simp at q9; done) | omega, ?_⟩
      exact q_to h (by unfold fFar fAbs; split <;> split <;> omega)
    · simp only [sx_cc, Classical.not_not] at g
      conv => whnf
      refine ⟨⟨by omega, by omega⟩, ?_⟩
      conv => whnf
      refine ⟨⟨by omega, by omega⟩, ?_⟩
      conv => whnf
      refine ⟨fun q9 => by first | (simp at q9; done) | omega, ?_⟩
      exact q_to h (by unfold fFar fAbs; split <;> split <;> omega)
  · simp only [sx_cc, Classical.not_not] at g
    conv => whnf
    refine ⟨⟨by omega, by omega⟩, ?_⟩
    conv => whnf
    refine ⟨fun g => ?_, fun g => ?_⟩
    · simp only [sx_cc, Classical.not_not] at g
      conv => whnf
      refine ⟨⟨by omega, by omega⟩, ?_⟩
      conv => whnf
      refine ⟨fun q9 => by first | (simp at q9; done) | omega, ?_⟩
      exact q_to h (by unfold fFar fAbs; split <;> split <;> omega)
    · simp only [sx_cc, Classical.not_not] at g
      conv => whnf
      refine ⟨⟨by omega, by omega⟩, ?_⟩
      conv => whnf
      refine ⟨⟨by omega, by omega⟩, ?_⟩
      conv => whnf
      refine ⟨fun q9 => by first | (simp at q9; done) | omega, ?_⟩
      exact q_to h (by unfold fFar fAbs; split <;> split <;> omega)
set_option maxRecDepth 20000 in
theorem c_Rbeside (hd : RD σ) {c : Int} (hc0 : 0 ≤ c) (hc1 : c < σ 124 12 * σ 124 13) {way : Int} (h : Q (some (.inl (fBes (σ 124 12) (σ 124 13) c way))) shM σ) : sx_Run X 228 [.inr (.inr 124), .inl c, .inl way] shM σ Q := by
  have hb := tm_bd hc0 (show 0 < σ 124 12 from hd.1)
  have hb2 := td_bd hc0 (show 0 < σ 124 12 from hd.1) hc1
  have hw := hd.mul
  obtain ⟨d1, d2, d3, d4⟩ := id hd
  refine sx_rule2 (own := 12) (cd := kX12_beside) (nL := 5) (by decide +kernel) (by decide +kernel) kX12_beside_ok (by decide +kernel) (Nat.le_of_ble_eq_true rfl) [25, 51] 40 (fun n t L st _ σ' => (t = 25 ∧ ∃ d : Int, st = [.inl d, .inl (c.tmod (σ 124 12))] ∧ L = [some (.inr (.inr (124))), some (.inl (c)), some (.inl (way)), none, none] ∧ (σ = σ' ∧ d = fDx way) ∧ n = 2) ∨ (t = 51 ∧ ∃ d : Int, st = [.inl d, .inl (c.tdiv (σ 124 12))] ∧ L = [some (.inr (.inr (124))), some (.inl (c)), some (.inl (way)), some (.inl (c.tmod (σ 124 12) + fDx way)), none] ∧ (σ = σ' ∧ d = fDy way) ∧ n = 1)) ?_ ?_
  · skip
    conv => whnf
    refine ⟨(by first | assumption | rfl), ?_⟩
    try simp (disch := omega) only [Int.cast_ofNat_Int, up_s, up_a, up_i, mp_a, mp_ge, cp_a]
    conv => whnf
    refine ⟨by omega, (show sx_r32 _ from ⟨by omega, by omega⟩), ?_⟩
    conv => whnf
    refine ⟨fun g => ?_, fun g => ?_⟩
    · simp only [sx_cc, Classical.not_not] at g
      conv => whnf
      refine ⟨fun g => ?_, fun g => ?_⟩
      · simp only [sx_cc, Classical.not_not] at g
        conv => whnf
        refine ⟨_, Or.inl ⟨rfl, _, rfl, rfl, ?_, rfl⟩⟩
        refine ⟨rfl, ?_⟩
        unfold fDx
        first | (rw [if_pos (by omega)]; done) | (rw [if_neg (by omega), if_pos (by omega)]; done) | (rw [if_neg (by omega), if_neg (by omega)]; done)
      · simp only [sx_cc, Classical.not_not] at g
        conv => whnf
        refine ⟨_, Or.inl ⟨rfl, _, rfl, rfl, ?_, rfl⟩⟩
        refine ⟨rfl, ?_⟩
        unfold fDx
        first | (rw [if_pos (by omega)]; done) | (rw [if_neg (by omega), if_pos (by omega)]; done) | (rw [if_neg (by omega), if_neg (by omega)]; done)
    · simp only [sx_cc, Classical.not_not] at g
      conv => whnf
      refine ⟨_, Or.inl ⟨rfl, _, rfl, rfl, ?_, rfl⟩⟩
      refine ⟨rfl, ?_⟩
      unfold fDx
      first | (rw [if_pos (by omega)]; done) | (rw [if_neg (by omega), if_pos (by omega)]; done) | (rw [if_neg (by omega), if_neg (by omega)]; done)
  · intro n t L st σ' hk
    rcases hk with hk | hk
    · obtain ⟨rfl, d, rfl, rfl, hc, rfl⟩ := hk
      obtain ⟨rfl, rfl⟩ := hc
      have hx : -1 ≤ fDx way ∧ fDx way ≤ 1 := by unfold fDx; repeat (first | omega | split)
      conv => whnf
      refine ⟨(by first | exact ⟨by omega, by omega⟩ | exact r32_wy (h := σ 124 13) (by omega) (by omega) hw.2 (by omega) | exact r32_wyx (h := σ 124 13) (by omega) (by omega) hw.2 (by omega) (by omega)), ?_⟩
      conv => whnf
      refine ⟨(by first | assumption | rfl), ?_⟩
      try simp (disch := omega) only [Int.cast_ofNat_Int, up_s, up_a, up_i, mp_a, mp_ge, cp_a]
      conv => whnf
      refine ⟨by omega, (show sx_r32 _ from ⟨by omega, by omega⟩), ?_⟩
      conv => whnf
      refine ⟨fun g => ?_, fun g => ?_⟩
      · simp only [sx_cc, Classical.not_not] at g
        conv => whnf
        refine ⟨fun g => ?_, fun g => ?_⟩
        · simp only [sx_cc, Classical.not_not] at g
          conv => whnf
          refine ⟨_, ?_, Or.inr (⟨rfl, _, rfl, rfl, ?_, rfl⟩)⟩
          · omega
          · refine ⟨rfl, ?_⟩
            unfold fDy
            first | (rw [if_pos (by omega)]; done) | (rw [if_neg (by omega), if_pos (by omega)]; done) | (rw [if_neg (by omega), if_neg (by omega)]; done)
        · simp only [sx_cc, Classical.not_not] at g
          conv => whnf
          refine ⟨_, ?_, Or.inr (⟨rfl, _, rfl, rfl, ?_, rfl⟩)⟩
          · omega
          · refine ⟨rfl, ?_⟩
            unfold fDy
            first | (rw [if_pos (by omega)]; done) | (rw [if_neg (by omega), if_pos (by omega)]; done) | (rw [if_neg (by omega), if_neg (by omega)]; done)
      · simp only [sx_cc, Classical.not_not] at g
        conv => whnf
        refine ⟨_, ?_, Or.inr (⟨rfl, _, rfl, rfl, ?_, rfl⟩)⟩
        · omega
        · refine ⟨rfl, ?_⟩
          unfold fDy
          first | (rw [if_pos (by omega)]; done) | (rw [if_neg (by omega), if_pos (by omega)]; done) | (rw [if_neg (by omega), if_neg (by omega)]; done)
    · obtain ⟨rfl, d, rfl, rfl, hc, rfl⟩ := hk
      obtain ⟨rfl, rfl⟩ := hc
      have hx : -1 ≤ fDx way ∧ fDx way ≤ 1 := by unfold fDx; repeat (first | omega | split)
      have hy : -1 ≤ fDy way ∧ fDy way ≤ 1 := by unfold fDy; repeat (first | omega | split)
      conv => whnf
      refine ⟨(by first | exact ⟨by omega, by omega⟩ | exact r32_wy (h := σ 124 13) (by omega) (by omega) hw.2 (by omega) | exact r32_wyx (h := σ 124 13) (by omega) (by omega) hw.2 (by omega) (by omega)), ?_⟩
      conv => whnf
      refine ⟨(by first | assumption | rfl), ?_⟩
      try simp (disch := omega) only [Int.cast_ofNat_Int, up_s, up_a, up_i, mp_a, mp_ge, cp_a]
      conv => whnf
      refine ⟨(by first | exact ⟨by omega, by omega⟩ | exact r32_wy (h := σ 124 13) (by omega) (by omega) hw.2 (by omega) | exact r32_wyx (h := σ 124 13) (by omega) (by omega) hw.2 (by omega) (by omega)), ?_⟩
      conv => whnf
      refine ⟨Nat.le_of_ble_eq_true rfl, Nat.le_of_ble_eq_true rfl, ?_⟩
      refine c_Rin (fun g1 g2 => ?_) (fun g0 => ?_)
      · skip
        conv => whnf
        refine ⟨fun g => ?_, fun g => ?_⟩
        · exact absurd g (by simp [sx_cc])
        · skip
          conv => whnf
          refine ⟨(by first | assumption | rfl), ?_⟩
          try simp (disch := omega) only [Int.cast_ofNat_Int, up_s, up_a, up_i, mp_a, mp_ge, cp_a]
          conv => whnf
          refine ⟨(by first | exact ⟨by omega, by omega⟩ | exact r32_wy (h := σ 124 13) (by omega) (by omega) hw.2 (by omega) | exact r32_wyx (h := σ 124 13) (by omega) (by omega) hw.2 (by omega) (by omega)), ?_⟩
          conv => whnf
          refine ⟨Nat.le_of_ble_eq_true rfl, Nat.le_of_ble_eq_true rfl, ?_⟩
          refine c_Rin (fun g1 g2 => ?_) (fun g0 => ?_)
          · skip
            conv => whnf
            refine ⟨fun g => ?_, fun g => ?_⟩
            · exact absurd g (by simp [sx_cc])
            · skip
              conv => whnf
              refine ⟨(by first | assumption | rfl), ?_⟩
              try simp (disch := omega) only [Int.cast_ofNat_Int, up_s, up_a, up_i, mp_a, mp_ge, cp_a]
              conv => whnf
              refine ⟨(by first | exact ⟨by omega, by omega⟩ | exact r32_wy (h := σ 124 13) (by omega) (by omega) hw.2 (by omega) | exact r32_wyx (h := σ 124 13) (by omega) (by omega) hw.2 (by omega) (by omega)), ?_⟩
              conv => whnf
              refine ⟨(by first | exact ⟨by omega, by omega⟩ | exact r32_wy (h := σ 124 13) (by omega) (by omega) hw.2 (by omega) | exact r32_wyx (h := σ 124 13) (by omega) (by omega) hw.2 (by omega) (by omega)), ?_⟩
              conv => whnf
              refine ⟨fun q9 => by first | (simp at q9; done) | omega, ?_⟩
              exact q_to h (by unfold fBes; rw [if_pos ⟨by omega, by omega, by omega, by omega⟩, Int.mul_comm])
          · skip
            conv => whnf
            refine ⟨fun g => ?_, fun g => ?_⟩
            · skip
              conv => whnf
              refine ⟨fun q9 => by first | (simp at q9; done) | omega, ?_⟩
              exact q_to h (by unfold fBes; rw [if_neg (by omega)])
            · exact absurd g (by simp [sx_cc])
      · skip
        conv => whnf
        refine ⟨fun g => ?_, fun g => ?_⟩
        · skip
          conv => whnf
          refine ⟨fun q9 => by first | (simp at q9; done) | omega, ?_⟩
          exact q_to h (by unfold fBes; rw [if_neg (by omega)])
        · exact absurd g (by simp [sx_cc])
set_option maxRecDepth 20000 in
theorem c_Rread (hT : PT σ) {b c : Int} (hb : b = 0 ∨ b = 1) (hn : 0 ≤ σ 154 b ∧ σ 154 b ≤ 90) (h : Q (some (.inl (fTop (fun j => σ 147 (90 * b + j)) (fun j => σ 150 (90 * b + j)) (fun j => σ 151 (90 * b + j)) c (σ 154 b).toNat))) shM σ) : sx_Run X 233 [.inr (.inr 124), .inl b, .inl c] shM σ Q := by
  have r30 := pt_124_30 hT
  have r31 := pt_124_31 hT
  have r32 := pt_124_32 hT
  have r33 := pt_124_33 hT
  have r34 := pt_124_34 hT
  have r35 := pt_124_35 hT
  have r36 := pt_124_36 hT
  have r37 := pt_124_37 hT
  have r38 := pt_124_38 hT
  have r57 := pt_124_57 hT
  have r58 := pt_124_58 hT
  have r59 := pt_124_59 hT
  have r60 := pt_124_60 hT
  have r61 := pt_124_61 hT
  have r62 := pt_124_62 hT
  have r63 := pt_124_63 hT
  have r64 := pt_124_64 hT
  have r65 := pt_124_65 hT
  have r66 := pt_124_66 hT
  have r67 := pt_124_67 hT
  have r68 := pt_124_68 hT
  have r69 := pt_124_69 hT
  have r70 := pt_124_70 hT
  have r71 := pt_124_71 hT
  refine sx_rule2 (own := 12) (cd := kX12_readIn) (nL := 5) (by decide +kernel) (by decide +kernel) kX12_readIn_ok (by decide +kernel) (Nat.le_of_ble_eq_true rfl) [9] 40 (fun n t L st _ σ' => (t = 9 ∧ ∃ i : Int, ∃ w9 : Option sx_V, st = [] ∧ L = [some (.inr (.inr (124))), some (.inl (b)), some (.inl (c)), some (.inl (i)), w9] ∧ (σ = σ' ∧ -1 ≤ i ∧ i < σ 154 b ∧ fTop (fun j => σ 147 (90 * b + j)) (fun j => σ 150 (90 * b + j)) (fun j => σ 151 (90 * b + j)) c (σ 154 b).toNat = fTop (fun j => σ 147 (90 * b + j)) (fun j => σ 150 (90 * b + j)) (fun j => σ 151 (90 * b + j)) c (i + 1).toNat) ∧ n = (i + 1).toNat)) ?_ ?_
  · skip
    conv => whnf
    refine ⟨(by first | assumption | rfl), ?_⟩
    try simp (disch := omega) only [Int.cast_ofNat_Int, up_s, up_a, up_i, mp_a, mp_ge, cp_a, r30, r31, r32, r33, r34, r35, r36, r37, r38, r57, r58, r59, r60, r61, r62, r63, r64, r65, r66, r67, r68, r69, r70, r71]
    conv => whnf
    refine ⟨sx_ixI (by first | assumption | rfl) (by omega) (by omega), ?_⟩
    try simp (disch := omega) only [Int.cast_ofNat_Int, up_s, up_a, up_i, mp_a, mp_ge, cp_a, r30, r31, r32, r33, r34, r35, r36, r37, r38, r57, r58, r59, r60, r61, r62, r63, r64, r65, r66, r67, r68, r69, r70, r71]
    conv => whnf
    refine ⟨⟨by omega, by omega⟩, ?_⟩
    conv => whnf
    refine ⟨_, ⟨rfl, _, _, rfl, rfl, ?_, rfl⟩⟩
    refine ⟨rfl, by omega, by omega, ?_⟩
    rw [show σ 154 b - 1 + 1 = σ 154 b by omega]
  · intro n t L st σ' hk
    obtain ⟨rfl, i, w9, rfl, rfl, hc, rfl⟩ := hk
    obtain ⟨rfl, hi0, hi1, hv⟩ := hc
    conv => whnf
    refine ⟨fun g => ?_, fun g => ?_⟩
    · simp only [sx_cc, Classical.not_not] at g
      conv => whnf
      refine ⟨fun q9 => by first | (simp at q9; done) | omega, ?_⟩
      have e9 : i = -1 := by omega
      subst e9
      rw [hv] at h
      exact h
    · simp only [sx_cc, Classical.not_not] at g
      conv => whnf
      refine ⟨⟨by omega, by omega⟩, ?_⟩
      conv => whnf
      refine ⟨⟨by omega, by omega⟩, ?_⟩
      conv => whnf
      refine ⟨(by first | assumption | rfl), ?_⟩
      try simp (disch := omega) only [Int.cast_ofNat_Int, up_s, up_a, up_i, mp_a, mp_ge, cp_a, r30, r31, r32, r33, r34, r35, r36, r37, r38, r57, r58, r59, r60, r61, r62, r63, r64, r65, r66, r67, r68, r69, r70, r71]
      conv => whnf
      refine ⟨sx_ixI (by first | assumption | rfl) (by omega) (by omega), ?_⟩
      try simp (disch := omega) only [Int.cast_ofNat_Int, up_s, up_a, up_i, mp_a, mp_ge, cp_a, r30, r31, r32, r33, r34, r35, r36, r37, r38, r57, r58, r59, r60, r61, r62, r63, r64, r65, r66, r67, r68, r69, r70, r71]
      conv => whnf
      refine ⟨fun g => ?_, fun g => ?_⟩
      · simp only [sx_cc, Classical.not_not] at g
        conv => whnf
        refine ⟨⟨by omega, by omega⟩, ?_⟩
        conv => whnf
        refine ⟨_, ?_, ⟨rfl, _, _, rfl, rfl, ?_, rfl⟩⟩
        · omega
        · refine ⟨rfl, by omega, by omega, ?_⟩
          rw [hv, fTop_s (by omega), if_neg (by omega), show i + -1 + 1 = i by omega]
      · simp only [sx_cc, Classical.not_not] at g
        conv => whnf
        refine ⟨(by first | assumption | rfl), ?_⟩
        try simp (disch := omega) only [Int.cast_ofNat_Int, up_s, up_a, up_i, mp_a, mp_ge, cp_a, r30, r31, r32, r33, r34, r35, r36, r37, r38, r57, r58, r59, r60, r61, r62, r63, r64, r65, r66, r67, r68, r69, r70, r71]
        conv => whnf
        refine ⟨sx_ixI (by first | assumption | rfl) (by omega) (by omega), ?_⟩
        try simp (disch := omega) only [Int.cast_ofNat_Int, up_s, up_a, up_i, mp_a, mp_ge, cp_a, r30, r31, r32, r33, r34, r35, r36, r37, r38, r57, r58, r59, r60, r61, r62, r63, r64, r65, r66, r67, r68, r69, r70, r71]
        conv => whnf
        refine ⟨fun g => ?_, fun g => ?_⟩
        · simp only [sx_cc, Classical.not_not] at g
          conv => whnf
          refine ⟨⟨by omega, by omega⟩, ?_⟩
          conv => whnf
          refine ⟨_, ?_, ⟨rfl, _, _, rfl, rfl, ?_, rfl⟩⟩
          · omega
          · refine ⟨rfl, by omega, by omega, ?_⟩
            rw [hv, fTop_s (by omega), if_neg (by omega), show i + -1 + 1 = i by omega]
        · simp only [sx_cc, Classical.not_not] at g
          conv => whnf
          refine ⟨(by first | assumption | rfl), ?_⟩
          try simp (disch := omega) only [Int.cast_ofNat_Int, up_s, up_a, up_i, mp_a, mp_ge, cp_a, r30, r31, r32, r33, r34, r35, r36, r37, r38, r57, r58, r59, r60, r61, r62, r63, r64, r65, r66, r67, r68, r69, r70, r71]
          conv => whnf
          refine ⟨sx_ixI (by first | assumption | rfl) (by omega) (by omega), ?_⟩
          try simp (disch := omega) only [Int.cast_ofNat_Int, up_s, up_a, up_i, mp_a, mp_ge, cp_a, r30, r31, r32, r33, r34, r35, r36, r37, r38, r57, r58, r59, r60, r61, r62, r63, r64, r65, r66, r67, r68, r69, r70, r71]
          conv => whnf
          refine ⟨fun g => ?_, fun g => ?_⟩
          · simp only [sx_cc, Classical.not_not] at g
            conv => whnf
            refine ⟨⟨by omega, by omega⟩, ?_⟩
            conv => whnf
            refine ⟨_, ?_, ⟨rfl, _, _, rfl, rfl, ?_, rfl⟩⟩
            · omega
            · refine ⟨rfl, by omega, by omega, ?_⟩
              rw [hv, fTop_s (by omega), if_neg (by omega), show i + -1 + 1 = i by omega]
          · simp only [sx_cc, Classical.not_not] at g
            conv => whnf
            refine ⟨fun q9 => by first | (simp at q9; done) | omega, ?_⟩
            rw [hv, fTop_s (by omega), if_pos ⟨by omega, by omega, by omega⟩] at h
            exact h
set_option maxRecDepth 20000 in
theorem c_Rcover (hT : PT σ) (hn : 0 ≤ σ 154 0 ∧ σ 154 0 ≤ 90) (hcv : ∀ i : Int, 0 ≤ i → i < σ 154 0 → 0 ≤ σ 151 i) {x : Int} (h : Q (some (.inl (fLst (σ 150) (σ 151) x (σ 154 0).toNat))) shM σ) : sx_Run X 295 [.inr (.inr 124), .inl x] shM σ Q := by
  have r30 := pt_124_30 hT
  have r31 := pt_124_31 hT
  have r32 := pt_124_32 hT
  have r33 := pt_124_33 hT
  have r34 := pt_124_34 hT
  have r35 := pt_124_35 hT
  have r36 := pt_124_36 hT
  have r37 := pt_124_37 hT
  have r38 := pt_124_38 hT
  have r57 := pt_124_57 hT
  have r58 := pt_124_58 hT
  have r59 := pt_124_59 hT
  have r60 := pt_124_60 hT
  have r61 := pt_124_61 hT
  have r62 := pt_124_62 hT
  have r63 := pt_124_63 hT
  have r64 := pt_124_64 hT
  have r65 := pt_124_65 hT
  have r66 := pt_124_66 hT
  have r67 := pt_124_67 hT
  have r68 := pt_124_68 hT
  have r69 := pt_124_69 hT
  have r70 := pt_124_70 hT
  have r71 := pt_124_71 hT
  refine sx_rule2 (own := 12) (cd := kX12_coverAbove) (nL := 4) (by decide +kernel) (by decide +kernel) kX12_coverAbove_ok (by decide +kernel) (Nat.le_of_ble_eq_true rfl) [4] 40 (fun n t L st _ σ' => (t = 4 ∧ ∃ v i : Int, st = [] ∧ L = [some (.inr (.inr (124))), some (.inl (x)), some (.inl (v)), some (.inl (i))] ∧ (σ = σ' ∧ 0 ≤ i ∧ i ≤ σ 154 0 ∧ v = fLst (σ 150) (σ 151) x i.toNat ∧ (v = -1 ∨ 0 ≤ v)) ∧ n = (σ 154 0 - i).toNat)) ?_ ?_
  · skip
    conv => whnf
    refine ⟨_, ⟨rfl, _, _, rfl, rfl, ?_, rfl⟩⟩
    refine ⟨rfl, by omega, by omega, rfl, Or.inl rfl⟩
  · intro n t L st σ' hk
    obtain ⟨rfl, v, i, rfl, rfl, hc, rfl⟩ := hk
    obtain ⟨rfl, hi0, hi1, hv, hv2⟩ := hc
    conv => whnf
    refine ⟨(by first | assumption | rfl), ?_⟩
    try simp (disch := omega) only [Int.cast_ofNat_Int, up_s, up_a, up_i, mp_a, mp_ge, cp_a, r30, r31, r32, r33, r34, r35, r36, r37, r38, r57, r58, r59, r60, r61, r62, r63, r64, r65, r66, r67, r68, r69, r70, r71]
    conv => whnf
    refine ⟨sx_ixI (by first | assumption | rfl) (by omega) (by omega), ?_⟩
    try simp (disch := omega) only [Int.cast_ofNat_Int, up_s, up_a, up_i, mp_a, mp_ge, cp_a, r30, r31, r32, r33, r34, r35, r36, r37, r38, r57, r58, r59, r60, r61, r62, r63, r64, r65, r66, r67, r68, r69, r70, r71]
    conv => whnf
    refine ⟨fun g => ?_, fun g => ?_⟩
    · simp only [sx_cc, Classical.not_not] at g
      conv => whnf
      refine ⟨fun q9 => by first | (simp at q9; done) | omega, ?_⟩
      have e9 : i = σ 154 0 := by omega
      rw [e9] at hv
      subst hv
      exact h
    · simp only [sx_cc, Classical.not_not] at g
      conv => whnf
      refine ⟨(by first | assumption | rfl), ?_⟩
      try simp (disch := omega) only [Int.cast_ofNat_Int, up_s, up_a, up_i, mp_a, mp_ge, cp_a, r30, r31, r32, r33, r34, r35, r36, r37, r38, r57, r58, r59, r60, r61, r62, r63, r64, r65, r66, r67, r68, r69, r70, r71]
      conv => whnf
      refine ⟨sx_ixI (by first | assumption | rfl) (by omega) (by omega), ?_⟩
      try simp (disch := omega) only [Int.cast_ofNat_Int, up_s, up_a, up_i, mp_a, mp_ge, cp_a, r30, r31, r32, r33, r34, r35, r36, r37, r38, r57, r58, r59, r60, r61, r62, r63, r64, r65, r66, r67, r68, r69, r70, r71]
      conv => whnf
      refine ⟨fun g => ?_, fun g => ?_⟩
      · simp only [sx_cc, Classical.not_not] at g
        conv => whnf
        refine ⟨⟨by omega, by omega⟩, ?_⟩
        conv => whnf
        refine ⟨_, ?_, ⟨rfl, _, _, rfl, rfl, ?_, rfl⟩⟩
        · omega
        · refine ⟨rfl, by omega, by omega, ?_, ?_⟩
          · rw [fLst_s hi0, ← hv]
            first | (rw [if_pos (by omega)]; done) | (rw [if_neg (by omega)]; done)
          · have := hcv i hi0 (by omega)
            omega
      · simp only [sx_cc, Classical.not_not] at g
        conv => whnf
        refine ⟨(by first | assumption | rfl), ?_⟩
        try simp (disch := omega) only [Int.cast_ofNat_Int, up_s, up_a, up_i, mp_a, mp_ge, cp_a, r30, r31, r32, r33, r34, r35, r36, r37, r38, r57, r58, r59, r60, r61, r62, r63, r64, r65, r66, r67, r68, r69, r70, r71]
        conv => whnf
        refine ⟨sx_ixI (by first | assumption | rfl) (by omega) (by omega), ?_⟩
        try simp (disch := omega) only [Int.cast_ofNat_Int, up_s, up_a, up_i, mp_a, mp_ge, cp_a, r30, r31, r32, r33, r34, r35, r36, r37, r38, r57, r58, r59, r60, r61, r62, r63, r64, r65, r66, r67, r68, r69, r70, r71]
        conv => whnf
        refine ⟨fun g => ?_, fun g => ?_⟩
        · simp only [sx_cc, Classical.not_not] at g
          conv => whnf
          refine ⟨⟨by omega, by omega⟩, ?_⟩
          conv => whnf
          refine ⟨_, ?_, ⟨rfl, _, _, rfl, rfl, ?_, rfl⟩⟩
          · omega
          · refine ⟨rfl, by omega, by omega, ?_, ?_⟩
            · rw [fLst_s hi0, ← hv]
              first | (rw [if_pos (by omega)]; done) | (rw [if_neg (by omega)]; done)
            · have := hcv i hi0 (by omega)
              omega
        · simp only [sx_cc, Classical.not_not] at g
          conv => whnf
          refine ⟨fun g => ?_, fun g => ?_⟩
          · simp only [sx_cc, Classical.not_not] at g
            conv => whnf
            refine ⟨(by first | assumption | rfl), ?_⟩
            try simp (disch := omega) only [Int.cast_ofNat_Int, up_s, up_a, up_i, mp_a, mp_ge, cp_a, r30, r31, r32, r33, r34, r35, r36, r37, r38, r57, r58, r59, r60, r61, r62, r63, r64, r65, r66, r67, r68, r69, r70, r71]
            conv => whnf
            refine ⟨sx_ixI (by first | assumption | rfl) (by omega) (by omega), ?_⟩
            try simp (disch := omega) only [Int.cast_ofNat_Int, up_s, up_a, up_i, mp_a, mp_ge, cp_a, r30, r31, r32, r33, r34, r35, r36, r37, r38, r57, r58, r59, r60, r61, r62, r63, r64, r65, r66, r67, r68, r69, r70, r71]
            conv => whnf
            refine ⟨⟨by omega, by omega⟩, ?_⟩
            conv => whnf
            refine ⟨_, ?_, ⟨rfl, _, _, rfl, rfl, ?_, rfl⟩⟩
            · omega
            · refine ⟨rfl, by omega, by omega, ?_, ?_⟩
              · rw [fLst_s hi0, ← hv]
                first | (rw [if_pos (by omega)]; done) | (rw [if_neg (by omega)]; done)
              · have := hcv i hi0 (by omega)
                omega
          · simp only [sx_cc, Classical.not_not] at g
            conv => whnf
            refine ⟨(by first | assumption | rfl), ?_⟩
            try simp (disch := omega) only [Int.cast_ofNat_Int, up_s, up_a, up_i, mp_a, mp_ge, cp_a, r30, r31, r32, r33, r34, r35, r36, r37, r38, r57, r58, r59, r60, r61, r62, r63, r64, r65, r66, r67, r68, r69, r70, r71]
            conv => whnf
            refine ⟨sx_ixI (by first | assumption | rfl) (by omega) (by omega), ?_⟩
            try simp (disch := omega) only [Int.cast_ofNat_Int, up_s, up_a, up_i, mp_a, mp_ge, cp_a, r30, r31, r32, r33, r34, r35, r36, r37, r38, r57, r58, r59, r60, r61, r62, r63, r64, r65, r66, r67, r68, r69, r70, r71]
            conv => whnf
            refine ⟨fun g => ?_, fun g => ?_⟩
            · simp only [sx_cc, Classical.not_not] at g
              conv => whnf
              refine ⟨⟨by omega, by omega⟩, ?_⟩
              conv => whnf
              refine ⟨_, ?_, ⟨rfl, _, _, rfl, rfl, ?_, rfl⟩⟩
              · omega
              · refine ⟨rfl, by omega, by omega, ?_, ?_⟩
                · rw [fLst_s hi0, ← hv]
                  first | (rw [if_pos (by omega)]; done) | (rw [if_neg (by omega)]; done)
                · have := hcv i hi0 (by omega)
                  omega
            · simp only [sx_cc, Classical.not_not] at g
              conv => whnf
              refine ⟨(by first | assumption | rfl), ?_⟩
              try simp (disch := omega) only [Int.cast_ofNat_Int, up_s, up_a, up_i, mp_a, mp_ge, cp_a, r30, r31, r32, r33, r34, r35, r36, r37, r38, r57, r58, r59, r60, r61, r62, r63, r64, r65, r66, r67, r68, r69, r70, r71]
              conv => whnf
              refine ⟨sx_ixI (by first | assumption | rfl) (by omega) (by omega), ?_⟩
              try simp (disch := omega) only [Int.cast_ofNat_Int, up_s, up_a, up_i, mp_a, mp_ge, cp_a, r30, r31, r32, r33, r34, r35, r36, r37, r38, r57, r58, r59, r60, r61, r62, r63, r64, r65, r66, r67, r68, r69, r70, r71]
              conv => whnf
              refine ⟨⟨by omega, by omega⟩, ?_⟩
              conv => whnf
              refine ⟨_, ?_, ⟨rfl, _, _, rfl, rfl, ?_, rfl⟩⟩
              · omega
              · refine ⟨rfl, by omega, by omega, ?_, ?_⟩
                · rw [fLst_s hi0, ← hv]
                  first | (rw [if_pos (by omega)]; done) | (rw [if_neg (by omega)]; done)
                · have := hcv i hi0 (by omega)
                  omega
set_option maxRecDepth 20000 in
theorem c_Rthere (hT : PT σ) (hn : 0 ≤ σ 154 0 ∧ σ 154 0 ≤ 90) (h : Q (some (.inl (fCnt (fun i => decide (0 < σ 150 i)) (σ 154 0).toNat))) shM σ) : sx_Run X 306 [.inr (.inr 124)] shM σ Q := by
  have r30 := pt_124_30 hT
  have r31 := pt_124_31 hT
  have r32 := pt_124_32 hT
  have r33 := pt_124_33 hT
  have r34 := pt_124_34 hT
  have r35 := pt_124_35 hT
  have r36 := pt_124_36 hT
  have r37 := pt_124_37 hT
  have r38 := pt_124_38 hT
  have r57 := pt_124_57 hT
  have r58 := pt_124_58 hT
  have r59 := pt_124_59 hT
  have r60 := pt_124_60 hT
  have r61 := pt_124_61 hT
  have r62 := pt_124_62 hT
  have r63 := pt_124_63 hT
  have r64 := pt_124_64 hT
  have r65 := pt_124_65 hT
  have r66 := pt_124_66 hT
  have r67 := pt_124_67 hT
  have r68 := pt_124_68 hT
  have r69 := pt_124_69 hT
  have r70 := pt_124_70 hT
  have r71 := pt_124_71 hT
  refine sx_rule2 (own := 12) (cd := kX12_thereMany) (nL := 3) (by decide +kernel) (by decide +kernel) kX12_thereMany_ok (by decide +kernel) (Nat.le_of_ble_eq_true rfl) [4] 40 (fun n t L st _ σ' => (t = 4 ∧ ∃ v i : Int, st = [] ∧ L = [some (.inr (.inr (124))), some (.inl (v)), some (.inl (i))] ∧ (σ = σ' ∧ 0 ≤ i ∧ i ≤ σ 154 0 ∧ v = fCnt (fun i => decide (0 < σ 150 i)) i.toNat) ∧ n = (σ 154 0 - i).toNat)) ?_ ?_
  · skip
    conv => whnf
    refine ⟨_, ⟨rfl, _, _, rfl, rfl, ?_, rfl⟩⟩
    refine ⟨rfl, by omega, by omega, rfl⟩
  · intro n t L st σ' hk
    obtain ⟨rfl, v, i, rfl, rfl, hc, rfl⟩ := hk
    obtain ⟨rfl, hi0, hi1, hv⟩ := hc
    have hb := fCnt_le (fun i => decide (0 < σ 150 i)) i.toNat
    conv => whnf
    refine ⟨(by first | assumption | rfl), ?_⟩
    try simp (disch := omega) only [Int.cast_ofNat_Int, up_s, up_a, up_i, mp_a, mp_ge, cp_a, r30, r31, r32, r33, r34, r35, r36, r37, r38, r57, r58, r59, r60, r61, r62, r63, r64, r65, r66, r67, r68, r69, r70, r71]
    conv => whnf
    refine ⟨sx_ixI (by first | assumption | rfl) (by omega) (by omega), ?_⟩
    try simp (disch := omega) only [Int.cast_ofNat_Int, up_s, up_a, up_i, mp_a, mp_ge, cp_a, r30, r31, r32, r33, r34, r35, r36, r37, r38, r57, r58, r59, r60, r61, r62, r63, r64, r65, r66, r67, r68, r69, r70, r71]
    conv => whnf
    refine ⟨fun g => ?_, fun g => ?_⟩
    · simp only [sx_cc, Classical.not_not] at g
      conv => whnf
      refine ⟨fun q9 => by first | (simp at q9; done) | omega, ?_⟩
      have e9 : i = σ 154 0 := by omega
      rw [e9] at hv
      subst hv
      exact h
    · simp only [sx_cc, Classical.not_not] at g
      conv => whnf
      refine ⟨(by first | assumption | rfl), ?_⟩
      try simp (disch := omega) only [Int.cast_ofNat_Int, up_s, up_a, up_i, mp_a, mp_ge, cp_a, r30, r31, r32, r33, r34, r35, r36, r37, r38, r57, r58, r59, r60, r61, r62, r63, r64, r65, r66, r67, r68, r69, r70, r71]
      conv => whnf
      refine ⟨sx_ixI (by first | assumption | rfl) (by omega) (by omega), ?_⟩
      try simp (disch := omega) only [Int.cast_ofNat_Int, up_s, up_a, up_i, mp_a, mp_ge, cp_a, r30, r31, r32, r33, r34, r35, r36, r37, r38, r57, r58, r59, r60, r61, r62, r63, r64, r65, r66, r67, r68, r69, r70, r71]
      conv => whnf
      refine ⟨fun g => ?_, fun g => ?_⟩
      · simp only [sx_cc, Classical.not_not] at g
        conv => whnf
        refine ⟨⟨by omega, by omega⟩, ?_⟩
        conv => whnf
        refine ⟨⟨by omega, by omega⟩, ?_⟩
        conv => whnf
        refine ⟨_, ?_, ⟨rfl, _, _, rfl, rfl, ?_, rfl⟩⟩
        · omega
        · refine ⟨rfl, by omega, by omega, ?_⟩
          rw [fCnt_s hi0, ← hv]
          first | (rw [if_pos (by simp only [decide_eq_true_eq]; omega)]; done) | (rw [if_neg (by simp only [decide_eq_true_eq]; omega)]; done)
      · simp only [sx_cc, Classical.not_not] at g
        conv => whnf
        refine ⟨⟨by omega, by omega⟩, ?_⟩
        conv => whnf
        refine ⟨⟨by omega, by omega⟩, ?_⟩
        conv => whnf
        refine ⟨_, ?_, ⟨rfl, _, _, rfl, rfl, ?_, rfl⟩⟩
        · omega
        · refine ⟨rfl, by omega, by omega, ?_⟩
          rw [fCnt_s hi0, ← hv]
          first | (rw [if_pos (by simp only [decide_eq_true_eq]; omega)]; done) | (rw [if_neg (by simp only [decide_eq_true_eq]; omega)]; done)
set_option maxRecDepth 20000 in
theorem c_Rmany (hT : PT σ) (hd : RD σ) {b : Int} (hb : b = 0 ∨ b = 1) (hn : 0 ≤ σ 154 b ∧ σ 154 b ≤ 90) (h : Q (some (.inl (fCnt (fun c => decide (0 ≤ fTop (fun j => σ 147 (90 * b + j)) (fun j => σ 150 (90 * b + j)) (fun j => σ 151 (90 * b + j)) c (σ 154 b).toNat)) (σ 124 12 * σ 124 13).toNat))) shM σ) : sx_Run X 293 [.inr (.inr 124), .inl b] shM σ Q := by
  have r30 := pt_124_30 hT
  have r31 := pt_124_31 hT
  have r32 := pt_124_32 hT
  have r33 := pt_124_33 hT
  have r34 := pt_124_34 hT
  have r35 := pt_124_35 hT
  have r36 := pt_124_36 hT
  have r37 := pt_124_37 hT
  have r38 := pt_124_38 hT
  have r57 := pt_124_57 hT
  have r58 := pt_124_58 hT
  have r59 := pt_124_59 hT
  have r60 := pt_124_60 hT
  have r61 := pt_124_61 hT
  have r62 := pt_124_62 hT
  have r63 := pt_124_63 hT
  have r64 := pt_124_64 hT
  have r65 := pt_124_65 hT
  have r66 := pt_124_66 hT
  have r67 := pt_124_67 hT
  have r68 := pt_124_68 hT
  have r69 := pt_124_69 hT
  have r70 := pt_124_70 hT
  have r71 := pt_124_71 hT
  have hw := hd.mul
  refine sx_rule2 (own := 12) (cd := kX12_readMany) (nL := 4) (by decide +kernel) (by decide +kernel) kX12_readMany_ok (by decide +kernel) (Nat.le_of_ble_eq_true rfl) [4] 40 (fun n t L st _ σ' => (t = 4 ∧ ∃ v i : Int, st = [] ∧ L = [some (.inr (.inr (124))), some (.inl (b)), some (.inl (v)), some (.inl (i))] ∧ (σ = σ' ∧ 0 ≤ i ∧ i ≤ σ 124 12 * σ 124 13 ∧ v = fCnt (fun c => decide (0 ≤ fTop (fun j => σ 147 (90 * b + j)) (fun j => σ 150 (90 * b + j)) (fun j => σ 151 (90 * b + j)) c (σ 154 b).toNat)) i.toNat) ∧ n = (σ 124 12 * σ 124 13 - i).toNat)) ?_ ?_
  · skip
    conv => whnf
    refine ⟨_, ⟨rfl, _, _, rfl, rfl, ?_, rfl⟩⟩
    refine ⟨rfl, by omega, by omega, rfl⟩
  · intro n t L st σ' hk
    obtain ⟨rfl, v, i, rfl, rfl, hc, rfl⟩ := hk
    obtain ⟨rfl, hi0, hi1, hv⟩ := hc
    have hbc := fCnt_le (fun c => decide (0 ≤ fTop (fun j => σ 147 (90 * b + j)) (fun j => σ 150 (90 * b + j)) (fun j => σ 151 (90 * b + j)) c (σ 154 b).toNat)) i.toNat
    conv => whnf
    refine ⟨Nat.le_of_ble_eq_true rfl, Nat.le_of_ble_eq_true rfl, (by first | assumption | rfl), ?_⟩
    refine c_Rcells hd ?_
    conv => whnf
    refine ⟨fun g => ?_, fun g => ?_⟩
    · simp only [sx_cc, Classical.not_not] at g
      conv => whnf
      refine ⟨fun q9 => by first | (simp at q9; done) | omega, ?_⟩
      have e9 : i = σ 124 12 * σ 124 13 := by omega
      rw [e9] at hv
      subst hv
      exact h
    · simp only [sx_cc, Classical.not_not] at g
      conv => whnf
      refine ⟨Nat.le_of_ble_eq_true rfl, Nat.le_of_ble_eq_true rfl, (by first | assumption | rfl), ?_⟩
      refine c_Rread hT hb (by first | assumption | omega) ?_
      conv => whnf
      refine ⟨fun g => ?_, fun g => ?_⟩
      · simp only [sx_cc, Classical.not_not] at g
        conv => whnf
        refine ⟨⟨by omega, by omega⟩, ?_⟩
        conv => whnf
        refine ⟨⟨by omega, by omega⟩, ?_⟩
        conv => whnf
        refine ⟨_, ?_, ⟨rfl, _, _, rfl, rfl, ?_, rfl⟩⟩
        · omega
        · refine ⟨rfl, by omega, by omega, ?_⟩
          rw [fCnt_s hi0, ← hv]
          first | (rw [if_pos (by simp only [decide_eq_true_eq]; omega)]; done) | (rw [if_neg (by simp only [decide_eq_true_eq]; omega)]; done)
      · simp only [sx_cc, Classical.not_not] at g
        conv => whnf
        refine ⟨⟨by omega, by omega⟩, ?_⟩
        conv => whnf
        refine ⟨⟨by omega, by omega⟩, ?_⟩
        conv => whnf
        refine ⟨_, ?_, ⟨rfl, _, _, rfl, rfl, ?_, rfl⟩⟩
        · omega
        · refine ⟨rfl, by omega, by omega, ?_⟩
          rw [fCnt_s hi0, ← hv]
          first | (rw [if_pos (by simp only [decide_eq_true_eq]; omega)]; done) | (rw [if_neg (by simp only [decide_eq_true_eq]; omega)]; done)
set_option maxRecDepth 20000 in
theorem c_Rfind {a f nn x : Int} {m : Nat} (ha : sx_lk shM a = (1, m)) (hf : 0 ≤ f) (hn : 0 ≤ nn) (hm : f + nn ≤ m) (hm2 : m ≤ 100000) (h : Q (some (.inl (fFind (fun j => σ a (f + j)) x nn.toNat))) shM σ) : sx_Run X 192 [.inr (.inr a), .inl f, .inl nn, .inl x] shM σ Q := by
  refine sx_rule2 (own := 12) (cd := kX12_find) (nL := 5) (by decide +kernel) (by decide +kernel) kX12_find_ok (by decide +kernel) (Nat.le_of_ble_eq_true rfl) [3] 40 (fun n t L st _ σ' => (t = 3 ∧ ∃ i : Int, st = [] ∧ L = [some (.inr (.inr (a))), some (.inl (f)), some (.inl (nn)), some (.inl (x)), some (.inl (i))] ∧ (σ = σ' ∧ 0 ≤ i ∧ i ≤ nn ∧ fFind (fun j => σ a (f + j)) x i.toNat = -1) ∧ n = (nn - i).toNat)) ?_ ?_
  · skip
    conv => whnf
    refine ⟨_, ⟨rfl, _, rfl, rfl, ?_, rfl⟩⟩
    refine ⟨rfl, by omega, by omega, rfl⟩
  · intro n t L st σ' hk
    obtain ⟨rfl, i, rfl, rfl, hc, rfl⟩ := hk
    obtain ⟨rfl, hi0, hi1, hv⟩ := hc
    conv => whnf
    refine ⟨fun g => ?_, fun g => ?_⟩
    · simp only [sx_cc, Classical.not_not] at g
      conv => whnf
      refine ⟨fun q9 => by first | (simp at q9; done) | omega, ?_⟩
      have e9 : i = nn := by omega
      rw [e9] at hv
      rw [hv] at h
      exact h
    · simp only [sx_cc, Classical.not_not] at g
      conv => whnf
      refine ⟨⟨by omega, by omega⟩, ?_⟩
      conv => whnf
      refine ⟨sx_ixI (by first | assumption | rfl) (by omega) (by omega), ?_⟩
      try simp (disch := omega) only [Int.cast_ofNat_Int, up_s, up_a, up_i, mp_a, mp_ge, cp_a]
      conv => whnf
      refine ⟨fun g => ?_, fun g => ?_⟩
      · simp only [sx_cc, Classical.not_not] at g
        conv => whnf
        refine ⟨⟨by omega, by omega⟩, ?_⟩
        conv => whnf
        refine ⟨_, ?_, ⟨rfl, _, rfl, rfl, ?_, rfl⟩⟩
        · omega
        · refine ⟨rfl, by omega, by omega, ?_⟩
          rw [fFind_s hi0, if_pos hv, if_neg g]
      · simp only [sx_cc, Classical.not_not] at g
        conv => whnf
        refine ⟨fun q9 => by first | (simp at q9; done) | omega, ?_⟩
        have e8 := fFind_hit (n := nn.toNat) hi0 (by omega) hv g
        rw [e8] at h
        exact h
end SXR1
