/-! THE LEXER: numbers (by wip/whole) -/
section SXO5
variable {X : sx_X} {Q : sx_R} {σ σ0 σ' σ1 σ2 : sx_S} {tx : Int → Int} {n9 : Int}
/-- the reference reads tx -/
def rLx (σ : sx_S) (tx : Int → Int) (n9 : Int) : Prop := σ 124 0 = 125 ∧ σ 124 6 = n9 ∧ (0 ≤ n9 ∧ n9 ≤ 700) ∧ ∀ i : Int, 0 ≤ i → i < n9 → σ 125 i = tx i
theorem pLx_of (h : pLx σ tx n9) (e : ∀ a i : Int, (a = 33 ∧ (i = 0 ∨ i = 1)) ∨ a = 1 → σ' a i = σ a i) : pLx σ' tx n9 := by
  obtain ⟨x0, x1, x2, x3⟩ := h
  exact ⟨(e _ _ (by decide)).trans x0, (e _ _ (by decide)).trans x1, x2, fun i y0 y1 => by rw [e _ _ (Or.inr rfl)]; exact x3 i y0 y1⟩
theorem rLx_of (h : rLx σ tx n9) (e : ∀ a i : Int, (a = 124 ∧ (i = 0 ∨ i = 6)) ∨ a = 125 → σ' a i = σ a i) : rLx σ' tx n9 := by
  obtain ⟨x0, x1, x2, x3⟩ := h
  exact ⟨(e _ _ (by decide)).trans x0, (e _ _ (by decide)).trans x1, x2, fun i y0 y1 => by rw [e _ _ (Or.inr rfl)]; exact x3 i y0 y1⟩
set_option maxRecDepth 20000 in
theorem c_Rsmall (hx : rLx σ tx n9) {i : Int} (hi : 0 ≤ i) (h1 : pLet (fTx tx n9 i) → Q (some (.inl 1)) shM σ) (h0 : ¬ (pLet (fTx tx n9 i)) → Q (some (.inl 0)) shM σ) : sx_Run X 181 [.inr (.inr 124), .inl i] shM σ Q := by
  obtain ⟨x0, x1, x2, x3⟩ := hx
  have lk1 : sx_lk shM 125 = (1, 700) := rfl
  refine sx_rule0 (own := 12) (cd := kX12_isSmall) (nL := 2) (by decide +kernel) (by decide +kernel) kX12_isSmall_ok (by decide +kernel) (Nat.le_of_ble_eq_true rfl) 40 ?_
  conv => whnf
  refine ⟨(by first | assumption | rfl), ?_⟩
  try simp (disch := omega) only [Int.cast_ofNat_Int, up_s, up_a, up_i, mp_a, mp_ge]
  try simp only [x0]
  try simp only [x1]
  try simp only [et]
  conv => whnf
  refine ⟨fun g => ?_, fun g => ?_⟩
  · simp only [sx_cc, Classical.not_not] at g
    have ef : fTx tx n9 i = 0 := if_neg (by omega)
    conv => whnf
    refine ⟨fun q9 => by first | (simp at q9; done) | omega, ?_⟩
    first | exact h1 (by rw [ef]; exact ⟨by omega, by omega⟩) | exact h0 (fun z9 => by rw [ef] at z9; omega)
  · simp only [sx_cc, Classical.not_not] at g
    have et := x3 i hi (by omega)
    have ef : fTx tx n9 i = tx i := if_pos (by omega)
    conv => whnf
    refine ⟨(by first | assumption | rfl), ?_⟩
    try simp (disch := omega) only [Int.cast_ofNat_Int, up_s, up_a, up_i, mp_a, mp_ge]
    try simp only [x0]
    try simp only [x1]
    try simp only [et]
    conv => whnf
    refine ⟨sx_ixI (by first | assumption | rfl) (by omega) (by omega), ?_⟩
    try simp (disch := omega) only [Int.cast_ofNat_Int, up_s, up_a, up_i, mp_a, mp_ge]
    try simp only [x0]
    try simp only [x1]
    try simp only [et]
    conv => whnf
    refine ⟨fun g => ?_, fun g => ?_⟩
    · simp only [sx_cc, Classical.not_not] at g
      conv => whnf
      refine ⟨fun q9 => by first | (simp at q9; done) | omega, ?_⟩
      first | exact h1 (by rw [ef]; exact ⟨by omega, by omega⟩) | exact h0 (fun z9 => by rw [ef] at z9; omega)
    · simp only [sx_cc, Classical.not_not] at g
      conv => whnf
      refine ⟨(by first | assumption | rfl), ?_⟩
      try simp (disch := omega) only [Int.cast_ofNat_Int, up_s, up_a, up_i, mp_a, mp_ge]
      try simp only [x0]
      try simp only [x1]
      try simp only [et]
      conv => whnf
      refine ⟨sx_ixI (by first | assumption | rfl) (by omega) (by omega), ?_⟩
      try simp (disch := omega) only [Int.cast_ofNat_Int, up_s, up_a, up_i, mp_a, mp_ge]
      try simp only [x0]
      try simp only [x1]
      try simp only [et]
      conv => whnf
      refine ⟨fun g => ?_, fun g => ?_⟩
      · simp only [sx_cc, Classical.not_not] at g
        conv => whnf
        refine ⟨fun q9 => by first | (simp at q9; done) | omega, ?_⟩
        first | exact h1 (by rw [ef]; exact ⟨by omega, by omega⟩) | exact h0 (fun z9 => by rw [ef] at z9; omega)
      · simp only [sx_cc, Classical.not_not] at g
        conv => whnf
        refine ⟨fun q9 => by first | (simp at q9; done) | omega, ?_⟩
        first | exact h1 (by rw [ef]; exact ⟨by omega, by omega⟩) | exact h0 (fun z9 => by rw [ef] at z9; omega)
set_option maxRecDepth 20000 in
theorem c_Rdigit (hx : rLx σ tx n9) {i : Int} (hi : 0 ≤ i) (h1 : pDig (fTx tx n9 i) → Q (some (.inl 1)) shM σ) (h0 : ¬ (pDig (fTx tx n9 i)) → Q (some (.inl 0)) shM σ) : sx_Run X 182 [.inr (.inr 124), .inl i] shM σ Q := by
  obtain ⟨x0, x1, x2, x3⟩ := hx
  have lk1 : sx_lk shM 125 = (1, 700) := rfl
  refine sx_rule0 (own := 12) (cd := kX12_isDigit) (nL := 2) (by decide +kernel) (by decide +kernel) kX12_isDigit_ok (by decide +kernel) (Nat.le_of_ble_eq_true rfl) 40 ?_
  conv => whnf
  refine ⟨(by first | assumption | rfl), ?_⟩
  try simp (disch := omega) only [Int.cast_ofNat_Int, up_s, up_a, up_i, mp_a, mp_ge]
  try simp only [x0]
  try simp only [x1]
  try simp only [et]
  conv => whnf
  refine ⟨fun g => ?_, fun g => ?_⟩
  · simp only [sx_cc, Classical.not_not] at g
    have ef : fTx tx n9 i = 0 := if_neg (by omega)
    conv => whnf
    refine ⟨fun q9 => by first | (simp at q9; done) | omega, ?_⟩
    first | exact h1 (by rw [ef]; exact ⟨by omega, by omega⟩) | exact h0 (fun z9 => by rw [ef] at z9; omega)
  · simp only [sx_cc, Classical.not_not] at g
    have et := x3 i hi (by omega)
    have ef : fTx tx n9 i = tx i := if_pos (by omega)
    conv => whnf
    refine ⟨(by first | assumption | rfl), ?_⟩
    try simp (disch := omega) only [Int.cast_ofNat_Int, up_s, up_a, up_i, mp_a, mp_ge]
    try simp only [x0]
    try simp only [x1]
    try simp only [et]
    conv => whnf
    refine ⟨sx_ixI (by first | assumption | rfl) (by omega) (by omega), ?_⟩
    try simp (disch := omega) only [Int.cast_ofNat_Int, up_s, up_a, up_i, mp_a, mp_ge]
    try simp only [x0]
    try simp only [x1]
    try simp only [et]
    conv => whnf
    refine ⟨fun g => ?_, fun g => ?_⟩
    · simp only [sx_cc, Classical.not_not] at g
      conv => whnf
      refine ⟨fun q9 => by first | (simp at q9; done) | omega, ?_⟩
      first | exact h1 (by rw [ef]; exact ⟨by omega, by omega⟩) | exact h0 (fun z9 => by rw [ef] at z9; omega)
    · simp only [sx_cc, Classical.not_not] at g
      conv => whnf
      refine ⟨(by first | assumption | rfl), ?_⟩
      try simp (disch := omega) only [Int.cast_ofNat_Int, up_s, up_a, up_i, mp_a, mp_ge]
      try simp only [x0]
      try simp only [x1]
      try simp only [et]
      conv => whnf
      refine ⟨sx_ixI (by first | assumption | rfl) (by omega) (by omega), ?_⟩
      try simp (disch := omega) only [Int.cast_ofNat_Int, up_s, up_a, up_i, mp_a, mp_ge]
      try simp only [x0]
      try simp only [x1]
      try simp only [et]
      conv => whnf
      refine ⟨fun g => ?_, fun g => ?_⟩
      · simp only [sx_cc, Classical.not_not] at g
        conv => whnf
        refine ⟨fun q9 => by first | (simp at q9; done) | omega, ?_⟩
        first | exact h1 (by rw [ef]; exact ⟨by omega, by omega⟩) | exact h0 (fun z9 => by rw [ef] at z9; omega)
      · simp only [sx_cc, Classical.not_not] at g
        conv => whnf
        refine ⟨fun q9 => by first | (simp at q9; done) | omega, ?_⟩
        first | exact h1 (by rw [ef]; exact ⟨by omega, by omega⟩) | exact h0 (fun z9 => by rw [ef] at z9; omega)
set_option maxRecDepth 20000 in
theorem c_Xnext (hx : pLx σ tx n9) {y s9 : Int} (en : σ 33 2 = y) (hy : 0 ≤ y ∧ y ≤ 700) (h1 : fTx tx n9 y = s9 → Q (some (.inl 1)) shM (sx_up σ 33 2 (y + 1))) (h0 : ¬ fTx tx n9 y = s9 → Q (some (.inl 0)) shM σ) : sx_Run X 23 [.inr (.inr 33), .inl s9] shM σ Q := by
  refine sx_rule0 (own := 2) (cd := kX2_takeNext) (nL := 2) (by decide +kernel) (by decide +kernel) kX2_takeNext_ok (by decide +kernel) (Nat.le_of_ble_eq_true rfl) 40 ?_
  conv => whnf
  refine ⟨(by first | assumption | rfl), ?_⟩
  try simp (disch := omega) only [Int.cast_ofNat_Int, up_s, up_a, up_i, mp_a, mp_ge]
  try simp only [en]
  conv => whnf
  refine ⟨Nat.le_of_ble_eq_true rfl, Nat.le_of_ble_eq_true rfl, (by first | assumption | rfl), ?_⟩
  refine c_Xbyte hx hy.1 ?_
  conv => whnf
  refine ⟨fun g => ?_, fun g => ?_⟩
  · simp only [sx_cc, Classical.not_not] at g
    conv => whnf
    refine ⟨(by first | assumption | rfl), ?_⟩
    try simp (disch := omega) only [Int.cast_ofNat_Int, up_s, up_a, up_i, mp_a, mp_ge]
    try simp only [en]
    conv => whnf
    refine ⟨⟨by omega, by omega⟩, ?_⟩
    conv => whnf
    refine ⟨(by first | assumption | rfl), ?_⟩
    try simp (disch := omega) only [Int.cast_ofNat_Int, up_s, up_a, up_i, mp_a, mp_ge]
    try simp only [en]
    conv => whnf
    refine ⟨fun q9 => by first | (simp at q9; done) | omega, ?_⟩
    first | exact h1 (by assumption) | exact h0 (by assumption)
  · simp only [sx_cc, Classical.not_not] at g
    conv => whnf
    refine ⟨fun q9 => by first | (simp at q9; done) | omega, ?_⟩
    first | exact h1 (by assumption) | exact h0 (by assumption)
end SXO5
