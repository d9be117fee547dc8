/-! THE LEXER: bytes (by wip/whole) -/
section SXO4
variable {X : sx_X} {Q : sx_R} {σ σ0 σ' σ1 σ2 : sx_S} {tx : Int → Int} {n9 : Int}
/-- the text's bytes, n9 of them -/
def fTx (tx : Int → Int) (n9 i : Int) : Int := if i < n9 then tx i else 0
/-- the class's lexer reads tx -/
def pLx (σ : sx_S) (tx : Int → Int) (n9 : Int) : Prop := σ 33 0 = 1 ∧ σ 33 1 = n9 ∧ (0 ≤ n9 ∧ n9 ≤ 700) ∧ ∀ i : Int, 0 ≤ i → i < n9 → sx_and (σ 1 i) 255 = tx i
abbrev pLet (x : Int) : Prop := 97 ≤ x ∧ x ≤ 122
abbrev pDig (x : Int) : Prop := 48 ≤ x ∧ x ≤ 57
set_option maxRecDepth 20000 in
theorem c_Xletter {x : Int} (h1 : pLet x → Q (some (.inl 1)) shM σ) (h0 : ¬ (pLet x) → Q (some (.inl 0)) shM σ) : sx_Run X 17 [.inl x] shM σ Q := by
  refine sx_rule0 (own := 2) (cd := kX2_isLetter) (nL := 1) (by decide +kernel) (by decide +kernel) kX2_isLetter_ok (by decide +kernel) (Nat.le_of_ble_eq_true rfl) 40 ?_
  conv => whnf
  refine ⟨fun g => ?_, fun g => ?_⟩
  · simp only [sx_cc, Classical.not_not] at g
    conv => whnf
    refine ⟨fun q9 => by first | (simp at q9; done) | omega, ?_⟩
    first | exact h1 ⟨by omega, by omega⟩ | exact h0 (fun z9 => by omega)
  · simp only [sx_cc, Classical.not_not] at g
    conv => whnf
    refine ⟨fun g => ?_, fun g => ?_⟩
    · simp only [sx_cc, Classical.not_not] at g
      conv => whnf
      refine ⟨fun q9 => by first | (simp at q9; done) | omega, ?_⟩
      first | exact h1 ⟨by omega, by omega⟩ | exact h0 (fun z9 => by omega)
    · simp only [sx_cc, Classical.not_not] at g
      conv => whnf
      refine ⟨fun q9 => by first | (simp at q9; done) | omega, ?_⟩
      first | exact h1 ⟨by omega, by omega⟩ | exact h0 (fun z9 => by omega)
set_option maxRecDepth 20000 in
theorem c_Xdigit {x : Int} (h1 : pDig x → Q (some (.inl 1)) shM σ) (h0 : ¬ (pDig x) → Q (some (.inl 0)) shM σ) : sx_Run X 18 [.inl x] shM σ Q := by
  refine sx_rule0 (own := 2) (cd := kX2_isDigit) (nL := 1) (by decide +kernel) (by decide +kernel) kX2_isDigit_ok (by decide +kernel) (Nat.le_of_ble_eq_true rfl) 40 ?_
  conv => whnf
  refine ⟨fun g => ?_, fun g => ?_⟩
  · simp only [sx_cc, Classical.not_not] at g
    conv => whnf
    refine ⟨fun q9 => by first | (simp at q9; done) | omega, ?_⟩
    first | exact h1 ⟨by omega, by omega⟩ | exact h0 (fun z9 => by omega)
  · simp only [sx_cc, Classical.not_not] at g
    conv => whnf
    refine ⟨fun g => ?_, fun g => ?_⟩
    · simp only [sx_cc, Classical.not_not] at g
      conv => whnf
      refine ⟨fun q9 => by first | (simp at q9; done) | omega, ?_⟩
      first | exact h1 ⟨by omega, by omega⟩ | exact h0 (fun z9 => by omega)
    · simp only [sx_cc, Classical.not_not] at g
      conv => whnf
      refine ⟨fun q9 => by first | (simp at q9; done) | omega, ?_⟩
      first | exact h1 ⟨by omega, by omega⟩ | exact h0 (fun z9 => by omega)
set_option maxRecDepth 20000 in
theorem c_Xbyte (hx : pLx σ tx n9) {i : Int} (hi : 0 ≤ i) (h : Q (some (.inl (fTx tx n9 i))) shM σ) : sx_Run X 15 [.inr (.inr 33), .inl i] shM σ Q := by
  obtain ⟨x0, x1, x2, x3⟩ := hx
  have lk1 : sx_lk shM 1 = (3, 700) := rfl
  refine sx_rule0 (own := 2) (cd := kX2_byteAt) (nL := 2) (by decide +kernel) (by decide +kernel) kX2_byteAt_ok (by decide +kernel) (Nat.le_of_ble_eq_true rfl) 40 ?_
  conv => whnf
  refine ⟨(by first | assumption | rfl), ?_⟩
  try simp (disch := omega) only [Int.cast_ofNat_Int, up_s, up_a, up_i, mp_a, mp_ge]
  try simp only [x0]
  try simp only [x1]
  try simp only [lk1]
  conv => whnf
  refine ⟨fun g => ?_, fun g => ?_⟩
  · simp only [sx_cc, Classical.not_not] at g
    conv => whnf
    refine ⟨fun q9 => by first | (simp at q9; done) | omega, ?_⟩
    first | (rw [show fTx tx n9 i = tx i from if_pos (by omega), ← x3 i hi (by omega)] at h; exact h) | (rw [show fTx tx n9 i = 0 from if_neg (by omega)] at h; exact h)
  · simp only [sx_cc, Classical.not_not] at g
    conv => whnf
    refine ⟨(by first | assumption | rfl), ?_⟩
    try simp (disch := omega) only [Int.cast_ofNat_Int, up_s, up_a, up_i, mp_a, mp_ge]
    try simp only [x0]
    try simp only [x1]
    try simp only [lk1]
    conv => whnf
    refine ⟨by first | decide | (simp only [lk1]; decide), ?_⟩
    try simp (disch := omega) only [Int.cast_ofNat_Int, up_s, up_a, up_i, mp_a, mp_ge]
    try simp only [x0]
    try simp only [x1]
    try simp only [lk1]
    conv => whnf
    refine ⟨fun g => ?_, fun g => ?_⟩
    · simp only [sx_cc, Classical.not_not] at g
      omega
    · simp only [sx_cc, Classical.not_not] at g
      conv => whnf
      refine ⟨(by first | assumption | rfl), ?_⟩
      try simp (disch := omega) only [Int.cast_ofNat_Int, up_s, up_a, up_i, mp_a, mp_ge]
      try simp only [x0]
      try simp only [x1]
      try simp only [lk1]
      conv => whnf
      refine ⟨by decide, ?_⟩
      conv => whnf
      refine ⟨sx_ixI (by first | assumption | rfl) (by omega) (by omega), ?_⟩
      try simp (disch := omega) only [Int.cast_ofNat_Int, up_s, up_a, up_i, mp_a, mp_ge]
      try simp only [x0]
      try simp only [x1]
      try simp only [lk1]
      conv => whnf
      refine ⟨fun q9 => by first | (simp at q9; done) | omega, ?_⟩
      first | (rw [show fTx tx n9 i = tx i from if_pos (by omega), ← x3 i hi (by omega)] at h; exact h) | (rw [show fTx tx n9 i = 0 from if_neg (by omega)] at h; exact h)
end SXO4
