/-! THE REFERENCE: cells, reading, trails (by wip/whole) -/
section SXR2
variable {X : sx_X} {σ σ0 : sx_S} {Q : sx_R}
set_option maxRecDepth 20000 in
theorem c_Rbefore (hT : PT σ) (hn : 0 ≤ σ 154 0 ∧ σ 154 0 ≤ 90) (hd : RD σ) (hl : ∀ i : Int, 0 ≤ i → i < σ 154 0 → 0 ≤ σ 146 i ∧ σ 146 i < 5) (hce : ∀ i : Int, 0 ≤ i → i < σ 154 0 → 0 ≤ σ 147 i ∧ σ 147 i < 48) {k : Int} (hk : 0 ≤ k ∧ k < σ 154 0) (h : Q (some (.inl (fBef (σ 124 12) (σ 133) (σ 146) (σ 147) (σ 150) k k.toNat))) shM σ) : sx_Run X 262 [.inr (.inr 124), .inl k] shM σ Q := by
  have r30 := pt_124_30 hT
  have r31 := pt_124_31 hT
  have r32 := pt_124_32 hT
  have r33 := pt_124_33 hT
  have r34 := pt_124_34 hT
  have r35 := pt_124_35 hT
  have r36 := pt_124_36 hT
  have r37 := pt_124_37 hT
  have r38 := pt_124_38 hT
  have r57 := pt_124_57 hT
  have r58 := pt_124_58 hT
  have r59 := pt_124_59 hT
  have r60 := pt_124_60 hT
  have r61 := pt_124_61 hT
  have r62 := pt_124_62 hT
  have r63 := pt_124_63 hT
  have r64 := pt_124_64 hT
  have r65 := pt_124_65 hT
  have r66 := pt_124_66 hT
  have r67 := pt_124_67 hT
  have r68 := pt_124_68 hT
  have r69 := pt_124_69 hT
  have r70 := pt_124_70 hT
  have r71 := pt_124_71 hT
  refine sx_rule2 (own := 12) (cd := kX12_before) (nL := 3) (by decide +kernel) (by decide +kernel) kX12_before_ok (by decide +kernel) (Nat.le_of_ble_eq_true rfl) [4] 40 (fun n t L st _ σ' => (t = 4 ∧ ∃ i : Int, st = [] ∧ L = [some (.inr (.inr (124))), some (.inl (k)), some (.inl (i))] ∧ (σ = σ' ∧ -1 ≤ i ∧ i < k ∧ fBef (σ 124 12) (σ 133) (σ 146) (σ 147) (σ 150) k k.toNat = fBef (σ 124 12) (σ 133) (σ 146) (σ 147) (σ 150) k (i + 1).toNat) ∧ n = (i + 1).toNat)) ?_ ?_
  · skip
    conv => whnf
    refine ⟨⟨by omega, by omega⟩, ?_⟩
    conv => whnf
    refine ⟨_, ⟨rfl, _, rfl, rfl, ?_, rfl⟩⟩
    refine ⟨rfl, by omega, by omega, ?_⟩
    rw [show k - 1 + 1 = k by omega]
  · intro n t L st σ' hk
    obtain ⟨rfl, i, rfl, rfl, hc, rfl⟩ := hk
    obtain ⟨rfl, hi0, hi1, hv⟩ := hc
    conv => whnf
    refine ⟨fun g => ?_, fun g => ?_⟩
    · simp only [sx_cc, Classical.not_not] at g
      conv => whnf
      refine ⟨fun q9 => by first | (simp at q9; done) | omega, ?_⟩
      have e9 : i = -1 := by omega
      subst e9
      rw [hv] at h
      exact h
    · simp only [sx_cc, Classical.not_not] at g
      conv => whnf
      refine ⟨(by first | assumption | rfl), ?_⟩
      try simp (disch := omega) only [Int.cast_ofNat_Int, up_s, up_a, up_i, mp_a, mp_ge, cp_a, r30, r31, r32, r33, r34, r35, r36, r37, r38, r57, r58, r59, r60, r61, r62, r63, r64, r65, r66, r67, r68, r69, r70, r71]
      conv => whnf
      refine ⟨sx_ixI (by first | assumption | rfl) (by first | omega | (have := hl k (by omega) (by omega); omega)) (by first | omega | (have := hl k (by omega) (by omega); omega)), ?_⟩
      try simp (disch := omega) only [Int.cast_ofNat_Int, up_s, up_a, up_i, mp_a, mp_ge, cp_a, r30, r31, r32, r33, r34, r35, r36, r37, r38, r57, r58, r59, r60, r61, r62, r63, r64, r65, r66, r67, r68, r69, r70, r71]
      conv => whnf
      refine ⟨fun g => ?_, fun g => ?_⟩
      · simp only [sx_cc, Classical.not_not] at g
        conv => whnf
        refine ⟨⟨by omega, by omega⟩, ?_⟩
        conv => whnf
        refine ⟨_, ?_, ⟨rfl, _, rfl, rfl, ?_, rfl⟩⟩
        · omega
        · refine ⟨rfl, by omega, by omega, ?_⟩
          rw [hv, fBef_s (by omega), if_neg (by have := fFar_comm (σ 124 12) (σ 147 i) (σ 147 k); omega), show i + -1 + 1 = i by omega]
      · simp only [sx_cc, Classical.not_not] at g
        conv => whnf
        refine ⟨(by first | assumption | rfl), ?_⟩
        try simp (disch := omega) only [Int.cast_ofNat_Int, up_s, up_a, up_i, mp_a, mp_ge, cp_a, r30, r31, r32, r33, r34, r35, r36, r37, r38, r57, r58, r59, r60, r61, r62, r63, r64, r65, r66, r67, r68, r69, r70, r71]
        conv => whnf
        refine ⟨sx_ixI (by first | assumption | rfl) (by first | omega | (have := hl k (by omega) (by omega); omega)) (by first | omega | (have := hl k (by omega) (by omega); omega)), ?_⟩
        try simp (disch := omega) only [Int.cast_ofNat_Int, up_s, up_a, up_i, mp_a, mp_ge, cp_a, r30, r31, r32, r33, r34, r35, r36, r37, r38, r57, r58, r59, r60, r61, r62, r63, r64, r65, r66, r67, r68, r69, r70, r71]
        conv => whnf
        refine ⟨(by first | assumption | rfl), ?_⟩
        try simp (disch := omega) only [Int.cast_ofNat_Int, up_s, up_a, up_i, mp_a, mp_ge, cp_a, r30, r31, r32, r33, r34, r35, r36, r37, r38, r57, r58, r59, r60, r61, r62, r63, r64, r65, r66, r67, r68, r69, r70, r71]
        conv => whnf
        refine ⟨sx_ixI (by first | assumption | rfl) (by first | omega | (have := hl k (by omega) (by omega); omega)) (by first | omega | (have := hl k (by omega) (by omega); omega)), ?_⟩
        try simp (disch := omega) only [Int.cast_ofNat_Int, up_s, up_a, up_i, mp_a, mp_ge, cp_a, r30, r31, r32, r33, r34, r35, r36, r37, r38, r57, r58, r59, r60, r61, r62, r63, r64, r65, r66, r67, r68, r69, r70, r71]
        conv => whnf
        refine ⟨fun g => ?_, fun g => ?_⟩
        · simp only [sx_cc, Classical.not_not] at g
          conv => whnf
          refine ⟨⟨by omega, by omega⟩, ?_⟩
          conv => whnf
          refine ⟨_, ?_, ⟨rfl, _, rfl, rfl, ?_, rfl⟩⟩
          · omega
          · refine ⟨rfl, by omega, by omega, ?_⟩
            rw [hv, fBef_s (by omega), if_neg (by have := fFar_comm (σ 124 12) (σ 147 i) (σ 147 k); omega), show i + -1 + 1 = i by omega]
        · simp only [sx_cc, Classical.not_not] at g
          conv => whnf
          refine ⟨(by first | assumption | rfl), ?_⟩
          try simp (disch := omega) only [Int.cast_ofNat_Int, up_s, up_a, up_i, mp_a, mp_ge, cp_a, r30, r31, r32, r33, r34, r35, r36, r37, r38, r57, r58, r59, r60, r61, r62, r63, r64, r65, r66, r67, r68, r69, r70, r71]
          conv => whnf
          refine ⟨sx_ixI (by first | assumption | rfl) (by first | omega | (have := hl k (by omega) (by omega); omega)) (by first | omega | (have := hl k (by omega) (by omega); omega)), ?_⟩
          try simp (disch := omega) only [Int.cast_ofNat_Int, up_s, up_a, up_i, mp_a, mp_ge, cp_a, r30, r31, r32, r33, r34, r35, r36, r37, r38, r57, r58, r59, r60, r61, r62, r63, r64, r65, r66, r67, r68, r69, r70, r71]
          conv => whnf
          refine ⟨(by first | assumption | rfl), ?_⟩
          try simp (disch := omega) only [Int.cast_ofNat_Int, up_s, up_a, up_i, mp_a, mp_ge, cp_a, r30, r31, r32, r33, r34, r35, r36, r37, r38, r57, r58, r59, r60, r61, r62, r63, r64, r65, r66, r67, r68, r69, r70, r71]
          conv => whnf
          refine ⟨sx_ixI (by first | assumption | rfl) (by first | omega | (have := hl k (by omega) (by omega); omega)) (by first | omega | (have := hl k (by omega) (by omega); omega)), ?_⟩
          try simp (disch := omega) only [Int.cast_ofNat_Int, up_s, up_a, up_i, mp_a, mp_ge, cp_a, r30, r31, r32, r33, r34, r35, r36, r37, r38, r57, r58, r59, r60, r61, r62, r63, r64, r65, r66, r67, r68, r69, r70, r71]
          conv => whnf
          refine ⟨Nat.le_of_ble_eq_true rfl, Nat.le_of_ble_eq_true rfl, (by first | assumption | rfl), ?_⟩
          refine c_Rfar hd (by first | assumption | exact hce _ (by omega) (by omega) | exact ⟨by omega, by omega⟩) (by first | assumption | exact hce _ (by omega) (by omega) | exact ⟨by omega, by omega⟩) ?_
          conv => whnf
          refine ⟨(by first | assumption | rfl), ?_⟩
          try simp (disch := omega) only [Int.cast_ofNat_Int, up_s, up_a, up_i, mp_a, mp_ge, cp_a, r30, r31, r32, r33, r34, r35, r36, r37, r38, r57, r58, r59, r60, r61, r62, r63, r64, r65, r66, r67, r68, r69, r70, r71]
          conv => whnf
          refine ⟨(by first | assumption | rfl), ?_⟩
          try simp (disch := omega) only [Int.cast_ofNat_Int, up_s, up_a, up_i, mp_a, mp_ge, cp_a, r30, r31, r32, r33, r34, r35, r36, r37, r38, r57, r58, r59, r60, r61, r62, r63, r64, r65, r66, r67, r68, r69, r70, r71]
          conv => whnf
          refine ⟨sx_ixI (by first | assumption | rfl) (by first | omega | (have := hl k (by omega) (by omega); omega)) (by first | omega | (have := hl k (by omega) (by omega); omega)), ?_⟩
          try simp (disch := omega) only [Int.cast_ofNat_Int, up_s, up_a, up_i, mp_a, mp_ge, cp_a, r30, r31, r32, r33, r34, r35, r36, r37, r38, r57, r58, r59, r60, r61, r62, r63, r64, r65, r66, r67, r68, r69, r70, r71]
          conv => whnf
          refine ⟨sx_ixI (by first | assumption | rfl) (by first | omega | (have := hl k (by omega) (by omega); omega)) (by first | omega | (have := hl k (by omega) (by omega); omega)), ?_⟩
          try simp (disch := omega) only [Int.cast_ofNat_Int, up_s, up_a, up_i, mp_a, mp_ge, cp_a, r30, r31, r32, r33, r34, r35, r36, r37, r38, r57, r58, r59, r60, r61, r62, r63, r64, r65, r66, r67, r68, r69, r70, r71]
          conv => whnf
          refine ⟨fun g => ?_, fun g => ?_⟩
          · simp only [sx_cc, Classical.not_not] at g
            conv => whnf
            refine ⟨⟨by omega, by omega⟩, ?_⟩
            conv => whnf
            refine ⟨_, ?_, ⟨rfl, _, rfl, rfl, ?_, rfl⟩⟩
            · omega
            · refine ⟨rfl, by omega, by omega, ?_⟩
              rw [hv, fBef_s (by omega), if_neg (by have := fFar_comm (σ 124 12) (σ 147 i) (σ 147 k); omega), show i + -1 + 1 = i by omega]
          · simp only [sx_cc, Classical.not_not] at g
            conv => whnf
            refine ⟨fun q9 => by first | (simp at q9; done) | omega, ?_⟩
            rw [fFar_comm] at g
            rw [hv, fBef_s (by omega), if_pos ⟨by omega, by omega, by omega⟩] at h
            exact h
set_option maxRecDepth 20000 in
theorem c_Rcloses (hT : PT σ) (hn : 0 ≤ σ 154 0 ∧ σ 154 0 ≤ 90) (hd : RD σ) (hl : ∀ i : Int, 0 ≤ i → i < σ 154 0 → 0 ≤ σ 146 i ∧ σ 146 i < 5) (hce : ∀ i : Int, 0 ≤ i → i < σ 154 0 → 0 ≤ σ 147 i ∧ σ 147 i < 48) (hho : ∀ i : Int, 0 ≤ i → i < σ 124 15 → 0 ≤ σ 134 i ∧ σ 134 i < σ 124 12 * σ 124 13) (hlw : ∀ i : Int, 0 ≤ i → i < σ 154 0 → σ 146 i < σ 124 15) {k : Int} (hk : 0 ≤ k ∧ k < σ 154 0) (h1 : pClo (σ 124 12) (σ 124 13) (σ 127) (σ 133) (σ 134) (σ 146) (σ 147) (σ 150) k → Q (some (.inl 1)) shM σ) (h0 : ¬ pClo (σ 124 12) (σ 124 13) (σ 127) (σ 133) (σ 134) (σ 146) (σ 147) (σ 150) k → Q (some (.inl 0)) shM σ) : sx_Run X 263 [.inr (.inr 124), .inl k] shM σ Q := by
  have r30 := pt_124_30 hT
  have r31 := pt_124_31 hT
  have r32 := pt_124_32 hT
  have r33 := pt_124_33 hT
  have r34 := pt_124_34 hT
  have r35 := pt_124_35 hT
  have r36 := pt_124_36 hT
  have r37 := pt_124_37 hT
  have r38 := pt_124_38 hT
  have r57 := pt_124_57 hT
  have r58 := pt_124_58 hT
  have r59 := pt_124_59 hT
  have r60 := pt_124_60 hT
  have r61 := pt_124_61 hT
  have r62 := pt_124_62 hT
  have r63 := pt_124_63 hT
  have r64 := pt_124_64 hT
  have r65 := pt_124_65 hT
  have r66 := pt_124_66 hT
  have r67 := pt_124_67 hT
  have r68 := pt_124_68 hT
  have r69 := pt_124_69 hT
  have r70 := pt_124_70 hT
  have r71 := pt_124_71 hT
  have hlk := hl k hk.1 hk.2
  have hck := hce k hk.1 hk.2
  have hwm := hd.mul
  have hhk := hho (σ 146 k) hlk.1 (hlw k hk.1 hk.2)
  refine sx_rule2 (own := 12) (cd := kX12_closes) (nL := 4) (by decide +kernel) (by decide +kernel) kX12_closes_ok (by decide +kernel) (Nat.le_of_ble_eq_true rfl) [24] 40 (fun n t L st _ σ' => (t = 24 ∧ ∃ i : Int, st = [] ∧ L = [some (.inr (.inr (124))), some (.inl (k)), some (.inl (σ 133 (σ 146 k))), some (.inl (i))] ∧ (σ = σ' ∧ 0 ≤ i ∧ i ≤ σ 124 12 * σ 124 13 ∧ fBef (σ 124 12) (σ 133) (σ 146) (σ 147) (σ 150) k k.toNat = -1 ∧ ∀ c : Int, 0 ≤ c → c < i → (¬ σ 127 c = 0 ∨ c = σ 134 (σ 146 k)) → ¬ pNear (σ 124 12) (σ 133) (σ 146) (σ 147) k c) ∧ n = (σ 124 12 * σ 124 13 - i).toNat)) ?_ ?_
  · skip
    conv => whnf
    refine ⟨(by first | assumption | rfl), ?_⟩
    try simp (disch := omega) only [Int.cast_ofNat_Int, up_s, up_a, up_i, mp_a, mp_ge, cp_a, r30, r31, r32, r33, r34, r35, r36, r37, r38, r57, r58, r59, r60, r61, r62, r63, r64, r65, r66, r67, r68, r69, r70, r71]
    conv => whnf
    refine ⟨(by first | assumption | rfl), ?_⟩
    try simp (disch := omega) only [Int.cast_ofNat_Int, up_s, up_a, up_i, mp_a, mp_ge, cp_a, r30, r31, r32, r33, r34, r35, r36, r37, r38, r57, r58, r59, r60, r61, r62, r63, r64, r65, r66, r67, r68, r69, r70, r71]
    conv => whnf
    refine ⟨sx_ixI (by first | assumption | rfl) (by omega) (by omega), ?_⟩
    try simp (disch := omega) only [Int.cast_ofNat_Int, up_s, up_a, up_i, mp_a, mp_ge, cp_a, r30, r31, r32, r33, r34, r35, r36, r37, r38, r57, r58, r59, r60, r61, r62, r63, r64, r65, r66, r67, r68, r69, r70, r71]
    conv => whnf
    refine ⟨sx_ixI (by first | assumption | rfl) (by omega) (by omega), ?_⟩
    try simp (disch := omega) only [Int.cast_ofNat_Int, up_s, up_a, up_i, mp_a, mp_ge, cp_a, r30, r31, r32, r33, r34, r35, r36, r37, r38, r57, r58, r59, r60, r61, r62, r63, r64, r65, r66, r67, r68, r69, r70, r71]
    conv => whnf
    refine ⟨Nat.le_of_ble_eq_true rfl, Nat.le_of_ble_eq_true rfl, (by first | assumption | rfl), ?_⟩
    refine c_Rbefore hT hn hd hl hce ⟨by omega, by omega⟩ ?_
    conv => whnf
    refine ⟨fun g => ?_, fun g => ?_⟩
    · simp only [sx_cc, Classical.not_not] at g
      conv => whnf
      refine ⟨_, ⟨rfl, _, rfl, rfl, ?_, rfl⟩⟩
      have hbl := fBef_lt (σ 124 12) (σ 133) (σ 146) (σ 147) (σ 150) k k.toNat
      refine ⟨rfl, by omega, by omega, by omega, fun c z1 z2 => by omega⟩
    · simp only [sx_cc, Classical.not_not] at g
      conv => whnf
      refine ⟨fun q9 => by first | (simp at q9; done) | omega, ?_⟩
      first | exact h1 (Or.inr (Or.inl (by omega))) | (rw [fFar_comm] at g; exact h1 (Or.inr (Or.inr ⟨i, by omega, by omega, by omega, show _ ≤ _ by omega⟩))) | (rw [fFar_comm] at g; refine h1 (Or.inl ?_); show fFar _ _ _ ≤ _; have e8 : i = σ 134 (σ 146 k) := by omega; rw [← e8]; omega) | (rw [fFar_comm] at g; have e8 : i = σ 134 (σ 146 k) := (by omega); refine h1 (Or.inl ?_); show fFar _ _ _ ≤ _; rw [← e8]; omega)
  · intro n t L st σ' hk
    obtain ⟨rfl, i, rfl, rfl, hc, rfl⟩ := hk
    obtain ⟨rfl, hi0, hi1, hno2, hv⟩ := hc
    conv => whnf
    refine ⟨Nat.le_of_ble_eq_true rfl, Nat.le_of_ble_eq_true rfl, (by first | assumption | rfl), ?_⟩
    refine c_Rcells hd ?_
    conv => whnf
    refine ⟨fun g => ?_, fun g => ?_⟩
    · simp only [sx_cc, Classical.not_not] at g
      conv => whnf
      refine ⟨fun q9 => by first | (simp at q9; done) | omega, ?_⟩
      refine h0 (fun z => ?_)
      rcases z with z | z | ⟨c, z1, z2, z3, z4⟩
      · exact hv _ hhk.1 (by omega) (Or.inr rfl) z
      · omega
      · exact hv c z1 (by omega) (Or.inl z3) z4
    · simp only [sx_cc, Classical.not_not] at g
      conv => whnf
      refine ⟨(by first | assumption | rfl), ?_⟩
      try simp (disch := omega) only [Int.cast_ofNat_Int, up_s, up_a, up_i, mp_a, mp_ge, cp_a, r30, r31, r32, r33, r34, r35, r36, r37, r38, r57, r58, r59, r60, r61, r62, r63, r64, r65, r66, r67, r68, r69, r70, r71]
      conv => whnf
      refine ⟨sx_ixI (by first | assumption | rfl) (by omega) (by omega), ?_⟩
      try simp (disch := omega) only [Int.cast_ofNat_Int, up_s, up_a, up_i, mp_a, mp_ge, cp_a, r30, r31, r32, r33, r34, r35, r36, r37, r38, r57, r58, r59, r60, r61, r62, r63, r64, r65, r66, r67, r68, r69, r70, r71]
      conv => whnf
      refine ⟨fun g => ?_, fun g => ?_⟩
      · simp only [sx_cc, Classical.not_not] at g
        conv => whnf
        refine ⟨(by first | assumption | rfl), ?_⟩
        try simp (disch := omega) only [Int.cast_ofNat_Int, up_s, up_a, up_i, mp_a, mp_ge, cp_a, r30, r31, r32, r33, r34, r35, r36, r37, r38, r57, r58, r59, r60, r61, r62, r63, r64, r65, r66, r67, r68, r69, r70, r71]
        conv => whnf
        refine ⟨sx_ixI (by first | assumption | rfl) (by omega) (by omega), ?_⟩
        try simp (disch := omega) only [Int.cast_ofNat_Int, up_s, up_a, up_i, mp_a, mp_ge, cp_a, r30, r31, r32, r33, r34, r35, r36, r37, r38, r57, r58, r59, r60, r61, r62, r63, r64, r65, r66, r67, r68, r69, r70, r71]
        conv => whnf
        refine ⟨Nat.le_of_ble_eq_true rfl, Nat.le_of_ble_eq_true rfl, (by first | assumption | rfl), ?_⟩
        refine c_Rfar hd (by first | assumption | exact hce _ (by omega) (by omega) | exact ⟨by omega, by omega⟩) (by first | assumption | exact hce _ (by omega) (by omega) | exact ⟨by omega, by omega⟩) ?_
        conv => whnf
        refine ⟨fun g => ?_, fun g => ?_⟩
        · simp only [sx_cc, Classical.not_not] at g
          conv => whnf
          refine ⟨⟨by omega, by omega⟩, ?_⟩
          conv => whnf
          refine ⟨_, ?_, ⟨rfl, _, rfl, rfl, ?_, rfl⟩⟩
          · omega
          · refine ⟨rfl, by omega, by omega, hno2, fun c z1 z2 z3 z4 => ?_⟩
            by_cases ec : c = i
            · subst ec
              have z5 : fFar (σ 124 12) (σ 147 k) c ≤ σ 133 (σ 146 k) := z4
              first | omega | (rw [fFar_comm] at z5; omega)
            · exact hv c z1 (by omega) z3 z4
        · simp only [sx_cc, Classical.not_not] at g
          conv => whnf
          refine ⟨fun q9 => by first | (simp at q9; done) | omega, ?_⟩
          first | exact h1 (Or.inr (Or.inl (by omega))) | (rw [fFar_comm] at g; exact h1 (Or.inr (Or.inr ⟨i, by omega, by omega, by omega, show _ ≤ _ by omega⟩))) | (rw [fFar_comm] at g; refine h1 (Or.inl ?_); show fFar _ _ _ ≤ _; have e8 : i = σ 134 (σ 146 k) := by omega; rw [← e8]; omega) | (rw [fFar_comm] at g; have e8 : i = σ 134 (σ 146 k) := (by omega); refine h1 (Or.inl ?_); show fFar _ _ _ ≤ _; rw [← e8]; omega)
      · simp only [sx_cc, Classical.not_not] at g
        conv => whnf
        refine ⟨(by first | assumption | rfl), ?_⟩
        try simp (disch := omega) only [Int.cast_ofNat_Int, up_s, up_a, up_i, mp_a, mp_ge, cp_a, r30, r31, r32, r33, r34, r35, r36, r37, r38, r57, r58, r59, r60, r61, r62, r63, r64, r65, r66, r67, r68, r69, r70, r71]
        conv => whnf
        refine ⟨(by first | assumption | rfl), ?_⟩
        try simp (disch := omega) only [Int.cast_ofNat_Int, up_s, up_a, up_i, mp_a, mp_ge, cp_a, r30, r31, r32, r33, r34, r35, r36, r37, r38, r57, r58, r59, r60, r61, r62, r63, r64, r65, r66, r67, r68, r69, r70, r71]
        conv => whnf
        refine ⟨sx_ixI (by first | assumption | rfl) (by omega) (by omega), ?_⟩
        try simp (disch := omega) only [Int.cast_ofNat_Int, up_s, up_a, up_i, mp_a, mp_ge, cp_a, r30, r31, r32, r33, r34, r35, r36, r37, r38, r57, r58, r59, r60, r61, r62, r63, r64, r65, r66, r67, r68, r69, r70, r71]
        conv => whnf
        refine ⟨sx_ixI (by first | assumption | rfl) (by omega) (by omega), ?_⟩
        try simp (disch := omega) only [Int.cast_ofNat_Int, up_s, up_a, up_i, mp_a, mp_ge, cp_a, r30, r31, r32, r33, r34, r35, r36, r37, r38, r57, r58, r59, r60, r61, r62, r63, r64, r65, r66, r67, r68, r69, r70, r71]
        conv => whnf
        refine ⟨fun g => ?_, fun g => ?_⟩
        · simp only [sx_cc, Classical.not_not] at g
          conv => whnf
          refine ⟨⟨by omega, by omega⟩, ?_⟩
          conv => whnf
          refine ⟨_, ?_, ⟨rfl, _, rfl, rfl, ?_, rfl⟩⟩
          · omega
          · refine ⟨rfl, by omega, by omega, hno2, fun c z1 z2 z3 z4 => ?_⟩
            by_cases ec : c = i
            · subst ec
              have z5 : fFar (σ 124 12) (σ 147 k) c ≤ σ 133 (σ 146 k) := z4
              first | omega | (rw [fFar_comm] at z5; omega)
            · exact hv c z1 (by omega) z3 z4
        · simp only [sx_cc, Classical.not_not] at g
          conv => whnf
          refine ⟨(by first | assumption | rfl), ?_⟩
          try simp (disch := omega) only [Int.cast_ofNat_Int, up_s, up_a, up_i, mp_a, mp_ge, cp_a, r30, r31, r32, r33, r34, r35, r36, r37, r38, r57, r58, r59, r60, r61, r62, r63, r64, r65, r66, r67, r68, r69, r70, r71]
          conv => whnf
          refine ⟨sx_ixI (by first | assumption | rfl) (by omega) (by omega), ?_⟩
          try simp (disch := omega) only [Int.cast_ofNat_Int, up_s, up_a, up_i, mp_a, mp_ge, cp_a, r30, r31, r32, r33, r34, r35, r36, r37, r38, r57, r58, r59, r60, r61, r62, r63, r64, r65, r66, r67, r68, r69, r70, r71]
          conv => whnf
          refine ⟨Nat.le_of_ble_eq_true rfl, Nat.le_of_ble_eq_true rfl, (by first | assumption | rfl), ?_⟩
          refine c_Rfar hd (by first | assumption | exact hce _ (by omega) (by omega) | exact ⟨by omega, by omega⟩) (by first | assumption | exact hce _ (by omega) (by omega) | exact ⟨by omega, by omega⟩) ?_
          conv => whnf
          refine ⟨fun g => ?_, fun g => ?_⟩
          · simp only [sx_cc, Classical.not_not] at g
            conv => whnf
            refine ⟨⟨by omega, by omega⟩, ?_⟩
            conv => whnf
            refine ⟨_, ?_, ⟨rfl, _, rfl, rfl, ?_, rfl⟩⟩
            · omega
            · refine ⟨rfl, by omega, by omega, hno2, fun c z1 z2 z3 z4 => ?_⟩
              by_cases ec : c = i
              · subst ec
                have z5 : fFar (σ 124 12) (σ 147 k) c ≤ σ 133 (σ 146 k) := z4
                first | omega | (rw [fFar_comm] at z5; omega)
              · exact hv c z1 (by omega) z3 z4
          · simp only [sx_cc, Classical.not_not] at g
            conv => whnf
            refine ⟨fun q9 => by first | (simp at q9; done) | omega, ?_⟩
            first | exact h1 (Or.inr (Or.inl (by omega))) | (rw [fFar_comm] at g; exact h1 (Or.inr (Or.inr ⟨i, by omega, by omega, by omega, show _ ≤ _ by omega⟩))) | (rw [fFar_comm] at g; refine h1 (Or.inl ?_); show fFar _ _ _ ≤ _; have e8 : i = σ 134 (σ 146 k) := by omega; rw [← e8]; omega) | (rw [fFar_comm] at g; have e8 : i = σ 134 (σ 146 k) := (by omega); refine h1 (Or.inl ?_); show fFar _ _ _ ≤ _; rw [← e8]; omega)
end SXR2
