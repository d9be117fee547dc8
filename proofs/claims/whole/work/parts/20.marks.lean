/-! MARKS: contracts of the class SnowScore$Marks (by wip/whole/g20.py) -/
section SXM
variable {X : sx_X} {σ : sx_S} {s : Int} {Q : sx_R}
set_option maxRecDepth 20000 in
theorem c_Mhas (hs : isS s) {k : Int} (h1 : 0 ≤ k → k < σ (s + 4) 0 → Q (some (.inl 1)) shM σ) (h0 : ¬ (0 ≤ k ∧ k < σ (s + 4) 0) → Q (some (.inl 0)) shM σ) : sx_Run X 34 [.inr (.inr (s + 4)), .inl k] shM σ Q := by
  have k4 := lkS4 hs
  refine sx_rule0 (own := 4) (cd := kX4_has) (nL := 2) (by decide +kernel) (by decide +kernel) kX4_has_ok (by decide +kernel) (Nat.le_of_ble_eq_true rfl) 40 ?_
  conv => whnf
  refine ⟨fun g => ?_, fun g => ?_⟩
  · simp only [sx_cc, Classical.not_not] at g
    conv => whnf
    refine ⟨fun q9 => by first | (simp at q9; done) | omega, ?_⟩
    first | exact h1 (by omega) (by omega) | exact h0 (by omega)
  · simp only [sx_cc, Classical.not_not] at g
    conv => whnf
    refine ⟨(by first | assumption | rfl), ?_⟩
    try simp (disch := omega) only [Int.cast_ofNat_Int, up_s, up_a, up_i, mp_a, mp_ge, cp_a]
    conv => whnf
    refine ⟨fun g => ?_, fun g => ?_⟩
    · simp only [sx_cc, Classical.not_not] at g
      conv => whnf
      refine ⟨fun q9 => by first | (simp at q9; done) | omega, ?_⟩
      first | exact h1 (by omega) (by omega) | exact h0 (by omega)
    · simp only [sx_cc, Classical.not_not] at g
      conv => whnf
      refine ⟨fun q9 => by first | (simp at q9; done) | omega, ?_⟩
      first | exact h1 (by omega) (by omega) | exact h0 (by omega)
set_option maxRecDepth 20000 in
theorem c_Mlasts (hT : PT σ) (hs : isS s) (hn : 0 ≤ σ (s + 4) 0 ∧ σ (s + 4) 0 ≤ 90) {k : Int} (h1 : 0 ≤ k → k < σ (s + 4) 0 → 0 < σ (s + 9) k → Q (some (.inl 1)) shM σ) (h0 : ¬ (0 ≤ k ∧ k < σ (s + 4) 0 ∧ 0 < σ (s + 9) k) → Q (some (.inl 0)) shM σ) : sx_Run X 35 [.inr (.inr (s + 4)), .inl k] shM σ Q := by
  have k4 := lkS4 hs
  have k5 := lkS5 hs
  have k6 := lkS6 hs
  have k7 := lkS7 hs
  have k8 := lkS8 hs
  have k9 := lkS9 hs
  have k10 := lkS10 hs
  have k11 := lkS11 hs
  have k12 := lkS12 hs
  have m1 := ptM_1 hT hs
  have m2 := ptM_2 hT hs
  have m3 := ptM_3 hT hs
  have m4 := ptM_4 hT hs
  have m5 := ptM_5 hT hs
  have m6 := ptM_6 hT hs
  have m7 := ptM_7 hT hs
  have m8 := ptM_8 hT hs
  refine sx_rule0 (own := 4) (cd := kX4_lasts) (nL := 2) (by decide +kernel) (by decide +kernel) kX4_lasts_ok (by decide +kernel) (Nat.le_of_ble_eq_true rfl) 40 ?_
  conv => whnf
  refine ⟨Nat.le_of_ble_eq_true rfl, Nat.le_of_ble_eq_true rfl, (by first | assumption | rfl), ?_⟩
  refine c_Mhas hs (fun g1 g2 => ?_) (fun g0 => ?_)
  · skip
    conv => whnf
    refine ⟨fun g => ?_, fun g => ?_⟩
    · exact absurd g (by simp [sx_cc])
    · skip
      conv => whnf
      refine ⟨(by first | assumption | rfl), ?_⟩
      try simp (disch := omega) only [Int.cast_ofNat_Int, up_s, up_a, up_i, mp_a, mp_ge, cp_a, m1, m2, m3, m4, m5, m6, m7, m8]
      conv => whnf
      refine ⟨sx_ixI (by first | assumption | rfl) (by omega) (by omega), ?_⟩
      try simp (disch := omega) only [Int.cast_ofNat_Int, up_s, up_a, up_i, mp_a, mp_ge, cp_a, m1, m2, m3, m4, m5, m6, m7, m8]
      conv => whnf
      refine ⟨fun g => ?_, fun g => ?_⟩
      · simp only [sx_cc, Classical.not_not] at g
        conv => whnf
        refine ⟨fun q9 => by first | (simp at q9; done) | omega, ?_⟩
        first | exact h1 (by omega) (by omega) (by omega) | exact h0 (by omega)
      · simp only [sx_cc, Classical.not_not] at g
        conv => whnf
        refine ⟨fun q9 => by first | (simp at q9; done) | omega, ?_⟩
        first | exact h1 (by omega) (by omega) (by omega) | exact h0 (by omega)
  · skip
    conv => whnf
    refine ⟨fun g => ?_, fun g => ?_⟩
    · skip
      conv => whnf
      refine ⟨fun q9 => by first | (simp at q9; done) | omega, ?_⟩
      first | exact h1 (by omega) (by omega) (by omega) | exact h0 (by omega)
    · exact absurd g (by simp [sx_cc])
set_option maxRecDepth 20000 in
theorem c_Mopen (hT : PT σ) (hs : isS s) (hn : 0 ≤ σ (s + 4) 0 ∧ σ (s + 4) 0 ≤ 90) {k : Int} (h1 : 0 ≤ k → k < σ (s + 4) 0 → 0 < σ (s + 9) k → σ (s + 10) k = 0 → Q (some (.inl 1)) shM σ) (h0 : ¬ (0 ≤ k ∧ k < σ (s + 4) 0 ∧ 0 < σ (s + 9) k ∧ σ (s + 10) k = 0) → Q (some (.inl 0)) shM σ) : sx_Run X 36 [.inr (.inr (s + 4)), .inl k] shM σ Q := by
  have k4 := lkS4 hs
  have k5 := lkS5 hs
  have k6 := lkS6 hs
  have k7 := lkS7 hs
  have k8 := lkS8 hs
  have k9 := lkS9 hs
  have k10 := lkS10 hs
  have k11 := lkS11 hs
  have k12 := lkS12 hs
  have m1 := ptM_1 hT hs
  have m2 := ptM_2 hT hs
  have m3 := ptM_3 hT hs
  have m4 := ptM_4 hT hs
  have m5 := ptM_5 hT hs
  have m6 := ptM_6 hT hs
  have m7 := ptM_7 hT hs
  have m8 := ptM_8 hT hs
  refine sx_rule0 (own := 4) (cd := kX4_isOpen) (nL := 2) (by decide +kernel) (by decide +kernel) kX4_isOpen_ok (by decide +kernel) (Nat.le_of_ble_eq_true rfl) 40 ?_
  conv => whnf
  refine ⟨Nat.le_of_ble_eq_true rfl, Nat.le_of_ble_eq_true rfl, (by first | assumption | rfl), ?_⟩
  refine c_Mlasts hT hs hn (fun g1 g2 g3 => ?_) (fun g0 => ?_)
  · skip
    conv => whnf
    refine ⟨fun g => ?_, fun g => ?_⟩
    · exact absurd g (by simp [sx_cc])
    · skip
      conv => whnf
      refine ⟨(by first | assumption | rfl), ?_⟩
      try simp (disch := omega) only [Int.cast_ofNat_Int, up_s, up_a, up_i, mp_a, mp_ge, cp_a, m1, m2, m3, m4, m5, m6, m7, m8]
      conv => whnf
      refine ⟨sx_ixI (by first | assumption | rfl) (by omega) (by omega), ?_⟩
      try simp (disch := omega) only [Int.cast_ofNat_Int, up_s, up_a, up_i, mp_a, mp_ge, cp_a, m1, m2, m3, m4, m5, m6, m7, m8]
      conv => whnf
      refine ⟨fun g => ?_, fun g => ?_⟩
      · simp only [sx_cc, Classical.not_not] at g
        conv => whnf
        refine ⟨fun q9 => by first | (simp at q9; done) | omega, ?_⟩
        first | exact h1 (by omega) (by omega) (by omega) (by omega) | exact h0 (by omega)
      · simp only [sx_cc, Classical.not_not] at g
        conv => whnf
        refine ⟨fun q9 => by first | (simp at q9; done) | omega, ?_⟩
        first | exact h1 (by omega) (by omega) (by omega) (by omega) | exact h0 (by omega)
  · skip
    conv => whnf
    refine ⟨fun g => ?_, fun g => ?_⟩
    · skip
      conv => whnf
      refine ⟨fun q9 => by first | (simp at q9; done) | omega, ?_⟩
      first | exact h1 (by omega) (by omega) (by omega) (by omega) | exact h0 (by omega)
    · exact absurd g (by simp [sx_cc])
set_option maxRecDepth 20000 in
theorem c_Mlasting (hT : PT σ) (hs : isS s) (hn : 0 ≤ σ (s + 4) 0 ∧ σ (s + 4) 0 ≤ 90) (h : Q (some (.inl (fCnt (fun i => decide (0 < σ (s + 9) i)) (σ (s + 4) 0).toNat))) shM σ) : sx_Run X 37 [.inr (.inr (s + 4))] shM σ Q := by
  have k4 := lkS4 hs
  have k5 := lkS5 hs
  have k6 := lkS6 hs
  have k7 := lkS7 hs
  have k8 := lkS8 hs
  have k9 := lkS9 hs
  have k10 := lkS10 hs
  have k11 := lkS11 hs
  have k12 := lkS12 hs
  have m1 := ptM_1 hT hs
  have m2 := ptM_2 hT hs
  have m3 := ptM_3 hT hs
  have m4 := ptM_4 hT hs
  have m5 := ptM_5 hT hs
  have m6 := ptM_6 hT hs
  have m7 := ptM_7 hT hs
  have m8 := ptM_8 hT hs
  refine sx_rule2 (own := 4) (cd := kX4_lasting) (nL := 3) (by decide +kernel) (by decide +kernel) kX4_lasting_ok (by decide +kernel) (Nat.le_of_ble_eq_true rfl) [4] 40 (fun n t L st _ σ' => t = 4 ∧ st = [] ∧ ∃ v i : Int, L = [some (.inr (.inr (s + 4))), some (.inl v), some (.inl i)] ∧ (σ = σ' ∧ 0 ≤ i ∧ i ≤ σ (s + 4) 0 ∧ v = fCnt (fun i => decide (0 < σ (s + 9) i)) i.toNat) ∧ n = (σ (s + 4) 0 - i).toNat) ?_ ?_
  · skip
    conv => whnf
    refine ⟨_, rfl, rfl, _, _, rfl, ?_, rfl⟩
    refine ⟨rfl, by omega, by omega, rfl⟩
  · intro n t L st σ' hk
    obtain ⟨rfl, rfl, v, i, rfl, hc, rfl⟩ := hk
    obtain ⟨rfl, hi0, hi1, hv⟩ := hc
    have hb := fCnt_le (fun i => decide (0 < σ (s + 9) i)) i.toNat
    conv => whnf
    refine ⟨(by first | assumption | rfl), ?_⟩
    try simp (disch := omega) only [Int.cast_ofNat_Int, up_s, up_a, up_i, mp_a, mp_ge, cp_a, m1, m2, m3, m4, m5, m6, m7, m8]
    conv => whnf
    refine ⟨fun g => ?_, fun g => ?_⟩
    · simp only [sx_cc, Classical.not_not] at g
      conv => whnf
      refine ⟨fun q9 => by first | (simp at q9; done) | omega, ?_⟩
      have e9 : i = σ (s + 4) 0 := by omega
      rw [hv, e9]
      exact h
    · simp only [sx_cc, Classical.not_not] at g
      conv => whnf
      refine ⟨Nat.le_of_ble_eq_true rfl, Nat.le_of_ble_eq_true rfl, (by first | assumption | rfl), ?_⟩
      refine c_Mlasts hT hs hn (fun g1 g2 g3 => ?_) (fun g0 => ?_)
      · skip
        conv => whnf
        refine ⟨fun g => ?_, fun g => ?_⟩
        · exact absurd g (by simp [sx_cc])
        · skip
          conv => whnf
          refine ⟨⟨by omega, by omega⟩, ?_⟩
          conv => whnf
          refine ⟨⟨by omega, by omega⟩, ?_⟩
          conv => whnf
          refine ⟨_, ?_, rfl, rfl, _, _, rfl, ?_, rfl⟩
          · omega
          · refine ⟨rfl, by omega, by omega, ?_⟩
            rw [fCnt_s hi0, hv]
            first | (rw [if_pos (by simp only [decide_eq_true_eq]; omega)]; done) | (rw [if_neg (by simp only [decide_eq_true_eq]; omega)]; omega)
      · skip
        conv => whnf
        refine ⟨fun g => ?_, fun g => ?_⟩
        · skip
          conv => whnf
          refine ⟨⟨by omega, by omega⟩, ?_⟩
          conv => whnf
          refine ⟨_, ?_, rfl, rfl, _, _, rfl, ?_, rfl⟩
          · omega
          · refine ⟨rfl, by omega, by omega, ?_⟩
            rw [fCnt_s hi0, hv]
            first | (rw [if_pos (by simp only [decide_eq_true_eq]; omega)]; done) | (rw [if_neg (by simp only [decide_eq_true_eq]; omega)]; omega)
        · exact absurd g (by simp [sx_cc])
set_option maxRecDepth 20000 in
theorem c_MlastIn (hT : PT σ) (hs : isS s) (hn : 0 ≤ σ (s + 4) 0 ∧ σ (s + 4) 0 ≤ 90) {c : Int} (h : Q (some (.inl (fCnt (fun i => decide (0 < σ (s + 9) i ∧ σ (s + 6) i = c)) (σ (s + 4) 0).toNat))) shM σ) : sx_Run X 38 [.inr (.inr (s + 4)), .inl c] shM σ Q := by
  have k4 := lkS4 hs
  have k5 := lkS5 hs
  have k6 := lkS6 hs
  have k7 := lkS7 hs
  have k8 := lkS8 hs
  have k9 := lkS9 hs
  have k10 := lkS10 hs
  have k11 := lkS11 hs
  have k12 := lkS12 hs
  have m1 := ptM_1 hT hs
  have m2 := ptM_2 hT hs
  have m3 := ptM_3 hT hs
  have m4 := ptM_4 hT hs
  have m5 := ptM_5 hT hs
  have m6 := ptM_6 hT hs
  have m7 := ptM_7 hT hs
  have m8 := ptM_8 hT hs
  refine sx_rule2 (own := 4) (cd := kX4_lastingIn) (nL := 4) (by decide +kernel) (by decide +kernel) kX4_lastingIn_ok (by decide +kernel) (Nat.le_of_ble_eq_true rfl) [4] 40 (fun n t L st _ σ' => t = 4 ∧ st = [] ∧ ∃ v i : Int, L = [some (.inr (.inr (s + 4))), some (.inl c), some (.inl v), some (.inl i)] ∧ (σ = σ' ∧ 0 ≤ i ∧ i ≤ σ (s + 4) 0 ∧ v = fCnt (fun i => decide (0 < σ (s + 9) i ∧ σ (s + 6) i = c)) i.toNat) ∧ n = (σ (s + 4) 0 - i).toNat) ?_ ?_
  · skip
    conv => whnf
    refine ⟨_, rfl, rfl, _, _, rfl, ?_, rfl⟩
    refine ⟨rfl, by omega, by omega, rfl⟩
  · intro n t L st σ' hk
    obtain ⟨rfl, rfl, v, i, rfl, hc, rfl⟩ := hk
    obtain ⟨rfl, hi0, hi1, hv⟩ := hc
    have hb := fCnt_le (fun i => decide (0 < σ (s + 9) i ∧ σ (s + 6) i = c)) i.toNat
    conv => whnf
    refine ⟨(by first | assumption | rfl), ?_⟩
    try simp (disch := omega) only [Int.cast_ofNat_Int, up_s, up_a, up_i, mp_a, mp_ge, cp_a, m1, m2, m3, m4, m5, m6, m7, m8]
    conv => whnf
    refine ⟨fun g => ?_, fun g => ?_⟩
    · simp only [sx_cc, Classical.not_not] at g
      conv => whnf
      refine ⟨fun q9 => by first | (simp at q9; done) | omega, ?_⟩
      have e9 : i = σ (s + 4) 0 := by omega
      rw [hv, e9]
      exact h
    · simp only [sx_cc, Classical.not_not] at g
      conv => whnf
      refine ⟨Nat.le_of_ble_eq_true rfl, Nat.le_of_ble_eq_true rfl, (by first | assumption | rfl), ?_⟩
      refine c_Mlasts hT hs hn (fun g1 g2 g3 => ?_) (fun g0 => ?_)
      · skip
        conv => whnf
        refine ⟨fun g => ?_, fun g => ?_⟩
        · exact absurd g (by simp [sx_cc])
        · skip
          conv => whnf
          refine ⟨(by first | assumption | rfl), ?_⟩
          try simp (disch := omega) only [Int.cast_ofNat_Int, up_s, up_a, up_i, mp_a, mp_ge, cp_a, m1, m2, m3, m4, m5, m6, m7, m8]
          conv => whnf
          refine ⟨sx_ixI (by first | assumption | rfl) (by omega) (by omega), ?_⟩
          try simp (disch := omega) only [Int.cast_ofNat_Int, up_s, up_a, up_i, mp_a, mp_ge, cp_a, m1, m2, m3, m4, m5, m6, m7, m8]
          conv => whnf
          refine ⟨fun g => ?_, fun g => ?_⟩
          · simp only [sx_cc, Classical.not_not] at g
            conv => whnf
            refine ⟨⟨by omega, by omega⟩, ?_⟩
            conv => whnf
            refine ⟨_, ?_, rfl, rfl, _, _, rfl, ?_, rfl⟩
            · omega
            · refine ⟨rfl, by omega, by omega, ?_⟩
              rw [fCnt_s hi0, hv]
              first | (rw [if_pos (by simp only [decide_eq_true_eq]; omega)]; done) | (rw [if_neg (by simp only [decide_eq_true_eq]; omega)]; omega)
          · simp only [sx_cc, Classical.not_not] at g
            conv => whnf
            refine ⟨⟨by omega, by omega⟩, ?_⟩
            conv => whnf
            refine ⟨⟨by omega, by omega⟩, ?_⟩
            conv => whnf
            refine ⟨_, ?_, rfl, rfl, _, _, rfl, ?_, rfl⟩
            · omega
            · refine ⟨rfl, by omega, by omega, ?_⟩
              rw [fCnt_s hi0, hv]
              first | (rw [if_pos (by simp only [decide_eq_true_eq]; omega)]; done) | (rw [if_neg (by simp only [decide_eq_true_eq]; omega)]; omega)
      · skip
        conv => whnf
        refine ⟨fun g => ?_, fun g => ?_⟩
        · skip
          conv => whnf
          refine ⟨⟨by omega, by omega⟩, ?_⟩
          conv => whnf
          refine ⟨_, ?_, rfl, rfl, _, _, rfl, ?_, rfl⟩
          · omega
          · refine ⟨rfl, by omega, by omega, ?_⟩
            rw [fCnt_s hi0, hv]
            first | (rw [if_pos (by simp only [decide_eq_true_eq]; omega)]; done) | (rw [if_neg (by simp only [decide_eq_true_eq]; omega)]; omega)
        · exact absurd g (by simp [sx_cc])
set_option maxRecDepth 20000 in
theorem c_MreadIn (hT : PT σ) (hs : isS s) (hn : 0 ≤ σ (s + 4) 0 ∧ σ (s + 4) 0 ≤ 90) {c : Int} (h : Q (some (.inl (fTop (σ (s + 6)) (σ (s + 9)) (σ (s + 10)) c (σ (s + 4) 0).toNat))) shM σ) : sx_Run X 39 [.inr (.inr (s + 4)), .inl c] shM σ Q := by
  have k4 := lkS4 hs
  have k5 := lkS5 hs
  have k6 := lkS6 hs
  have k7 := lkS7 hs
  have k8 := lkS8 hs
  have k9 := lkS9 hs
  have k10 := lkS10 hs
  have k11 := lkS11 hs
  have k12 := lkS12 hs
  have m1 := ptM_1 hT hs
  have m2 := ptM_2 hT hs
  have m3 := ptM_3 hT hs
  have m4 := ptM_4 hT hs
  have m5 := ptM_5 hT hs
  have m6 := ptM_6 hT hs
  have m7 := ptM_7 hT hs
  have m8 := ptM_8 hT hs
  refine sx_rule2 (own := 4) (cd := kX4_readIn) (nL := 3) (by decide +kernel) (by decide +kernel) kX4_readIn_ok (by decide +kernel) (Nat.le_of_ble_eq_true rfl) [7] 40 (fun n t L st _ σ' => t = 7 ∧ st = [] ∧ ∃ i : Int, L = [some (.inr (.inr (s + 4))), some (.inl c), some (.inl i)] ∧ (σ = σ' ∧ -1 ≤ i ∧ i < σ (s + 4) 0 ∧ fTop (σ (s + 6)) (σ (s + 9)) (σ (s + 10)) c (σ (s + 4) 0).toNat = fTop (σ (s + 6)) (σ (s + 9)) (σ (s + 10)) c (i + 1).toNat) ∧ n = (i + 1).toNat) ?_ ?_
  · skip
    conv => whnf
    refine ⟨(by first | assumption | rfl), ?_⟩
    try simp (disch := omega) only [Int.cast_ofNat_Int, up_s, up_a, up_i, mp_a, mp_ge, cp_a, m1, m2, m3, m4, m5, m6, m7, m8]
    conv => whnf
    refine ⟨⟨by omega, by omega⟩, ?_⟩
    conv => whnf
    refine ⟨_, rfl, rfl, _, rfl, ?_, rfl⟩
    refine ⟨rfl, by omega, by omega, ?_⟩
    rw [show σ (s + 4) 0 - 1 + 1 = σ (s + 4) 0 by omega]
  · intro n t L st σ' hk
    obtain ⟨rfl, rfl, i, rfl, hc, rfl⟩ := hk
    obtain ⟨rfl, hi0, hi1, hv⟩ := hc
    conv => whnf
    refine ⟨fun g => ?_, fun g => ?_⟩
    · simp only [sx_cc, Classical.not_not] at g
      conv => whnf
      refine ⟨fun q9 => by first | (simp at q9; done) | omega, ?_⟩
      have e9 : i = -1 := by omega
      subst e9
      rw [hv] at h
      exact h
    · simp only [sx_cc, Classical.not_not] at g
      conv => whnf
      refine ⟨Nat.le_of_ble_eq_true rfl, Nat.le_of_ble_eq_true rfl, (by first | assumption | rfl), ?_⟩
      refine c_Mopen hT hs hn (fun g1 g2 g3 g4 => ?_) (fun g0 => ?_)
      · skip
        conv => whnf
        refine ⟨fun g => ?_, fun g => ?_⟩
        · exact absurd g (by simp [sx_cc])
        · skip
          conv => whnf
          refine ⟨(by first | assumption | rfl), ?_⟩
          try simp (disch := omega) only [Int.cast_ofNat_Int, up_s, up_a, up_i, mp_a, mp_ge, cp_a, m1, m2, m3, m4, m5, m6, m7, m8]
          conv => whnf
          refine ⟨sx_ixI (by first | assumption | rfl) (by omega) (by omega), ?_⟩
          try simp (disch := omega) only [Int.cast_ofNat_Int, up_s, up_a, up_i, mp_a, mp_ge, cp_a, m1, m2, m3, m4, m5, m6, m7, m8]
          conv => whnf
          refine ⟨fun g => ?_, fun g => ?_⟩
          · simp only [sx_cc, Classical.not_not] at g
            conv => whnf
            refine ⟨⟨by omega, by omega⟩, ?_⟩
            conv => whnf
            refine ⟨_, ?_, rfl, rfl, _, rfl, ?_, rfl⟩
            · omega
            · refine ⟨rfl, by omega, by omega, ?_⟩
              rw [hv, fTop_s (by omega), if_neg (by omega), show i + -1 + 1 = i by omega]
          · simp only [sx_cc, Classical.not_not] at g
            conv => whnf
            refine ⟨fun q9 => by first | (simp at q9; done) | omega, ?_⟩
            rw [hv, fTop_s (by omega), if_pos ⟨by omega, by omega, by omega⟩] at h
            exact h
      · skip
        conv => whnf
        refine ⟨fun g => ?_, fun g => ?_⟩
        · skip
          conv => whnf
          refine ⟨⟨by omega, by omega⟩, ?_⟩
          conv => whnf
          refine ⟨_, ?_, rfl, rfl, _, rfl, ?_, rfl⟩
          · omega
          · refine ⟨rfl, by omega, by omega, ?_⟩
            rw [hv, fTop_s (by omega), if_neg (by omega), show i + -1 + 1 = i by omega]
        · exact absurd g (by simp [sx_cc])
end SXM
