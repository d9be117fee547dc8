/-! MARKS, continued (by wip/whole) -/
section SXM2
variable {X : sx_X} {σ : sx_S} {s : Int} {Q : sx_R}
set_option maxRecDepth 20000 in
theorem c_Mlessen (hT : PT σ) (hs : isS s) {k d : Int} (hk : 0 ≤ k ∧ k < 90) (hd : 0 ≤ d ∧ d ≤ 1000000) (hv : 0 ≤ σ (s + 9) k ∧ σ (s + 9) k ≤ 1000000) (h : Q none shM (sx_up σ (s + 9) k (fMax0 (σ (s + 9) k - d)))) : sx_Run X 40 [.inr (.inr (s + 4)), .inl k, .inl d] shM σ Q := by
  have k4 := lkS4 hs
  have k5 := lkS5 hs
  have k6 := lkS6 hs
  have k7 := lkS7 hs
  have k8 := lkS8 hs
  have k9 := lkS9 hs
  have k10 := lkS10 hs
  have k11 := lkS11 hs
  have k12 := lkS12 hs
  have m1 := ptM_1 hT hs
  have m2 := ptM_2 hT hs
  have m3 := ptM_3 hT hs
  have m4 := ptM_4 hT hs
  have m5 := ptM_5 hT hs
  have m6 := ptM_6 hT hs
  have m7 := ptM_7 hT hs
  have m8 := ptM_8 hT hs
  refine sx_rule0 (own := 4) (cd := kX4_lessen) (nL := 3) (by decide +kernel) (by decide +kernel) kX4_lessen_ok (by decide +kernel) (Nat.le_of_ble_eq_true rfl) 40 ?_
  conv => whnf
  refine ⟨(by first | assumption | rfl), ?_⟩
  try simp (disch := omega) only [Int.cast_ofNat_Int, up_s, up_a, up_i, mp_a, mp_ge, cp_a, m1, m2, m3, m4, m5, m6, m7, m8]
  conv => whnf
  refine ⟨(by first | assumption | rfl), ?_⟩
  try simp (disch := omega) only [Int.cast_ofNat_Int, up_s, up_a, up_i, mp_a, mp_ge, cp_a, m1, m2, m3, m4, m5, m6, m7, m8]
  conv => whnf
  refine ⟨sx_ixI (by first | assumption | rfl) (by omega) (by omega), ?_⟩
  try simp (disch := omega) only [Int.cast_ofNat_Int, up_s, up_a, up_i, mp_a, mp_ge, cp_a, m1, m2, m3, m4, m5, m6, m7, m8]
  conv => whnf
  refine ⟨⟨by omega, by omega⟩, ?_⟩
  conv => whnf
  refine ⟨Nat.le_of_ble_eq_true rfl, ?_⟩
  conv => whnf
  refine ⟨sx_ixI (by first | assumption | rfl) (by omega) (by omega), ?_⟩
  conv => whnf
  refine ⟨rfl, ?_⟩
  exact h
set_option maxRecDepth 20000 in
theorem c_Mcover (hT : PT σ) (hs : isS s) (hn : 0 ≤ σ (s + 4) 0 ∧ σ (s + 4) 0 ≤ 90) {x : Int} (h : Q (some (.inl (fLst (σ (s + 9)) (σ (s + 10)) x (σ (s + 4) 0).toNat))) shM σ) : sx_Run X 41 [.inr (.inr (s + 4)), .inl x] shM σ Q := by
  have k4 := lkS4 hs
  have k5 := lkS5 hs
  have k6 := lkS6 hs
  have k7 := lkS7 hs
  have k8 := lkS8 hs
  have k9 := lkS9 hs
  have k10 := lkS10 hs
  have k11 := lkS11 hs
  have k12 := lkS12 hs
  have m1 := ptM_1 hT hs
  have m2 := ptM_2 hT hs
  have m3 := ptM_3 hT hs
  have m4 := ptM_4 hT hs
  have m5 := ptM_5 hT hs
  have m6 := ptM_6 hT hs
  have m7 := ptM_7 hT hs
  have m8 := ptM_8 hT hs
  refine sx_rule2 (own := 4) (cd := kX4_coverAbove) (nL := 4) (by decide +kernel) (by decide +kernel) kX4_coverAbove_ok (by decide +kernel) (Nat.le_of_ble_eq_true rfl) [4] 40 (fun n t L st _ σ' => (t = 4 ∧ ∃ v i : Int, st = [] ∧ L = [some (.inr (.inr (s + 4))), some (.inl (x)), some (.inl (v)), some (.inl (i))] ∧ (σ = σ' ∧ 0 ≤ i ∧ i ≤ σ (s + 4) 0 ∧ v = fLst (σ (s + 9)) (σ (s + 10)) x i.toNat) ∧ n = (σ (s + 4) 0 - i).toNat)) ?_ ?_
  · skip
    conv => whnf
    refine ⟨_, ⟨rfl, _, _, rfl, rfl, ?_, rfl⟩⟩
    refine ⟨rfl, by omega, by omega, rfl⟩
  · intro n t L st σ' hk
    obtain ⟨rfl, v, i, rfl, rfl, hc, rfl⟩ := hk
    obtain ⟨rfl, hi0, hi1, hv⟩ := hc
    conv => whnf
    refine ⟨(by first | assumption | rfl), ?_⟩
    try simp (disch := omega) only [Int.cast_ofNat_Int, up_s, up_a, up_i, mp_a, mp_ge, cp_a, m1, m2, m3, m4, m5, m6, m7, m8]
    conv => whnf
    refine ⟨fun g => ?_, fun g => ?_⟩
    · simp only [sx_cc, Classical.not_not] at g
      conv => whnf
      refine ⟨fun q9 => by first | (simp at q9; done) | omega, ?_⟩
      have e9 : i = σ (s + 4) 0 := by omega
      rw [e9] at hv
      subst hv
      exact h
    · simp only [sx_cc, Classical.not_not] at g
      conv => whnf
      refine ⟨Nat.le_of_ble_eq_true rfl, Nat.le_of_ble_eq_true rfl, (by first | assumption | rfl), ?_⟩
      refine c_Mlasts hT hs hn (fun g1 g2 g3 => ?_) (fun g0 => ?_)
      · skip
        conv => whnf
        refine ⟨fun g => ?_, fun g => ?_⟩
        · exact absurd g (by simp [sx_cc])
        · skip
          conv => whnf
          refine ⟨(by first | assumption | rfl), ?_⟩
          try simp (disch := omega) only [Int.cast_ofNat_Int, up_s, up_a, up_i, mp_a, mp_ge, cp_a, m1, m2, m3, m4, m5, m6, m7, m8]
          conv => whnf
          refine ⟨sx_ixI (by first | assumption | rfl) (by omega) (by omega), ?_⟩
          try simp (disch := omega) only [Int.cast_ofNat_Int, up_s, up_a, up_i, mp_a, mp_ge, cp_a, m1, m2, m3, m4, m5, m6, m7, m8]
          conv => whnf
          refine ⟨fun g => ?_, fun g => ?_⟩
          · simp only [sx_cc, Classical.not_not] at g
            conv => whnf
            refine ⟨⟨by omega, by omega⟩, ?_⟩
            conv => whnf
            refine ⟨_, ?_, ⟨rfl, _, _, rfl, rfl, ?_, rfl⟩⟩
            · omega
            · refine ⟨rfl, by omega, by omega, ?_⟩
              rw [fLst_s hi0, ← hv]
              first | (rw [if_pos (by omega)]; done) | (rw [if_neg (by omega)]; done)
          · simp only [sx_cc, Classical.not_not] at g
            conv => whnf
            refine ⟨fun g => ?_, fun g => ?_⟩
            · simp only [sx_cc, Classical.not_not] at g
              conv => whnf
              refine ⟨(by first | assumption | rfl), ?_⟩
              try simp (disch := omega) only [Int.cast_ofNat_Int, up_s, up_a, up_i, mp_a, mp_ge, cp_a, m1, m2, m3, m4, m5, m6, m7, m8]
              conv => whnf
              refine ⟨sx_ixI (by first | assumption | rfl) (by omega) (by omega), ?_⟩
              try simp (disch := omega) only [Int.cast_ofNat_Int, up_s, up_a, up_i, mp_a, mp_ge, cp_a, m1, m2, m3, m4, m5, m6, m7, m8]
              conv => whnf
              refine ⟨⟨by omega, by omega⟩, ?_⟩
              conv => whnf
              refine ⟨_, ?_, ⟨rfl, _, _, rfl, rfl, ?_, rfl⟩⟩
              · omega
              · refine ⟨rfl, by omega, by omega, ?_⟩
                rw [fLst_s hi0, ← hv]
                first | (rw [if_pos (by omega)]; done) | (rw [if_neg (by omega)]; done)
            · simp only [sx_cc, Classical.not_not] at g
              conv => whnf
              refine ⟨(by first | assumption | rfl), ?_⟩
              try simp (disch := omega) only [Int.cast_ofNat_Int, up_s, up_a, up_i, mp_a, mp_ge, cp_a, m1, m2, m3, m4, m5, m6, m7, m8]
              conv => whnf
              refine ⟨sx_ixI (by first | assumption | rfl) (by omega) (by omega), ?_⟩
              try simp (disch := omega) only [Int.cast_ofNat_Int, up_s, up_a, up_i, mp_a, mp_ge, cp_a, m1, m2, m3, m4, m5, m6, m7, m8]
              conv => whnf
              refine ⟨fun g => ?_, fun g => ?_⟩
              · simp only [sx_cc, Classical.not_not] at g
                conv => whnf
                refine ⟨⟨by omega, by omega⟩, ?_⟩
                conv => whnf
                refine ⟨_, ?_, ⟨rfl, _, _, rfl, rfl, ?_, rfl⟩⟩
                · omega
                · refine ⟨rfl, by omega, by omega, ?_⟩
                  rw [fLst_s hi0, ← hv]
                  first | (rw [if_pos (by omega)]; done) | (rw [if_neg (by omega)]; done)
              · simp only [sx_cc, Classical.not_not] at g
                conv => whnf
                refine ⟨(by first | assumption | rfl), ?_⟩
                try simp (disch := omega) only [Int.cast_ofNat_Int, up_s, up_a, up_i, mp_a, mp_ge, cp_a, m1, m2, m3, m4, m5, m6, m7, m8]
                conv => whnf
                refine ⟨sx_ixI (by first | assumption | rfl) (by omega) (by omega), ?_⟩
                try simp (disch := omega) only [Int.cast_ofNat_Int, up_s, up_a, up_i, mp_a, mp_ge, cp_a, m1, m2, m3, m4, m5, m6, m7, m8]
                conv => whnf
                refine ⟨⟨by omega, by omega⟩, ?_⟩
                conv => whnf
                refine ⟨_, ?_, ⟨rfl, _, _, rfl, rfl, ?_, rfl⟩⟩
                · omega
                · refine ⟨rfl, by omega, by omega, ?_⟩
                  rw [fLst_s hi0, ← hv]
                  first | (rw [if_pos (by omega)]; done) | (rw [if_neg (by omega)]; done)
      · skip
        conv => whnf
        refine ⟨fun g => ?_, fun g => ?_⟩
        · skip
          conv => whnf
          refine ⟨⟨by omega, by omega⟩, ?_⟩
          conv => whnf
          refine ⟨_, ?_, ⟨rfl, _, _, rfl, rfl, ?_, rfl⟩⟩
          · omega
          · refine ⟨rfl, by omega, by omega, ?_⟩
            rw [fLst_s hi0, ← hv]
            first | (rw [if_pos (by omega)]; done) | (rw [if_neg (by omega)]; done)
        · exact absurd g (by simp [sx_cc])
set_option maxRecDepth 20000 in
theorem c_Mdrop (hT : PT σ) (hs : isS s) (hn : 0 ≤ σ (s + 4) 0 ∧ σ (s + 4) 0 ≤ 90) {w : Int} (h : Q none shM (sx_mp σ (s + 9) (σ (s + 4) 0) (fun j => if σ (s + 5) j = w then 0 else σ (s + 9) j))) : sx_Run X 42 [.inr (.inr (s + 4)), .inl w] shM σ Q := by
  have k4 := lkS4 hs
  have k5 := lkS5 hs
  have k6 := lkS6 hs
  have k7 := lkS7 hs
  have k8 := lkS8 hs
  have k9 := lkS9 hs
  have k10 := lkS10 hs
  have k11 := lkS11 hs
  have k12 := lkS12 hs
  have m1 := ptM_1 hT hs
  have m2 := ptM_2 hT hs
  have m3 := ptM_3 hT hs
  have m4 := ptM_4 hT hs
  have m5 := ptM_5 hT hs
  have m6 := ptM_6 hT hs
  have m7 := ptM_7 hT hs
  have m8 := ptM_8 hT hs
  refine sx_rule2 (own := 4) (cd := kX4_dropLooking) (nL := 3) (by decide +kernel) (by decide +kernel) kX4_dropLooking_ok (by decide +kernel) (Nat.le_of_ble_eq_true rfl) [2] 40 (fun n t L st _ σ' => (t = 2 ∧ ∃ i : Int, st = [] ∧ L = [some (.inr (.inr (s + 4))), some (.inl (w)), some (.inl (i))] ∧ (σ' = sx_mp σ (s + 9) i (fun j => if σ (s + 5) j = w then 0 else σ (s + 9) j) ∧ 0 ≤ i ∧ i ≤ σ (s + 4) 0) ∧ n = (σ (s + 4) 0 - i).toNat)) ?_ ?_
  · skip
    conv => whnf
    refine ⟨_, ⟨rfl, _, rfl, rfl, ?_, rfl⟩⟩
    refine ⟨(mp_0 _ _ _).symm, by omega, by omega⟩
  · intro n t L st σ' hk
    obtain ⟨rfl, i, rfl, rfl, hc, rfl⟩ := hk
    obtain ⟨rfl, hi0, hi1⟩ := hc
    conv => whnf
    refine ⟨(by first | assumption | rfl), ?_⟩
    try simp (disch := omega) only [Int.cast_ofNat_Int, up_s, up_a, up_i, mp_a, mp_ge, cp_a, m1, m2, m3, m4, m5, m6, m7, m8]
    conv => whnf
    refine ⟨fun g => ?_, fun g => ?_⟩
    · simp only [sx_cc, Classical.not_not] at g
      conv => whnf
      refine ⟨rfl, ?_⟩
      have e9 : i = σ (s + 4) 0 := by omega
      rw [e9]
      exact h
    · simp only [sx_cc, Classical.not_not] at g
      conv => whnf
      refine ⟨(by first | assumption | rfl), ?_⟩
      try simp (disch := omega) only [Int.cast_ofNat_Int, up_s, up_a, up_i, mp_a, mp_ge, cp_a, m1, m2, m3, m4, m5, m6, m7, m8]
      conv => whnf
      refine ⟨sx_ixI (by first | assumption | rfl) (by omega) (by omega), ?_⟩
      try simp (disch := omega) only [Int.cast_ofNat_Int, up_s, up_a, up_i, mp_a, mp_ge, cp_a, m1, m2, m3, m4, m5, m6, m7, m8]
      conv => whnf
      refine ⟨fun g => ?_, fun g => ?_⟩
      · simp only [sx_cc, Classical.not_not] at g
        conv => whnf
        refine ⟨⟨by omega, by omega⟩, ?_⟩
        conv => whnf
        refine ⟨_, ?_, ⟨rfl, _, rfl, rfl, ?_, rfl⟩⟩
        · omega
        · refine ⟨?_, by omega, by omega⟩
          first | exact mp_s hi0 (by rw [if_pos (by omega)]) | exact mp_n hi0 (by rw [if_neg (by omega)])
      · simp only [sx_cc, Classical.not_not] at g
        conv => whnf
        refine ⟨(by first | assumption | rfl), ?_⟩
        try simp (disch := omega) only [Int.cast_ofNat_Int, up_s, up_a, up_i, mp_a, mp_ge, cp_a, m1, m2, m3, m4, m5, m6, m7, m8]
        conv => whnf
        refine ⟨sx_ixI (by first | assumption | rfl) (by omega) (by omega), ?_⟩
        conv => whnf
        refine ⟨⟨by omega, by omega⟩, ?_⟩
        conv => whnf
        refine ⟨_, ?_, ⟨rfl, _, rfl, rfl, ?_, rfl⟩⟩
        · omega
        · refine ⟨?_, by omega, by omega⟩
          first | exact mp_s hi0 (by rw [if_pos (by omega)]) | exact mp_n hi0 (by rw [if_neg (by omega)])
set_option maxRecDepth 20000 in
theorem c_Madd (hT : PT σ) (hs : isS s) (hn : 0 ≤ σ (s + 4) 0 ∧ σ (s + 4) 0 < 90) {ow lo ce wa ho de : Int} (h : Q none shM (sx_up (sx_up (sx_up (sx_up (sx_up (sx_up (sx_up (sx_up (sx_up σ (s + 11) (σ (s + 4) 0) ow) (s + 5) (σ (s + 4) 0) lo) (s + 6) (σ (s + 4) 0) ce) (s + 7) (σ (s + 4) 0) wa) (s + 8) (σ (s + 4) 0) ho) (s + 9) (σ (s + 4) 0) de) (s + 10) (σ (s + 4) 0) 0) (s + 12) (σ (s + 4) 0) 0) (s + 4) 0 ((σ (s + 4) 0) + 1))) : sx_Run X 33 [.inr (.inr (s + 4)), .inl ow, .inl lo, .inl ce, .inl wa, .inl ho, .inl de] shM σ Q := by
  have k4 := lkS4 hs
  have k5 := lkS5 hs
  have k6 := lkS6 hs
  have k7 := lkS7 hs
  have k8 := lkS8 hs
  have k9 := lkS9 hs
  have k10 := lkS10 hs
  have k11 := lkS11 hs
  have k12 := lkS12 hs
  have m1 := ptM_1 hT hs
  have m2 := ptM_2 hT hs
  have m3 := ptM_3 hT hs
  have m4 := ptM_4 hT hs
  have m5 := ptM_5 hT hs
  have m6 := ptM_6 hT hs
  have m7 := ptM_7 hT hs
  have m8 := ptM_8 hT hs
  refine sx_rule0 (own := 4) (cd := kX4_add) (nL := 7) (by decide +kernel) (by decide +kernel) kX4_add_ok (by decide +kernel) (Nat.le_of_ble_eq_true rfl) 40 ?_
  conv => whnf
  refine ⟨(by first | assumption | rfl), ?_⟩
  try simp (disch := omega) only [Int.cast_ofNat_Int, up_s, up_a, up_i, mp_a, mp_ge, cp_a, m1, m2, m3, m4, m5, m6, m7, m8]
  conv => whnf
  refine ⟨fun g => ?_, fun g => ?_⟩
  · simp only [sx_cc, Classical.not_not] at g
    conv => whnf
    refine ⟨(by first | assumption | rfl), ?_⟩
    try simp (disch := omega) only [Int.cast_ofNat_Int, up_s, up_a, up_i, mp_a, mp_ge, cp_a, m1, m2, m3, m4, m5, m6, m7, m8]
    conv => whnf
    refine ⟨(by first | assumption | rfl), ?_⟩
    try simp (disch := omega) only [Int.cast_ofNat_Int, up_s, up_a, up_i, mp_a, mp_ge, cp_a, m1, m2, m3, m4, m5, m6, m7, m8]
    conv => whnf
    refine ⟨sx_ixI (by first | assumption | rfl) (by omega) (by omega), ?_⟩
    conv => whnf
    refine ⟨(by first | assumption | rfl), ?_⟩
    try simp (disch := omega) only [Int.cast_ofNat_Int, up_s, up_a, up_i, mp_a, mp_ge, cp_a, m1, m2, m3, m4, m5, m6, m7, m8]
    conv => whnf
    refine ⟨(by first | assumption | rfl), ?_⟩
    try simp (disch := omega) only [Int.cast_ofNat_Int, up_s, up_a, up_i, mp_a, mp_ge, cp_a, m1, m2, m3, m4, m5, m6, m7, m8]
    conv => whnf
    refine ⟨sx_ixI (by first | assumption | rfl) (by omega) (by omega), ?_⟩
    conv => whnf
    refine ⟨(by first | assumption | rfl), ?_⟩
    try simp (disch := omega) only [Int.cast_ofNat_Int, up_s, up_a, up_i, mp_a, mp_ge, cp_a, m1, m2, m3, m4, m5, m6, m7, m8]
    conv => whnf
    refine ⟨(by first | assumption | rfl), ?_⟩
    try simp (disch := omega) only [Int.cast_ofNat_Int, up_s, up_a, up_i, mp_a, mp_ge, cp_a, m1, m2, m3, m4, m5, m6, m7, m8]
    conv => whnf
    refine ⟨sx_ixI (by first | assumption | rfl) (by omega) (by omega), ?_⟩
    conv => whnf
    refine ⟨(by first | assumption | rfl), ?_⟩
    try simp (disch := omega) only [Int.cast_ofNat_Int, up_s, up_a, up_i, mp_a, mp_ge, cp_a, m1, m2, m3, m4, m5, m6, m7, m8]
    conv => whnf
    refine ⟨(by first | assumption | rfl), ?_⟩
    try simp (disch := omega) only [Int.cast_ofNat_Int, up_s, up_a, up_i, mp_a, mp_ge, cp_a, m1, m2, m3, m4, m5, m6, m7, m8]
    conv => whnf
    refine ⟨sx_ixI (by first | assumption | rfl) (by omega) (by omega), ?_⟩
    conv => whnf
    refine ⟨(by first | assumption | rfl), ?_⟩
    try simp (disch := omega) only [Int.cast_ofNat_Int, up_s, up_a, up_i, mp_a, mp_ge, cp_a, m1, m2, m3, m4, m5, m6, m7, m8]
    conv => whnf
    refine ⟨(by first | assumption | rfl), ?_⟩
    try simp (disch := omega) only [Int.cast_ofNat_Int, up_s, up_a, up_i, mp_a, mp_ge, cp_a, m1, m2, m3, m4, m5, m6, m7, m8]
    conv => whnf
    refine ⟨sx_ixI (by first | assumption | rfl) (by omega) (by omega), ?_⟩
    conv => whnf
    refine ⟨(by first | assumption | rfl), ?_⟩
    try simp (disch := omega) only [Int.cast_ofNat_Int, up_s, up_a, up_i, mp_a, mp_ge, cp_a, m1, m2, m3, m4, m5, m6, m7, m8]
    conv => whnf
    refine ⟨(by first | assumption | rfl), ?_⟩
    try simp (disch := omega) only [Int.cast_ofNat_Int, up_s, up_a, up_i, mp_a, mp_ge, cp_a, m1, m2, m3, m4, m5, m6, m7, m8]
    conv => whnf
    refine ⟨sx_ixI (by first | assumption | rfl) (by omega) (by omega), ?_⟩
    conv => whnf
    refine ⟨(by first | assumption | rfl), ?_⟩
    try simp (disch := omega) only [Int.cast_ofNat_Int, up_s, up_a, up_i, mp_a, mp_ge, cp_a, m1, m2, m3, m4, m5, m6, m7, m8]
    conv => whnf
    refine ⟨(by first | assumption | rfl), ?_⟩
    try simp (disch := omega) only [Int.cast_ofNat_Int, up_s, up_a, up_i, mp_a, mp_ge, cp_a, m1, m2, m3, m4, m5, m6, m7, m8]
    conv => whnf
    refine ⟨sx_ixI (by first | assumption | rfl) (by omega) (by omega), ?_⟩
    conv => whnf
    refine ⟨(by first | assumption | rfl), ?_⟩
    try simp (disch := omega) only [Int.cast_ofNat_Int, up_s, up_a, up_i, mp_a, mp_ge, cp_a, m1, m2, m3, m4, m5, m6, m7, m8]
    conv => whnf
    refine ⟨(by first | assumption | rfl), ?_⟩
    try simp (disch := omega) only [Int.cast_ofNat_Int, up_s, up_a, up_i, mp_a, mp_ge, cp_a, m1, m2, m3, m4, m5, m6, m7, m8]
    conv => whnf
    refine ⟨sx_ixI (by first | assumption | rfl) (by omega) (by omega), ?_⟩
    conv => whnf
    refine ⟨(by first | assumption | rfl), ?_⟩
    try simp (disch := omega) only [Int.cast_ofNat_Int, up_s, up_a, up_i, mp_a, mp_ge, cp_a, m1, m2, m3, m4, m5, m6, m7, m8]
    conv => whnf
    refine ⟨⟨by omega, by omega⟩, ?_⟩
    conv => whnf
    refine ⟨(by first | assumption | rfl), ?_⟩
    try simp (disch := omega) only [Int.cast_ofNat_Int, up_s, up_a, up_i, mp_a, mp_ge, cp_a, m1, m2, m3, m4, m5, m6, m7, m8]
    conv => whnf
    refine ⟨rfl, ?_⟩
    first | (exfalso; omega) | exact h
  · simp only [sx_cc, Classical.not_not] at g
    conv => whnf
    refine ⟨rfl, ?_⟩
    first | (exfalso; omega) | exact h
end SXM2
