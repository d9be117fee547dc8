/-! SNOW: what is read, trails, forgeries (by wip/whole) -/
section SXW1
variable {X : sx_X} {σ : sx_S} {s p : Int} {Q : sx_R}
set_option maxRecDepth 20000 in
theorem c_Shours (hs : isS s) {n : Int} (hh : 0 ≤ σ s 7 ∧ σ s 7 ≤ 9999) (h1 : n ≤ 9999 - σ s 7 → Q (some (.inl 1)) shM σ) (h0 : ¬ n ≤ 9999 - σ s 7 → Q (some (.inl 0)) shM σ) : sx_Run X 85 [.inr (.inr s), .inl n] shM σ Q := by
  have k0 := lkS0 hs
  refine sx_rule0 (own := 9) (cd := kX9_hasHoursLeft) (nL := 2) (by decide +kernel) (by decide +kernel) kX9_hasHoursLeft_ok (by decide +kernel) (Nat.le_of_ble_eq_true rfl) 40 ?_
  conv => whnf
  refine ⟨(by first | assumption | rfl), ?_⟩
  try simp (disch := omega) only [Int.cast_ofNat_Int, up_s, up_a, up_i, mp_a, mp_ge, cp_a]
  conv => whnf
  refine ⟨⟨by omega, by omega⟩, ?_⟩
  conv => whnf
  refine ⟨fun g => ?_, fun g => ?_⟩
  · simp only [sx_cc, Classical.not_not] at g
    conv => whnf
    refine ⟨fun q9 => by first | (simp at q9; done) | omega, ?_⟩
    first | exact h1 (by omega) | exact h0 (by omega)
  · simp only [sx_cc, Classical.not_not] at g
    conv => whnf
    refine ⟨fun q9 => by first | (simp at q9; done) | omega, ?_⟩
    first | exact h1 (by omega) | exact h0 (by omega)
set_option maxRecDepth 20000 in
theorem c_Snear (hT : PT σ) (hs : isS s) (hp : isP p) (ep : σ s 1 = p) (hd : PD σ p) {k c : Int} (hk : 0 ≤ k ∧ k < 90) (hl : 0 ≤ σ (s + 5) k ∧ σ (s + 5) k < 5) (hce : 0 ≤ σ (s + 6) k ∧ σ (s + 6) k < 48) (hc : 0 ≤ c ∧ c < 48) (h1 : fFar (σ p 0) (σ (s + 6) k) c ≤ σ (p + 7) (σ (s + 5) k) → Q (some (.inl 1)) shM σ) (h0 : ¬ fFar (σ p 0) (σ (s + 6) k) c ≤ σ (p + 7) (σ (s + 5) k) → Q (some (.inl 0)) shM σ) : sx_Run X 95 [.inr (.inr s), .inl k, .inl c] shM σ Q := by
  have k0 := lkS0 hs
  have k1 := lkS1 hs
  have k2 := lkS2 hs
  have k3 := lkS3 hs
  have k4 := lkS4 hs
  have k5 := lkS5 hs
  have k6 := lkS6 hs
  have k7 := lkS7 hs
  have k8 := lkS8 hs
  have k9 := lkS9 hs
  have k10 := lkS10 hs
  have k11 := lkS11 hs
  have k12 := lkS12 hs
  have k13 := lkS13 hs
  have k14 := lkS14 hs
  have m1 := ptM_1 hT hs
  have m2 := ptM_2 hT hs
  have m3 := ptM_3 hT hs
  have m4 := ptM_4 hT hs
  have m5 := ptM_5 hT hs
  have m6 := ptM_6 hT hs
  have m7 := ptM_7 hT hs
  have m8 := ptM_8 hT hs
  have s0 := ptS_0 hT hs
  have s2 := ptS_2 hT hs
  have s3 := ptS_3 hT hs
  have s4 := ptS_4 hT hs
  have s5 := ptS_5 hT hs
  have s6 := ptS_6 hT hs
  have s11 := ptS_11 hT hs
  have q0 := lkP0 hp
  have q1 := lkP1 hp
  have q2 := lkP2 hp
  have q3 := lkP3 hp
  have q4 := lkP4 hp
  have q5 := lkP5 hp
  have q6 := lkP6 hp
  have q7 := lkP7 hp
  have q8 := lkP8 hp
  have q9 := lkP9 hp
  have q10 := lkP10 hp
  have q11 := lkP11 hp
  have q12 := lkP12 hp
  have q13 := lkP13 hp
  have q14 := lkP14 hp
  have t2 := ptP_2 hT hp
  have t3 := ptP_3 hT hp
  have t5 := ptP_5 hT hp
  have t7 := ptP_7 hT hp
  have t8 := ptP_8 hT hp
  have t9 := ptP_9 hT hp
  have t10 := ptP_10 hT hp
  have t11 := ptP_11 hT hp
  have t12 := ptP_12 hT hp
  have t15 := ptP_15 hT hp
  have t16 := ptP_16 hT hp
  have t17 := ptP_17 hT hp
  have t18 := ptP_18 hT hp
  refine sx_rule0 (own := 9) (cd := kX9_isNear) (nL := 3) (by decide +kernel) (by decide +kernel) kX9_isNear_ok (by decide +kernel) (Nat.le_of_ble_eq_true rfl) 40 ?_
  conv => whnf
  refine ⟨(by first | assumption | rfl), ?_⟩
  try simp (disch := omega) only [Int.cast_ofNat_Int, up_s, up_a, up_i, mp_a, mp_ge, cp_a, m1, m2, m3, m4, m5, m6, m7, m8, s0, s2, s3, s4, s5, s6, s11, ep, t2, t3, t5, t7, t8, t9, t10, t11, t12, t15, t16, t17, t18]
  conv => whnf
  refine ⟨(by first | assumption | rfl), ?_⟩
  try simp (disch := omega) only [Int.cast_ofNat_Int, up_s, up_a, up_i, mp_a, mp_ge, cp_a, m1, m2, m3, m4, m5, m6, m7, m8, s0, s2, s3, s4, s5, s6, s11, ep, t2, t3, t5, t7, t8, t9, t10, t11, t12, t15, t16, t17, t18]
  conv => whnf
  refine ⟨(by first | assumption | rfl), ?_⟩
  try simp (disch := omega) only [Int.cast_ofNat_Int, up_s, up_a, up_i, mp_a, mp_ge, cp_a, m1, m2, m3, m4, m5, m6, m7, m8, s0, s2, s3, s4, s5, s6, s11, ep, t2, t3, t5, t7, t8, t9, t10, t11, t12, t15, t16, t17, t18]
  conv => whnf
  refine ⟨sx_ixI (by first | assumption | rfl) (by omega) (by omega), ?_⟩
  try simp (disch := omega) only [Int.cast_ofNat_Int, up_s, up_a, up_i, mp_a, mp_ge, cp_a, m1, m2, m3, m4, m5, m6, m7, m8, s0, s2, s3, s4, s5, s6, s11, ep, t2, t3, t5, t7, t8, t9, t10, t11, t12, t15, t16, t17, t18]
  conv => whnf
  refine ⟨Nat.le_of_ble_eq_true rfl, Nat.le_of_ble_eq_true rfl, (by first | assumption | rfl), ?_⟩
  refine c_Papart hp hd (by first | assumption | exact ⟨by omega, by omega⟩) (by first | assumption | exact ⟨by omega, by omega⟩) ?_
  conv => whnf
  refine ⟨(by first | assumption | rfl), ?_⟩
  try simp (disch := omega) only [Int.cast_ofNat_Int, up_s, up_a, up_i, mp_a, mp_ge, cp_a, m1, m2, m3, m4, m5, m6, m7, m8, s0, s2, s3, s4, s5, s6, s11, ep, t2, t3, t5, t7, t8, t9, t10, t11, t12, t15, t16, t17, t18]
  conv => whnf
  refine ⟨(by first | assumption | rfl), ?_⟩
  try simp (disch := omega) only [Int.cast_ofNat_Int, up_s, up_a, up_i, mp_a, mp_ge, cp_a, m1, m2, m3, m4, m5, m6, m7, m8, s0, s2, s3, s4, s5, s6, s11, ep, t2, t3, t5, t7, t8, t9, t10, t11, t12, t15, t16, t17, t18]
  conv => whnf
  refine ⟨(by first | assumption | rfl), ?_⟩
  try simp (disch := omega) only [Int.cast_ofNat_Int, up_s, up_a, up_i, mp_a, mp_ge, cp_a, m1, m2, m3, m4, m5, m6, m7, m8, s0, s2, s3, s4, s5, s6, s11, ep, t2, t3, t5, t7, t8, t9, t10, t11, t12, t15, t16, t17, t18]
  conv => whnf
  refine ⟨(by first | assumption | rfl), ?_⟩
  try simp (disch := omega) only [Int.cast_ofNat_Int, up_s, up_a, up_i, mp_a, mp_ge, cp_a, m1, m2, m3, m4, m5, m6, m7, m8, s0, s2, s3, s4, s5, s6, s11, ep, t2, t3, t5, t7, t8, t9, t10, t11, t12, t15, t16, t17, t18]
  conv => whnf
  refine ⟨sx_ixI (by first | assumption | rfl) (by omega) (by omega), ?_⟩
  try simp (disch := omega) only [Int.cast_ofNat_Int, up_s, up_a, up_i, mp_a, mp_ge, cp_a, m1, m2, m3, m4, m5, m6, m7, m8, s0, s2, s3, s4, s5, s6, s11, ep, t2, t3, t5, t7, t8, t9, t10, t11, t12, t15, t16, t17, t18]
  conv => whnf
  refine ⟨sx_ixI (by first | assumption | rfl) (by omega) (by omega), ?_⟩
  try simp (disch := omega) only [Int.cast_ofNat_Int, up_s, up_a, up_i, mp_a, mp_ge, cp_a, m1, m2, m3, m4, m5, m6, m7, m8, s0, s2, s3, s4, s5, s6, s11, ep, t2, t3, t5, t7, t8, t9, t10, t11, t12, t15, t16, t17, t18]
  conv => whnf
  refine ⟨fun g => ?_, fun g => ?_⟩
  · simp only [sx_cc, Classical.not_not] at g
    conv => whnf
    refine ⟨fun q9 => by first | (simp at q9; done) | omega, ?_⟩
    first | exact h1 (by omega) | exact h0 (by omega)
  · simp only [sx_cc, Classical.not_not] at g
    conv => whnf
    refine ⟨fun q9 => by first | (simp at q9; done) | omega, ?_⟩
    first | exact h1 (by omega) | exact h0 (by omega)
/-- the greatest mark below k that looks alike within its gait; -1: by marks j < n -/
def fBef (w : Int) (gait look cell deep : Int → Int) (k : Int) : Nat → Int
  | 0 => -1
  | n + 1 => if 0 < deep (n : Int) ∧ look (n : Int) = look k ∧ fFar w (cell k) (cell (n : Int)) ≤ gait (look k) then (n : Int) else fBef w gait look cell deep k n
theorem fBef_s {w : Int} {gait look cell deep : Int → Int} {k i : Int} (h : 0 ≤ i) : fBef w gait look cell deep k (i + 1).toNat = if 0 < deep i ∧ look i = look k ∧ fFar w (cell k) (cell i) ≤ gait (look k) then i else fBef w gait look cell deep k i.toNat := by
  rw [toNat_s h]
  show (if 0 < deep (i.toNat : Int) ∧ look (i.toNat : Int) = look k ∧ fFar w (cell k) (cell (i.toNat : Int)) ≤ gait (look k) then (i.toNat : Int) else _) = _
  rw [Int.toNat_of_nonneg h]
theorem fBef_lt (w : Int) (gait look cell deep : Int → Int) (k : Int) : ∀ n : Nat, -1 ≤ fBef w gait look cell deep k n ∧ fBef w gait look cell deep k n < n
  | 0 => ⟨by simp [fBef], by simp [fBef]⟩
  | n + 1 => by
    have h1 := fBef_lt w gait look cell deep k n
    have e : fBef w gait look cell deep k (n + 1) = if 0 < deep (n : Int) ∧ look (n : Int) = look k ∧ fFar w (cell k) (cell (n : Int)) ≤ gait (look k) then (n : Int) else fBef w gait look cell deep k n := rfl
    rw [e]
    split <;> omega
set_option maxRecDepth 20000 in
theorem c_Sbefore (hT : PT σ) (hs : isS s) (hn : 0 ≤ σ (s + 4) 0 ∧ σ (s + 4) 0 ≤ 90) (hp : isP p) (ep : σ s 1 = p) (hd : PD σ p) (hl : ∀ i : Int, 0 ≤ i → i < σ (s + 4) 0 → 0 ≤ σ (s + 5) i ∧ σ (s + 5) i < 5) (hce : ∀ i : Int, 0 ≤ i → i < σ (s + 4) 0 → 0 ≤ σ (s + 6) i ∧ σ (s + 6) i < 48) {k : Int} (hk : 0 ≤ k ∧ k < σ (s + 4) 0) (h : Q (some (.inl (fBef (σ p 0) (σ (p + 7)) (σ (s + 5)) (σ (s + 6)) (σ (s + 9)) k k.toNat))) shM σ) : sx_Run X 94 [.inr (.inr s), .inl k] shM σ Q := by
  have k0 := lkS0 hs
  have k1 := lkS1 hs
  have k2 := lkS2 hs
  have k3 := lkS3 hs
  have k4 := lkS4 hs
  have k5 := lkS5 hs
  have k6 := lkS6 hs
  have k7 := lkS7 hs
  have k8 := lkS8 hs
  have k9 := lkS9 hs
  have k10 := lkS10 hs
  have k11 := lkS11 hs
  have k12 := lkS12 hs
  have k13 := lkS13 hs
  have k14 := lkS14 hs
  have m1 := ptM_1 hT hs
  have m2 := ptM_2 hT hs
  have m3 := ptM_3 hT hs
  have m4 := ptM_4 hT hs
  have m5 := ptM_5 hT hs
  have m6 := ptM_6 hT hs
  have m7 := ptM_7 hT hs
  have m8 := ptM_8 hT hs
  have s0 := ptS_0 hT hs
  have s2 := ptS_2 hT hs
  have s3 := ptS_3 hT hs
  have s4 := ptS_4 hT hs
  have s5 := ptS_5 hT hs
  have s6 := ptS_6 hT hs
  have s11 := ptS_11 hT hs
  have q0 := lkP0 hp
  have q1 := lkP1 hp
  have q2 := lkP2 hp
  have q3 := lkP3 hp
  have q4 := lkP4 hp
  have q5 := lkP5 hp
  have q6 := lkP6 hp
  have q7 := lkP7 hp
  have q8 := lkP8 hp
  have q9 := lkP9 hp
  have q10 := lkP10 hp
  have q11 := lkP11 hp
  have q12 := lkP12 hp
  have q13 := lkP13 hp
  have q14 := lkP14 hp
  have t2 := ptP_2 hT hp
  have t3 := ptP_3 hT hp
  have t5 := ptP_5 hT hp
  have t7 := ptP_7 hT hp
  have t8 := ptP_8 hT hp
  have t9 := ptP_9 hT hp
  have t10 := ptP_10 hT hp
  have t11 := ptP_11 hT hp
  have t12 := ptP_12 hT hp
  have t15 := ptP_15 hT hp
  have t16 := ptP_16 hT hp
  have t17 := ptP_17 hT hp
  have t18 := ptP_18 hT hp
  refine sx_rule2 (own := 9) (cd := kX9_markBefore) (nL := 4) (by decide +kernel) (by decide +kernel) kX9_markBefore_ok (by decide +kernel) (Nat.le_of_ble_eq_true rfl) [14] 40 (fun n t L st _ σ' => (t = 14 ∧ ∃ i : Int, st = [] ∧ L = [some (.inr (.inr (s))), some (.inl (k)), some (.inl (σ (s + 5) k)), some (.inl (i))] ∧ (σ = σ' ∧ -1 ≤ i ∧ i < k ∧ fBef (σ p 0) (σ (p + 7)) (σ (s + 5)) (σ (s + 6)) (σ (s + 9)) k k.toNat = fBef (σ p 0) (σ (p + 7)) (σ (s + 5)) (σ (s + 6)) (σ (s + 9)) k (i + 1).toNat) ∧ n = (i + 1).toNat)) ?_ ?_
  · skip
    conv => whnf
    refine ⟨(by first | assumption | rfl), ?_⟩
    try simp (disch := omega) only [Int.cast_ofNat_Int, up_s, up_a, up_i, mp_a, mp_ge, cp_a, m1, m2, m3, m4, m5, m6, m7, m8, s0, s2, s3, s4, s5, s6, s11, ep, t2, t3, t5, t7, t8, t9, t10, t11, t12, t15, t16, t17, t18]
    conv => whnf
    refine ⟨(by first | assumption | rfl), ?_⟩
    try simp (disch := omega) only [Int.cast_ofNat_Int, up_s, up_a, up_i, mp_a, mp_ge, cp_a, m1, m2, m3, m4, m5, m6, m7, m8, s0, s2, s3, s4, s5, s6, s11, ep, t2, t3, t5, t7, t8, t9, t10, t11, t12, t15, t16, t17, t18]
    conv => whnf
    refine ⟨sx_ixI (by first | assumption | rfl) (by omega) (by omega), ?_⟩
    try simp (disch := omega) only [Int.cast_ofNat_Int, up_s, up_a, up_i, mp_a, mp_ge, cp_a, m1, m2, m3, m4, m5, m6, m7, m8, s0, s2, s3, s4, s5, s6, s11, ep, t2, t3, t5, t7, t8, t9, t10, t11, t12, t15, t16, t17, t18]
    conv => whnf
    refine ⟨⟨by omega, by omega⟩, ?_⟩
    conv => whnf
    refine ⟨_, ⟨rfl, _, rfl, rfl, ?_, rfl⟩⟩
    refine ⟨rfl, by omega, by omega, ?_⟩
    rw [show k - 1 + 1 = k by omega]
  · intro n t L st σ' hk
    obtain ⟨rfl, i, rfl, rfl, hc, rfl⟩ := hk
    obtain ⟨rfl, hi0, hi1, hv⟩ := hc
    conv => whnf
    refine ⟨fun g => ?_, fun g => ?_⟩
    · simp only [sx_cc, Classical.not_not] at g
      conv => whnf
      refine ⟨fun q9 => by first | (simp at q9; done) | omega, ?_⟩
      have e9 : i = -1 := by omega
      subst e9
      rw [hv] at h
      exact h
    · simp only [sx_cc, Classical.not_not] at g
      conv => whnf
      refine ⟨(by first | assumption | rfl), ?_⟩
      try simp (disch := omega) only [Int.cast_ofNat_Int, up_s, up_a, up_i, mp_a, mp_ge, cp_a, m1, m2, m3, m4, m5, m6, m7, m8, s0, s2, s3, s4, s5, s6, s11, ep, t2, t3, t5, t7, t8, t9, t10, t11, t12, t15, t16, t17, t18]
      conv => whnf
      refine ⟨Nat.le_of_ble_eq_true rfl, Nat.le_of_ble_eq_true rfl, (by first | assumption | rfl), ?_⟩
      refine c_Mlasts hT hs hn (fun g1 g2 g3 => ?_) (fun g0 => ?_)
      · skip
        conv => whnf
        refine ⟨fun g => ?_, fun g => ?_⟩
        · exact absurd g (by simp [sx_cc])
        · skip
          conv => whnf
          refine ⟨(by first | assumption | rfl), ?_⟩
          try simp (disch := omega) only [Int.cast_ofNat_Int, up_s, up_a, up_i, mp_a, mp_ge, cp_a, m1, m2, m3, m4, m5, m6, m7, m8, s0, s2, s3, s4, s5, s6, s11, ep, t2, t3, t5, t7, t8, t9, t10, t11, t12, t15, t16, t17, t18]
          conv => whnf
          refine ⟨(by first | assumption | rfl), ?_⟩
          try simp (disch := omega) only [Int.cast_ofNat_Int, up_s, up_a, up_i, mp_a, mp_ge, cp_a, m1, m2, m3, m4, m5, m6, m7, m8, s0, s2, s3, s4, s5, s6, s11, ep, t2, t3, t5, t7, t8, t9, t10, t11, t12, t15, t16, t17, t18]
          conv => whnf
          refine ⟨sx_ixI (by first | assumption | rfl) (by omega) (by omega), ?_⟩
          try simp (disch := omega) only [Int.cast_ofNat_Int, up_s, up_a, up_i, mp_a, mp_ge, cp_a, m1, m2, m3, m4, m5, m6, m7, m8, s0, s2, s3, s4, s5, s6, s11, ep, t2, t3, t5, t7, t8, t9, t10, t11, t12, t15, t16, t17, t18]
          conv => whnf
          refine ⟨fun g => ?_, fun g => ?_⟩
          · simp only [sx_cc, Classical.not_not] at g
            conv => whnf
            refine ⟨⟨by omega, by omega⟩, ?_⟩
            conv => whnf
            refine ⟨_, ?_, ⟨rfl, _, rfl, rfl, ?_, rfl⟩⟩
            · omega
            · refine ⟨rfl, by omega, by omega, ?_⟩
              rw [hv, fBef_s (by omega), if_neg (by omega), show i + -1 + 1 = i by omega]
          · simp only [sx_cc, Classical.not_not] at g
            conv => whnf
            refine ⟨(by first | assumption | rfl), ?_⟩
            try simp (disch := omega) only [Int.cast_ofNat_Int, up_s, up_a, up_i, mp_a, mp_ge, cp_a, m1, m2, m3, m4, m5, m6, m7, m8, s0, s2, s3, s4, s5, s6, s11, ep, t2, t3, t5, t7, t8, t9, t10, t11, t12, t15, t16, t17, t18]
            conv => whnf
            refine ⟨(by first | assumption | rfl), ?_⟩
            try simp (disch := omega) only [Int.cast_ofNat_Int, up_s, up_a, up_i, mp_a, mp_ge, cp_a, m1, m2, m3, m4, m5, m6, m7, m8, s0, s2, s3, s4, s5, s6, s11, ep, t2, t3, t5, t7, t8, t9, t10, t11, t12, t15, t16, t17, t18]
            conv => whnf
            refine ⟨sx_ixI (by first | assumption | rfl) (by omega) (by omega), ?_⟩
            try simp (disch := omega) only [Int.cast_ofNat_Int, up_s, up_a, up_i, mp_a, mp_ge, cp_a, m1, m2, m3, m4, m5, m6, m7, m8, s0, s2, s3, s4, s5, s6, s11, ep, t2, t3, t5, t7, t8, t9, t10, t11, t12, t15, t16, t17, t18]
            conv => whnf
            refine ⟨Nat.le_of_ble_eq_true rfl, Nat.le_of_ble_eq_true rfl, (by first | assumption | rfl), ?_⟩
            refine c_Snear hT hs hp ep hd ⟨by omega, by omega⟩ (hl _ (by omega) (by omega)) (hce _ (by omega) (by omega)) (by first | assumption | exact hce _ (by omega) (by omega) | exact hho _ (by omega) (by omega) | exact ⟨by omega, by omega⟩) (fun g1 => ?_) (fun g0 => ?_)
            · skip
              conv => whnf
              refine ⟨fun g => ?_, fun g => ?_⟩
              · exact absurd g (by simp [sx_cc])
              · skip
                conv => whnf
                refine ⟨fun q9 => by first | (simp at q9; done) | omega, ?_⟩
                rw [hv, fBef_s (by omega), if_pos ⟨by omega, by omega, by omega⟩] at h
                exact h
            · skip
              conv => whnf
              refine ⟨fun g => ?_, fun g => ?_⟩
              · skip
                conv => whnf
                refine ⟨⟨by omega, by omega⟩, ?_⟩
                conv => whnf
                refine ⟨_, ?_, ⟨rfl, _, rfl, rfl, ?_, rfl⟩⟩
                · omega
                · refine ⟨rfl, by omega, by omega, ?_⟩
                  rw [hv, fBef_s (by omega), if_neg (by omega), show i + -1 + 1 = i by omega]
              · exact absurd g (by simp [sx_cc])
      · skip
        conv => whnf
        refine ⟨fun g => ?_, fun g => ?_⟩
        · skip
          conv => whnf
          refine ⟨⟨by omega, by omega⟩, ?_⟩
          conv => whnf
          refine ⟨_, ?_, ⟨rfl, _, rfl, rfl, ?_, rfl⟩⟩
          · omega
          · refine ⟨rfl, by omega, by omega, ?_⟩
            rw [hv, fBef_s (by omega), if_neg (by omega), show i + -1 + 1 = i by omega]
        · exact absurd g (by simp [sx_cc])
def pNear (w : Int) (gait look cell : Int → Int) (k c : Int) : Prop := fFar w (cell k) c ≤ gait (look k)
/-- a mark closes: by its walker's home, by a mark before, by a tree or ice -/
def pClo (w h : Int) (kind gait home look cell deep : Int → Int) (k : Int) : Prop := pNear w gait look cell k (home (look k)) ∨ ¬ fBef w gait look cell deep k k.toNat = -1 ∨ ∃ c : Int, 0 ≤ c ∧ c < w * h ∧ ¬ kind c = 0 ∧ pNear w gait look cell k c
set_option maxRecDepth 20000 in
theorem c_Scloses (hT : PT σ) (hs : isS s) (hn : 0 ≤ σ (s + 4) 0 ∧ σ (s + 4) 0 ≤ 90) (hp : isP p) (ep : σ s 1 = p) (hd : PD σ p) (hl : ∀ i : Int, 0 ≤ i → i < σ (s + 4) 0 → 0 ≤ σ (s + 5) i ∧ σ (s + 5) i < 5) (hce : ∀ i : Int, 0 ≤ i → i < σ (s + 4) 0 → 0 ≤ σ (s + 6) i ∧ σ (s + 6) i < 48) (hho : ∀ i : Int, 0 ≤ i → i < 5 → 0 ≤ σ (p + 8) i ∧ σ (p + 8) i < 48) {k : Int} (hk : 0 ≤ k ∧ k < σ (s + 4) 0) (h1 : pClo (σ p 0) (σ p 1) (σ (p + 1)) (σ (p + 7)) (σ (p + 8)) (σ (s + 5)) (σ (s + 6)) (σ (s + 9)) k → Q (some (.inl 1)) shM σ) (h0 : ¬ pClo (σ p 0) (σ p 1) (σ (p + 1)) (σ (p + 7)) (σ (p + 8)) (σ (s + 5)) (σ (s + 6)) (σ (s + 9)) k → Q (some (.inl 0)) shM σ) : sx_Run X 96 [.inr (.inr s), .inl k] shM σ Q := by
  have k0 := lkS0 hs
  have k1 := lkS1 hs
  have k2 := lkS2 hs
  have k3 := lkS3 hs
  have k4 := lkS4 hs
  have k5 := lkS5 hs
  have k6 := lkS6 hs
  have k7 := lkS7 hs
  have k8 := lkS8 hs
  have k9 := lkS9 hs
  have k10 := lkS10 hs
  have k11 := lkS11 hs
  have k12 := lkS12 hs
  have k13 := lkS13 hs
  have k14 := lkS14 hs
  have m1 := ptM_1 hT hs
  have m2 := ptM_2 hT hs
  have m3 := ptM_3 hT hs
  have m4 := ptM_4 hT hs
  have m5 := ptM_5 hT hs
  have m6 := ptM_6 hT hs
  have m7 := ptM_7 hT hs
  have m8 := ptM_8 hT hs
  have s0 := ptS_0 hT hs
  have s2 := ptS_2 hT hs
  have s3 := ptS_3 hT hs
  have s4 := ptS_4 hT hs
  have s5 := ptS_5 hT hs
  have s6 := ptS_6 hT hs
  have s11 := ptS_11 hT hs
  have q0 := lkP0 hp
  have q1 := lkP1 hp
  have q2 := lkP2 hp
  have q3 := lkP3 hp
  have q4 := lkP4 hp
  have q5 := lkP5 hp
  have q6 := lkP6 hp
  have q7 := lkP7 hp
  have q8 := lkP8 hp
  have q9 := lkP9 hp
  have q10 := lkP10 hp
  have q11 := lkP11 hp
  have q12 := lkP12 hp
  have q13 := lkP13 hp
  have q14 := lkP14 hp
  have t2 := ptP_2 hT hp
  have t3 := ptP_3 hT hp
  have t5 := ptP_5 hT hp
  have t7 := ptP_7 hT hp
  have t8 := ptP_8 hT hp
  have t9 := ptP_9 hT hp
  have t10 := ptP_10 hT hp
  have t11 := ptP_11 hT hp
  have t12 := ptP_12 hT hp
  have t15 := ptP_15 hT hp
  have t16 := ptP_16 hT hp
  have t17 := ptP_17 hT hp
  have t18 := ptP_18 hT hp
  have hlk := hl k hk.1 hk.2
  have hwm := hd.mul
  refine sx_rule2 (own := 9) (cd := kX9_closes) (nL := 3) (by decide +kernel) (by decide +kernel) kX9_closes_ok (by decide +kernel) (Nat.le_of_ble_eq_true rfl) [38] 40 (fun n t L st _ σ' => (t = 38 ∧ ∃ i : Int, st = [] ∧ L = [some (.inr (.inr (s))), some (.inl (k)), some (.inl (i))] ∧ (σ = σ' ∧ 0 ≤ i ∧ i ≤ σ p 0 * σ p 1 ∧ ¬ pNear (σ p 0) (σ (p + 7)) (σ (s + 5)) (σ (s + 6)) k (σ (p + 8) (σ (s + 5) k)) ∧ fBef (σ p 0) (σ (p + 7)) (σ (s + 5)) (σ (s + 6)) (σ (s + 9)) k k.toNat = -1 ∧ ∀ c : Int, 0 ≤ c → c < i → ¬ σ (p + 1) c = 0 → ¬ pNear (σ p 0) (σ (p + 7)) (σ (s + 5)) (σ (s + 6)) k c) ∧ n = (σ p 0 * σ p 1 - i).toNat)) ?_ ?_
  · skip
    conv => whnf
    refine ⟨(by first | assumption | rfl), ?_⟩
    try simp (disch := omega) only [Int.cast_ofNat_Int, up_s, up_a, up_i, mp_a, mp_ge, cp_a, m1, m2, m3, m4, m5, m6, m7, m8, s0, s2, s3, s4, s5, s6, s11, ep, t2, t3, t5, t7, t8, t9, t10, t11, t12, t15, t16, t17, t18]
    conv => whnf
    refine ⟨(by first | assumption | rfl), ?_⟩
    try simp (disch := omega) only [Int.cast_ofNat_Int, up_s, up_a, up_i, mp_a, mp_ge, cp_a, m1, m2, m3, m4, m5, m6, m7, m8, s0, s2, s3, s4, s5, s6, s11, ep, t2, t3, t5, t7, t8, t9, t10, t11, t12, t15, t16, t17, t18]
    conv => whnf
    refine ⟨(by first | assumption | rfl), ?_⟩
    try simp (disch := omega) only [Int.cast_ofNat_Int, up_s, up_a, up_i, mp_a, mp_ge, cp_a, m1, m2, m3, m4, m5, m6, m7, m8, s0, s2, s3, s4, s5, s6, s11, ep, t2, t3, t5, t7, t8, t9, t10, t11, t12, t15, t16, t17, t18]
    conv => whnf
    refine ⟨(by first | assumption | rfl), ?_⟩
    try simp (disch := omega) only [Int.cast_ofNat_Int, up_s, up_a, up_i, mp_a, mp_ge, cp_a, m1, m2, m3, m4, m5, m6, m7, m8, s0, s2, s3, s4, s5, s6, s11, ep, t2, t3, t5, t7, t8, t9, t10, t11, t12, t15, t16, t17, t18]
    conv => whnf
    refine ⟨sx_ixI (by first | assumption | rfl) (by omega) (by omega), ?_⟩
    try simp (disch := omega) only [Int.cast_ofNat_Int, up_s, up_a, up_i, mp_a, mp_ge, cp_a, m1, m2, m3, m4, m5, m6, m7, m8, s0, s2, s3, s4, s5, s6, s11, ep, t2, t3, t5, t7, t8, t9, t10, t11, t12, t15, t16, t17, t18]
    conv => whnf
    refine ⟨sx_ixI (by first | assumption | rfl) (by omega) (by omega), ?_⟩
    try simp (disch := omega) only [Int.cast_ofNat_Int, up_s, up_a, up_i, mp_a, mp_ge, cp_a, m1, m2, m3, m4, m5, m6, m7, m8, s0, s2, s3, s4, s5, s6, s11, ep, t2, t3, t5, t7, t8, t9, t10, t11, t12, t15, t16, t17, t18]
    conv => whnf
    refine ⟨Nat.le_of_ble_eq_true rfl, Nat.le_of_ble_eq_true rfl, (by first | assumption | rfl), ?_⟩
    refine c_Snear hT hs hp ep hd ⟨by omega, by omega⟩ (hl _ (by omega) (by omega)) (hce _ (by omega) (by omega)) (by first | assumption | exact hce _ (by omega) (by omega) | exact hho _ (by omega) (by omega) | exact ⟨by omega, by omega⟩) (fun g1 => ?_) (fun g0 => ?_)
    · skip
      conv => whnf
      refine ⟨fun g => ?_, fun g => ?_⟩
      · skip
        conv => whnf
        refine ⟨fun q9 => by first | (simp at q9; done) | omega, ?_⟩
        first | exact h1 (Or.inl g1) | exact h1 (Or.inr (Or.inl (by omega))) | exact h1 (Or.inr (Or.inr ⟨i, by omega, by omega, by omega, g1⟩))
      · exact absurd g (by simp [sx_cc])
    · skip
      conv => whnf
      refine ⟨fun g => ?_, fun g => ?_⟩
      · exact absurd g (by simp [sx_cc])
      · skip
        conv => whnf
        refine ⟨Nat.le_of_ble_eq_true rfl, Nat.le_of_ble_eq_true rfl, (by first | assumption | rfl), ?_⟩
        refine c_Sbefore hT hs hn hp ep hd hl hce ⟨by omega, by omega⟩ ?_
        conv => whnf
        refine ⟨fun g => ?_, fun g => ?_⟩
        · simp only [sx_cc, Classical.not_not] at g
          conv => whnf
          refine ⟨_, ⟨rfl, _, rfl, rfl, ?_, rfl⟩⟩
          refine ⟨rfl, by omega, by omega, g0, by omega, fun c z1 z2 => by omega⟩
        · simp only [sx_cc, Classical.not_not] at g
          conv => whnf
          refine ⟨fun q9 => by first | (simp at q9; done) | omega, ?_⟩
          first | exact h1 (Or.inl g1) | exact h1 (Or.inr (Or.inl (by omega))) | exact h1 (Or.inr (Or.inr ⟨i, by omega, by omega, by omega, g1⟩))
  · intro n t L st σ' hk
    obtain ⟨rfl, i, rfl, rfl, hc, rfl⟩ := hk
    obtain ⟨rfl, hi0, hi1, hno1, hno2, hv⟩ := hc
    conv => whnf
    refine ⟨(by first | assumption | rfl), ?_⟩
    try simp (disch := omega) only [Int.cast_ofNat_Int, up_s, up_a, up_i, mp_a, mp_ge, cp_a, m1, m2, m3, m4, m5, m6, m7, m8, s0, s2, s3, s4, s5, s6, s11, ep, t2, t3, t5, t7, t8, t9, t10, t11, t12, t15, t16, t17, t18]
    conv => whnf
    refine ⟨Nat.le_of_ble_eq_true rfl, Nat.le_of_ble_eq_true rfl, (by first | assumption | rfl), ?_⟩
    refine c_Pcells hp hd ?_
    conv => whnf
    refine ⟨fun g => ?_, fun g => ?_⟩
    · simp only [sx_cc, Classical.not_not] at g
      conv => whnf
      refine ⟨fun q9 => by first | (simp at q9; done) | omega, ?_⟩
      refine h0 (fun z => ?_)
      rcases z with z | z | ⟨c, z1, z2, z3, z4⟩
      · exact hno1 z
      · omega
      · exact hv c z1 (by omega) z3 z4
    · simp only [sx_cc, Classical.not_not] at g
      conv => whnf
      refine ⟨(by first | assumption | rfl), ?_⟩
      try simp (disch := omega) only [Int.cast_ofNat_Int, up_s, up_a, up_i, mp_a, mp_ge, cp_a, m1, m2, m3, m4, m5, m6, m7, m8, s0, s2, s3, s4, s5, s6, s11, ep, t2, t3, t5, t7, t8, t9, t10, t11, t12, t15, t16, t17, t18]
      conv => whnf
      refine ⟨(by first | assumption | rfl), ?_⟩
      try simp (disch := omega) only [Int.cast_ofNat_Int, up_s, up_a, up_i, mp_a, mp_ge, cp_a, m1, m2, m3, m4, m5, m6, m7, m8, s0, s2, s3, s4, s5, s6, s11, ep, t2, t3, t5, t7, t8, t9, t10, t11, t12, t15, t16, t17, t18]
      conv => whnf
      refine ⟨sx_ixI (by first | assumption | rfl) (by omega) (by omega), ?_⟩
      try simp (disch := omega) only [Int.cast_ofNat_Int, up_s, up_a, up_i, mp_a, mp_ge, cp_a, m1, m2, m3, m4, m5, m6, m7, m8, s0, s2, s3, s4, s5, s6, s11, ep, t2, t3, t5, t7, t8, t9, t10, t11, t12, t15, t16, t17, t18]
      conv => whnf
      refine ⟨fun g => ?_, fun g => ?_⟩
      · simp only [sx_cc, Classical.not_not] at g
        conv => whnf
        refine ⟨⟨by omega, by omega⟩, ?_⟩
        conv => whnf
        refine ⟨_, ?_, ⟨rfl, _, rfl, rfl, ?_, rfl⟩⟩
        · omega
        · refine ⟨rfl, by omega, by omega, hno1, hno2, fun c z1 z2 z3 z4 => ?_⟩
          by_cases ec : c = i
          · subst ec
            first | exact g0 z4 | exact z3 (by omega)
          · exact hv c z1 (by omega) z3 z4
      · simp only [sx_cc, Classical.not_not] at g
        conv => whnf
        refine ⟨Nat.le_of_ble_eq_true rfl, Nat.le_of_ble_eq_true rfl, (by first | assumption | rfl), ?_⟩
        refine c_Snear hT hs hp ep hd ⟨by omega, by omega⟩ (hl _ (by omega) (by omega)) (hce _ (by omega) (by omega)) (by first | assumption | exact hce _ (by omega) (by omega) | exact hho _ (by omega) (by omega) | exact ⟨by omega, by omega⟩) (fun g1 => ?_) (fun g0 => ?_)
        · skip
          conv => whnf
          refine ⟨fun g => ?_, fun g => ?_⟩
          · exact absurd g (by simp [sx_cc])
          · skip
            conv => whnf
            refine ⟨fun q9 => by first | (simp at q9; done) | omega, ?_⟩
            first | exact h1 (Or.inl g1) | exact h1 (Or.inr (Or.inl (by omega))) | exact h1 (Or.inr (Or.inr ⟨i, by omega, by omega, by omega, g1⟩))
        · skip
          conv => whnf
          refine ⟨fun g => ?_, fun g => ?_⟩
          · skip
            conv => whnf
            refine ⟨⟨by omega, by omega⟩, ?_⟩
            conv => whnf
            refine ⟨_, ?_, ⟨rfl, _, rfl, rfl, ?_, rfl⟩⟩
            · omega
            · refine ⟨rfl, by omega, by omega, hno1, hno2, fun c z1 z2 z3 z4 => ?_⟩
              by_cases ec : c = i
              · subst ec
                first | exact g0 z4 | exact z3 (by omega)
              · exact hv c z1 (by omega) z3 z4
          · exact absurd g (by simp [sx_cc])
set_option maxRecDepth 20000 in
theorem c_Sforged (hT : PT σ) (hs : isS s) (hn : 0 ≤ σ (s + 4) 0 ∧ σ (s + 4) 0 ≤ 90) (hp : isP p) (ep : σ s 1 = p) (hd : PD σ p) (hl : ∀ i : Int, 0 ≤ i → i < σ (s + 4) 0 → 0 ≤ σ (s + 5) i ∧ σ (s + 5) i < 5) (hce : ∀ i : Int, 0 ≤ i → i < σ (s + 4) 0 → 0 ≤ σ (s + 6) i ∧ σ (s + 6) i < 48) (hho : ∀ i : Int, 0 ≤ i → i < 5 → 0 ≤ σ (p + 8) i ∧ σ (p + 8) i < 48) {k : Int} (hk : 0 ≤ k ∧ k < σ (s + 4) 0) (h1 : σ (s + 14) (σ (s + 6) k) = k ∧ σ (s + 12) k = 0 ∧ ¬ pClo (σ p 0) (σ p 1) (σ (p + 1)) (σ (p + 7)) (σ (p + 8)) (σ (s + 5)) (σ (s + 6)) (σ (s + 9)) k → Q (some (.inl 1)) shM σ) (h0 : ¬ (σ (s + 14) (σ (s + 6) k) = k ∧ σ (s + 12) k = 0 ∧ ¬ pClo (σ p 0) (σ p 1) (σ (p + 1)) (σ (p + 7)) (σ (p + 8)) (σ (s + 5)) (σ (s + 6)) (σ (s + 9)) k) → Q (some (.inl 0)) shM σ) : sx_Run X 97 [.inr (.inr s), .inl k] shM σ Q := by
  have k0 := lkS0 hs
  have k1 := lkS1 hs
  have k2 := lkS2 hs
  have k3 := lkS3 hs
  have k4 := lkS4 hs
  have k5 := lkS5 hs
  have k6 := lkS6 hs
  have k7 := lkS7 hs
  have k8 := lkS8 hs
  have k9 := lkS9 hs
  have k10 := lkS10 hs
  have k11 := lkS11 hs
  have k12 := lkS12 hs
  have k13 := lkS13 hs
  have k14 := lkS14 hs
  have m1 := ptM_1 hT hs
  have m2 := ptM_2 hT hs
  have m3 := ptM_3 hT hs
  have m4 := ptM_4 hT hs
  have m5 := ptM_5 hT hs
  have m6 := ptM_6 hT hs
  have m7 := ptM_7 hT hs
  have m8 := ptM_8 hT hs
  have s0 := ptS_0 hT hs
  have s2 := ptS_2 hT hs
  have s3 := ptS_3 hT hs
  have s4 := ptS_4 hT hs
  have s5 := ptS_5 hT hs
  have s6 := ptS_6 hT hs
  have s11 := ptS_11 hT hs
  have hck := hce k hk.1 hk.2
  refine sx_rule0 (own := 9) (cd := kX9_isForged) (nL := 2) (by decide +kernel) (by decide +kernel) kX9_isForged_ok (by decide +kernel) (Nat.le_of_ble_eq_true rfl) 40 ?_
  conv => whnf
  refine ⟨(by first | assumption | rfl), ?_⟩
  try simp (disch := omega) only [Int.cast_ofNat_Int, up_s, up_a, up_i, mp_a, mp_ge, cp_a, m1, m2, m3, m4, m5, m6, m7, m8, s0, s2, s3, s4, s5, s6, s11]
  conv => whnf
  refine ⟨(by first | assumption | rfl), ?_⟩
  try simp (disch := omega) only [Int.cast_ofNat_Int, up_s, up_a, up_i, mp_a, mp_ge, cp_a, m1, m2, m3, m4, m5, m6, m7, m8, s0, s2, s3, s4, s5, s6, s11]
  conv => whnf
  refine ⟨(by first | assumption | rfl), ?_⟩
  try simp (disch := omega) only [Int.cast_ofNat_Int, up_s, up_a, up_i, mp_a, mp_ge, cp_a, m1, m2, m3, m4, m5, m6, m7, m8, s0, s2, s3, s4, s5, s6, s11]
  conv => whnf
  refine ⟨sx_ixI (by first | assumption | rfl) (by omega) (by omega), ?_⟩
  try simp (disch := omega) only [Int.cast_ofNat_Int, up_s, up_a, up_i, mp_a, mp_ge, cp_a, m1, m2, m3, m4, m5, m6, m7, m8, s0, s2, s3, s4, s5, s6, s11]
  conv => whnf
  refine ⟨sx_ixI (by first | assumption | rfl) (by omega) (by omega), ?_⟩
  try simp (disch := omega) only [Int.cast_ofNat_Int, up_s, up_a, up_i, mp_a, mp_ge, cp_a, m1, m2, m3, m4, m5, m6, m7, m8, s0, s2, s3, s4, s5, s6, s11]
  conv => whnf
  refine ⟨fun g => ?_, fun g => ?_⟩
  · simp only [sx_cc, Classical.not_not] at g
    conv => whnf
    refine ⟨fun q9 => by first | (simp at q9; done) | omega, ?_⟩
    first | exact h0 (fun z => z.2.2 g1) | exact h0 (fun z => by omega)
  · simp only [sx_cc, Classical.not_not] at g
    conv => whnf
    refine ⟨(by first | assumption | rfl), ?_⟩
    try simp (disch := omega) only [Int.cast_ofNat_Int, up_s, up_a, up_i, mp_a, mp_ge, cp_a, m1, m2, m3, m4, m5, m6, m7, m8, s0, s2, s3, s4, s5, s6, s11]
    conv => whnf
    refine ⟨(by first | assumption | rfl), ?_⟩
    try simp (disch := omega) only [Int.cast_ofNat_Int, up_s, up_a, up_i, mp_a, mp_ge, cp_a, m1, m2, m3, m4, m5, m6, m7, m8, s0, s2, s3, s4, s5, s6, s11]
    conv => whnf
    refine ⟨sx_ixI (by first | assumption | rfl) (by omega) (by omega), ?_⟩
    try simp (disch := omega) only [Int.cast_ofNat_Int, up_s, up_a, up_i, mp_a, mp_ge, cp_a, m1, m2, m3, m4, m5, m6, m7, m8, s0, s2, s3, s4, s5, s6, s11]
    conv => whnf
    refine ⟨fun g => ?_, fun g => ?_⟩
    · simp only [sx_cc, Classical.not_not] at g
      conv => whnf
      refine ⟨fun q9 => by first | (simp at q9; done) | omega, ?_⟩
      first | exact h0 (fun z => z.2.2 g1) | exact h0 (fun z => by omega)
    · simp only [sx_cc, Classical.not_not] at g
      conv => whnf
      refine ⟨Nat.le_of_ble_eq_true rfl, Nat.le_of_ble_eq_true rfl, (by first | assumption | rfl), ?_⟩
      refine c_Scloses hT hs hn hp ep hd hl hce hho ⟨by omega, by omega⟩ (fun g1 => ?_) (fun g0 => ?_)
      · skip
        conv => whnf
        refine ⟨fun g => ?_, fun g => ?_⟩
        · skip
          conv => whnf
          refine ⟨fun q9 => by first | (simp at q9; done) | omega, ?_⟩
          first | exact h0 (fun z => z.2.2 g1) | exact h0 (fun z => by omega)
        · exact absurd g (by simp [sx_cc])
      · skip
        conv => whnf
        refine ⟨fun g => ?_, fun g => ?_⟩
        · exact absurd g (by simp [sx_cc])
        · skip
          conv => whnf
          refine ⟨fun q9 => by first | (simp at q9; done) | omega, ?_⟩
          exact h1 ⟨by omega, by omega, g0⟩
end SXW1
