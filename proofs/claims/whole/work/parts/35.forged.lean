/-! FORGERIES of the class (by wip/whole) -/
section SXW5
variable {X : sx_X} {σ σ0 : sx_S} {s p : Int} {Q : sx_R}
set_option maxRecDepth 20000 in
theorem c_forged (hT1 : PT σ) (e61 : σ 0 6 = s) (hn1 : 0 ≤ σ (s + 4) 0 ∧ σ (s + 4) 0 ≤ 90) (hce1 : ∀ i : Int, 0 ≤ i → i < σ (s + 4) 0 → 0 ≤ σ (s + 6) i ∧ σ (s + 6) i < 48) (e0 : σ0 = sx_mp σ (s + 14) 48 (fRd (σ (s + 6)) (σ (s + 9)) (σ (s + 10)) (σ (s + 4) 0).toNat (-1))) (e6 : σ0 0 6 = s) (hrd : ∀ c : Int, 0 ≤ c → c < 48 → σ0 (s + 14) c = fTop (σ0 (s + 6)) (σ0 (s + 9)) (σ0 (s + 10)) c (σ0 (s + 4) 0).toNat) (hT : PT σ0) (hs : isS s) (hn : 0 ≤ σ0 (s + 4) 0 ∧ σ0 (s + 4) 0 ≤ 90) (hp : isP p) (ep : σ0 s 1 = p) (hd : PD σ0 p) (hl : ∀ i : Int, 0 ≤ i → i < σ0 (s + 4) 0 → 0 ≤ σ0 (s + 5) i ∧ σ0 (s + 5) i < 5) (hce : ∀ i : Int, 0 ≤ i → i < σ0 (s + 4) 0 → 0 ≤ σ0 (s + 6) i ∧ σ0 (s + 6) i < 48) (hho : ∀ i : Int, 0 ≤ i → i < 5 → 0 ≤ σ0 (p + 8) i ∧ σ0 (p + 8) i < 48) (h : Q (some (.inl (fCnt (bFgd (σ0 p 0) (σ0 p 1) (σ0 (p + 1)) (σ0 (p + 7)) (σ0 (p + 8)) (σ0 (s + 5)) (σ0 (s + 6)) (σ0 (s + 9)) (σ0 (s + 10)) (σ0 (s + 12)) (σ0 (s + 4) 0).toNat) (σ0 (s + 4) 0).toNat))) shM σ0) : sx_Run X 147 [.inr (.inr 0)] shM σ Q := by
  have k0 := lkS0 hs
  have k1 := lkS1 hs
  have k2 := lkS2 hs
  have k3 := lkS3 hs
  have k4 := lkS4 hs
  have k5 := lkS5 hs
  have k6 := lkS6 hs
  have k7 := lkS7 hs
  have k8 := lkS8 hs
  have k9 := lkS9 hs
  have k10 := lkS10 hs
  have k11 := lkS11 hs
  have k12 := lkS12 hs
  have k13 := lkS13 hs
  have k14 := lkS14 hs
  have m1 := ptM_1 hT hs
  have m2 := ptM_2 hT hs
  have m3 := ptM_3 hT hs
  have m4 := ptM_4 hT hs
  have m5 := ptM_5 hT hs
  have m6 := ptM_6 hT hs
  have m7 := ptM_7 hT hs
  have m8 := ptM_8 hT hs
  have s0 := ptS_0 hT hs
  have s2 := ptS_2 hT hs
  have s3 := ptS_3 hT hs
  have s4 := ptS_4 hT hs
  have s5 := ptS_5 hT hs
  have s6 := ptS_6 hT hs
  have s11 := ptS_11 hT hs
  have q0 := lkP0 hp
  have q1 := lkP1 hp
  have q2 := lkP2 hp
  have q3 := lkP3 hp
  have q4 := lkP4 hp
  have q5 := lkP5 hp
  have q6 := lkP6 hp
  have q7 := lkP7 hp
  have q8 := lkP8 hp
  have q9 := lkP9 hp
  have q10 := lkP10 hp
  have q11 := lkP11 hp
  have q12 := lkP12 hp
  have q13 := lkP13 hp
  have q14 := lkP14 hp
  have t2 := ptP_2 hT hp
  have t3 := ptP_3 hT hp
  have t5 := ptP_5 hT hp
  have t7 := ptP_7 hT hp
  have t8 := ptP_8 hT hp
  have t9 := ptP_9 hT hp
  have t10 := ptP_10 hT hp
  have t11 := ptP_11 hT hp
  have t12 := ptP_12 hT hp
  have t15 := ptP_15 hT hp
  have t16 := ptP_16 hT hp
  have t17 := ptP_17 hT hp
  have t18 := ptP_18 hT hp
  have s0b := ptS_5 hT1 hs
  refine sx_rule2 (own := 11) (cd := kX11_forged) (nL := 3) (by decide +kernel) (by decide +kernel) kX11_forged_ok (by decide +kernel) (Nat.le_of_ble_eq_true rfl) [12] 40 (fun n t L st _ σ' => (t = 12 ∧ ∃ v i : Int, st = [] ∧ L = [some (.inr (.inr (0))), some (.inl (v)), some (.inl (i))] ∧ (σ0 = σ' ∧ 0 ≤ i ∧ i ≤ σ0 (s + 4) 0 ∧ v ≤ i ∧ v = fCnt (bFgd (σ0 p 0) (σ0 p 1) (σ0 (p + 1)) (σ0 (p + 7)) (σ0 (p + 8)) (σ0 (s + 5)) (σ0 (s + 6)) (σ0 (s + 9)) (σ0 (s + 10)) (σ0 (s + 12)) (σ0 (s + 4) 0).toNat) i.toNat ∧ fSe (fNk (bFgd (σ0 p 0) (σ0 p 1) (σ0 (p + 1)) (σ0 (p + 7)) (σ0 (p + 8)) (σ0 (s + 5)) (σ0 (s + 6)) (σ0 (s + 9)) (σ0 (s + 10)) (σ0 (s + 12)) (σ0 (s + 4) 0).toNat) (-1)) i.toNat = -1) ∧ n = (σ0 (s + 4) 0 - i).toNat)) ?_ ?_
  · skip
    conv => whnf
    refine ⟨(by first | assumption | rfl), ?_⟩
    try simp (disch := omega) only [Int.cast_ofNat_Int, up_s, up_a, up_i, mp_a, mp_ge, cp_a, e61, e6, m1, m2, m3, m4, m5, m6, m7, m8, s0, s2, s3, s4, s5, s6, s11, ep, t2, t3, t5, t7, t8, t9, t10, t11, t12, t15, t16, t17, t18]
    conv => whnf
    refine ⟨Nat.le_of_ble_eq_true rfl, Nat.le_of_ble_eq_true rfl, (by first | assumption | rfl), ?_⟩
    refine c_Sreadall hT1 hs hn1 hce1 ?_
    rw [← e0]
    conv => whnf
    refine ⟨_, ⟨rfl, _, _, rfl, rfl, ?_, rfl⟩⟩
    exact ⟨rfl, by omega, by omega, by omega, rfl, rfl⟩
  · intro n t L st σ' hk
    obtain ⟨rfl, v, i, rfl, rfl, hc, rfl⟩ := hk
    obtain ⟨rfl, hi0, hi1, hv9, hvv, hs9⟩ := hc
    have hle := fCnt_le (bFgd (σ0 p 0) (σ0 p 1) (σ0 (p + 1)) (σ0 (p + 7)) (σ0 (p + 8)) (σ0 (s + 5)) (σ0 (s + 6)) (σ0 (s + 9)) (σ0 (s + 10)) (σ0 (s + 12)) (σ0 (s + 4) 0).toNat) i.toNat
    conv => whnf
    refine ⟨(by first | assumption | rfl), ?_⟩
    try simp (disch := omega) only [Int.cast_ofNat_Int, up_s, up_a, up_i, mp_a, mp_ge, cp_a, e61, e6, m1, m2, m3, m4, m5, m6, m7, m8, s0, s2, s3, s4, s5, s6, s11, ep, t2, t3, t5, t7, t8, t9, t10, t11, t12, t15, t16, t17, t18]
    conv => whnf
    refine ⟨(by first | assumption | rfl), ?_⟩
    try simp (disch := omega) only [Int.cast_ofNat_Int, up_s, up_a, up_i, mp_a, mp_ge, cp_a, e61, e6, m1, m2, m3, m4, m5, m6, m7, m8, s0, s2, s3, s4, s5, s6, s11, ep, t2, t3, t5, t7, t8, t9, t10, t11, t12, t15, t16, t17, t18]
    conv => whnf
    refine ⟨(by first | assumption | rfl), ?_⟩
    try simp (disch := omega) only [Int.cast_ofNat_Int, up_s, up_a, up_i, mp_a, mp_ge, cp_a, e61, e6, m1, m2, m3, m4, m5, m6, m7, m8, s0, s2, s3, s4, s5, s6, s11, ep, t2, t3, t5, t7, t8, t9, t10, t11, t12, t15, t16, t17, t18]
    conv => whnf
    refine ⟨fun g => ?_, fun g => ?_⟩
    · simp only [sx_cc, Classical.not_not] at g
      conv => whnf
      refine ⟨fun q9 => by first | (simp at q9; done) | omega, ?_⟩
      have e9 : i = σ0 (s + 4) 0 := by omega
      subst e9
      exact q_to h (by omega)
    · simp only [sx_cc, Classical.not_not] at g
      conv => whnf
      refine ⟨(by first | assumption | rfl), ?_⟩
      try simp (disch := omega) only [Int.cast_ofNat_Int, up_s, up_a, up_i, mp_a, mp_ge, cp_a, e61, e6, m1, m2, m3, m4, m5, m6, m7, m8, s0, s2, s3, s4, s5, s6, s11, ep, t2, t3, t5, t7, t8, t9, t10, t11, t12, t15, t16, t17, t18]
      conv => whnf
      refine ⟨Nat.le_of_ble_eq_true rfl, Nat.le_of_ble_eq_true rfl, (by first | assumption | rfl), ?_⟩
      refine c_Sforged hT hs hn hp ep hd hl hce hho ⟨by omega, by omega⟩ (fun g1 => ?_) (fun g0 => ?_)
      · have hci := hce i (by omega) (by omega)
        rw [hrd _ hci.1 hci.2] at g1
        conv => whnf
        refine ⟨fun g => ?_, fun g => ?_⟩
        · exact absurd g (by simp [sx_cc])
        · skip
          conv => whnf
          refine ⟨⟨by omega, by omega⟩, ?_⟩
          conv => whnf
          refine ⟨⟨by omega, by omega⟩, ?_⟩
          conv => whnf
          refine ⟨_, ?_, ⟨rfl, _, _, rfl, rfl, ?_, rfl⟩⟩
          · omega
          · refine ⟨rfl, by omega, by omega, by omega, ?_⟩
            first | exact fNth_skip hi0 (bFgd_f g0) hvv hs9 | exact fNth_take hi0 (bFgd_t g1) hvv (by omega) hs9
      · have hci := hce i (by omega) (by omega)
        rw [hrd _ hci.1 hci.2] at g0
        conv => whnf
        refine ⟨fun g => ?_, fun g => ?_⟩
        · skip
          conv => whnf
          refine ⟨⟨by omega, by omega⟩, ?_⟩
          conv => whnf
          refine ⟨_, ?_, ⟨rfl, _, _, rfl, rfl, ?_, rfl⟩⟩
          · omega
          · refine ⟨rfl, by omega, by omega, by omega, ?_⟩
            first | exact fNth_skip hi0 (bFgd_f g0) hvv hs9 | exact fNth_take hi0 (bFgd_t g1) hvv (by omega) hs9
        · exact absurd g (by simp [sx_cc])
set_option maxRecDepth 20000 in
theorem c_forgery (hT1 : PT σ) (e61 : σ 0 6 = s) (hn1 : 0 ≤ σ (s + 4) 0 ∧ σ (s + 4) 0 ≤ 90) (hce1 : ∀ i : Int, 0 ≤ i → i < σ (s + 4) 0 → 0 ≤ σ (s + 6) i ∧ σ (s + 6) i < 48) (e0 : σ0 = sx_mp σ (s + 14) 48 (fRd (σ (s + 6)) (σ (s + 9)) (σ (s + 10)) (σ (s + 4) 0).toNat (-1))) (e6 : σ0 0 6 = s) (hrd : ∀ c : Int, 0 ≤ c → c < 48 → σ0 (s + 14) c = fTop (σ0 (s + 6)) (σ0 (s + 9)) (σ0 (s + 10)) c (σ0 (s + 4) 0).toNat) (hT : PT σ0) (hs : isS s) (hn : 0 ≤ σ0 (s + 4) 0 ∧ σ0 (s + 4) 0 ≤ 90) (hp : isP p) (ep : σ0 s 1 = p) (hd : PD σ0 p) (hl : ∀ i : Int, 0 ≤ i → i < σ0 (s + 4) 0 → 0 ≤ σ0 (s + 5) i ∧ σ0 (s + 5) i < 5) (hce : ∀ i : Int, 0 ≤ i → i < σ0 (s + 4) 0 → 0 ≤ σ0 (s + 6) i ∧ σ0 (s + 6) i < 48) (hho : ∀ i : Int, 0 ≤ i → i < 5 → 0 ≤ σ0 (p + 8) i ∧ σ0 (p + 8) i < 48) {k : Int} (hk : k ≤ 2147483647) (hx : k < 0 → Q (some (.inl (-1))) shM σ) (h : 0 ≤ k → Q (some (.inl (fNth (bFgd (σ0 p 0) (σ0 p 1) (σ0 (p + 1)) (σ0 (p + 7)) (σ0 (p + 8)) (σ0 (s + 5)) (σ0 (s + 6)) (σ0 (s + 9)) (σ0 (s + 10)) (σ0 (s + 12)) (σ0 (s + 4) 0).toNat) k (σ0 (s + 4) 0).toNat))) shM σ0) : sx_Run X 148 [.inr (.inr 0), .inl k] shM σ Q := by
  have k0 := lkS0 hs
  have k1 := lkS1 hs
  have k2 := lkS2 hs
  have k3 := lkS3 hs
  have k4 := lkS4 hs
  have k5 := lkS5 hs
  have k6 := lkS6 hs
  have k7 := lkS7 hs
  have k8 := lkS8 hs
  have k9 := lkS9 hs
  have k10 := lkS10 hs
  have k11 := lkS11 hs
  have k12 := lkS12 hs
  have k13 := lkS13 hs
  have k14 := lkS14 hs
  have m1 := ptM_1 hT hs
  have m2 := ptM_2 hT hs
  have m3 := ptM_3 hT hs
  have m4 := ptM_4 hT hs
  have m5 := ptM_5 hT hs
  have m6 := ptM_6 hT hs
  have m7 := ptM_7 hT hs
  have m8 := ptM_8 hT hs
  have s0 := ptS_0 hT hs
  have s2 := ptS_2 hT hs
  have s3 := ptS_3 hT hs
  have s4 := ptS_4 hT hs
  have s5 := ptS_5 hT hs
  have s6 := ptS_6 hT hs
  have s11 := ptS_11 hT hs
  have q0 := lkP0 hp
  have q1 := lkP1 hp
  have q2 := lkP2 hp
  have q3 := lkP3 hp
  have q4 := lkP4 hp
  have q5 := lkP5 hp
  have q6 := lkP6 hp
  have q7 := lkP7 hp
  have q8 := lkP8 hp
  have q9 := lkP9 hp
  have q10 := lkP10 hp
  have q11 := lkP11 hp
  have q12 := lkP12 hp
  have q13 := lkP13 hp
  have q14 := lkP14 hp
  have t2 := ptP_2 hT hp
  have t3 := ptP_3 hT hp
  have t5 := ptP_5 hT hp
  have t7 := ptP_7 hT hp
  have t8 := ptP_8 hT hp
  have t9 := ptP_9 hT hp
  have t10 := ptP_10 hT hp
  have t11 := ptP_11 hT hp
  have t12 := ptP_12 hT hp
  have t15 := ptP_15 hT hp
  have t16 := ptP_16 hT hp
  have t17 := ptP_17 hT hp
  have t18 := ptP_18 hT hp
  have s0b := ptS_5 hT1 hs
  refine sx_rule2 (own := 11) (cd := kX11_forgery) (nL := 4) (by decide +kernel) (by decide +kernel) kX11_forgery_ok (by decide +kernel) (Nat.le_of_ble_eq_true rfl) [18] 40 (fun n t L st _ σ' => (t = 18 ∧ ∃ v i : Int, st = [] ∧ L = [some (.inr (.inr (0))), some (.inl (k)), some (.inl (v)), some (.inl (i))] ∧ (σ0 = σ' ∧ 0 ≤ k ∧ 0 ≤ v ∧ v ≤ k ∧ 0 ≤ i ∧ i ≤ σ0 (s + 4) 0 ∧ k - v = fCnt (bFgd (σ0 p 0) (σ0 p 1) (σ0 (p + 1)) (σ0 (p + 7)) (σ0 (p + 8)) (σ0 (s + 5)) (σ0 (s + 6)) (σ0 (s + 9)) (σ0 (s + 10)) (σ0 (s + 12)) (σ0 (s + 4) 0).toNat) i.toNat ∧ fSe (fNk (bFgd (σ0 p 0) (σ0 p 1) (σ0 (p + 1)) (σ0 (p + 7)) (σ0 (p + 8)) (σ0 (s + 5)) (σ0 (s + 6)) (σ0 (s + 9)) (σ0 (s + 10)) (σ0 (s + 12)) (σ0 (s + 4) 0).toNat) k) i.toNat = -1) ∧ n = (σ0 (s + 4) 0 - i).toNat)) ?_ ?_
  · skip
    conv => whnf
    refine ⟨fun g => ?_, fun g => ?_⟩
    · simp only [sx_cc, Classical.not_not] at g
      conv => whnf
      refine ⟨(by first | assumption | rfl), ?_⟩
      try simp (disch := omega) only [Int.cast_ofNat_Int, up_s, up_a, up_i, mp_a, mp_ge, cp_a, e61, e6, m1, m2, m3, m4, m5, m6, m7, m8, s0, s2, s3, s4, s5, s6, s11, ep, t2, t3, t5, t7, t8, t9, t10, t11, t12, t15, t16, t17, t18]
      conv => whnf
      refine ⟨Nat.le_of_ble_eq_true rfl, Nat.le_of_ble_eq_true rfl, (by first | assumption | rfl), ?_⟩
      refine c_Sreadall hT1 hs hn1 hce1 ?_
      rw [← e0]
      conv => whnf
      refine ⟨_, ⟨rfl, _, _, rfl, rfl, ?_, rfl⟩⟩
      refine ⟨rfl, by omega, by omega, by omega, by omega, by omega, ?_, rfl⟩
      show k - k = 0
      omega
    · simp only [sx_cc, Classical.not_not] at g
      conv => whnf
      refine ⟨fun q9 => by first | (simp at q9; done) | omega, ?_⟩
      exact hx (by omega)
  · intro n t L st σ' hk
    obtain ⟨rfl, v, i, rfl, rfl, hc, rfl⟩ := hk
    obtain ⟨rfl, hk0, hv0, hv9, hi0, hi1, hvv, hs9⟩ := hc
    have hle := fCnt_le (bFgd (σ0 p 0) (σ0 p 1) (σ0 (p + 1)) (σ0 (p + 7)) (σ0 (p + 8)) (σ0 (s + 5)) (σ0 (s + 6)) (σ0 (s + 9)) (σ0 (s + 10)) (σ0 (s + 12)) (σ0 (s + 4) 0).toNat) i.toNat
    conv => whnf
    refine ⟨(by first | assumption | rfl), ?_⟩
    try simp (disch := omega) only [Int.cast_ofNat_Int, up_s, up_a, up_i, mp_a, mp_ge, cp_a, e61, e6, m1, m2, m3, m4, m5, m6, m7, m8, s0, s2, s3, s4, s5, s6, s11, ep, t2, t3, t5, t7, t8, t9, t10, t11, t12, t15, t16, t17, t18]
    conv => whnf
    refine ⟨(by first | assumption | rfl), ?_⟩
    try simp (disch := omega) only [Int.cast_ofNat_Int, up_s, up_a, up_i, mp_a, mp_ge, cp_a, e61, e6, m1, m2, m3, m4, m5, m6, m7, m8, s0, s2, s3, s4, s5, s6, s11, ep, t2, t3, t5, t7, t8, t9, t10, t11, t12, t15, t16, t17, t18]
    conv => whnf
    refine ⟨(by first | assumption | rfl), ?_⟩
    try simp (disch := omega) only [Int.cast_ofNat_Int, up_s, up_a, up_i, mp_a, mp_ge, cp_a, e61, e6, m1, m2, m3, m4, m5, m6, m7, m8, s0, s2, s3, s4, s5, s6, s11, ep, t2, t3, t5, t7, t8, t9, t10, t11, t12, t15, t16, t17, t18]
    conv => whnf
    refine ⟨fun g => ?_, fun g => ?_⟩
    · simp only [sx_cc, Classical.not_not] at g
      conv => whnf
      refine ⟨fun q9 => by first | (simp at q9; done) | omega, ?_⟩
      have e9 : i = σ0 (s + 4) 0 := by omega
      subst e9
      exact q_to (h hk0) (by rw [fNth_end hs9, if_neg (by omega)])
    · simp only [sx_cc, Classical.not_not] at g
      conv => whnf
      refine ⟨(by first | assumption | rfl), ?_⟩
      try simp (disch := omega) only [Int.cast_ofNat_Int, up_s, up_a, up_i, mp_a, mp_ge, cp_a, e61, e6, m1, m2, m3, m4, m5, m6, m7, m8, s0, s2, s3, s4, s5, s6, s11, ep, t2, t3, t5, t7, t8, t9, t10, t11, t12, t15, t16, t17, t18]
      conv => whnf
      refine ⟨Nat.le_of_ble_eq_true rfl, Nat.le_of_ble_eq_true rfl, (by first | assumption | rfl), ?_⟩
      refine c_Sforged hT hs hn hp ep hd hl hce hho ⟨by omega, by omega⟩ (fun g1 => ?_) (fun g0 => ?_)
      · have hci := hce i (by omega) (by omega)
        rw [hrd _ hci.1 hci.2] at g1
        conv => whnf
        refine ⟨fun g => ?_, fun g => ?_⟩
        · exact absurd g (by simp [sx_cc])
        · skip
          conv => whnf
          refine ⟨fun g => ?_, fun g => ?_⟩
          · simp only [sx_cc, Classical.not_not] at g
            conv => whnf
            refine ⟨⟨by omega, by omega⟩, ?_⟩
            conv => whnf
            refine ⟨⟨by omega, by omega⟩, ?_⟩
            conv => whnf
            refine ⟨_, ?_, ⟨rfl, _, _, rfl, rfl, ?_, rfl⟩⟩
            · omega
            · refine ⟨rfl, hk0, by omega, by omega, by omega, by omega, ?_⟩
              first | exact fNth_skip hi0 (bFgd_f g0) hvv hs9 | (have e7 := fNth_take hi0 (bFgd_t g1) hvv (by omega) hs9; exact ⟨by omega, e7.2⟩)
          · simp only [sx_cc, Classical.not_not] at g
            conv => whnf
            refine ⟨fun q9 => by first | (simp at q9; done) | omega, ?_⟩
            exact q_to (h hk0) (fNth_hit hi0 (by omega) (bFgd_t g1) (by omega) hs9)
      · have hci := hce i (by omega) (by omega)
        rw [hrd _ hci.1 hci.2] at g0
        conv => whnf
        refine ⟨fun g => ?_, fun g => ?_⟩
        · skip
          conv => whnf
          refine ⟨⟨by omega, by omega⟩, ?_⟩
          conv => whnf
          refine ⟨_, ?_, ⟨rfl, _, _, rfl, rfl, ?_, rfl⟩⟩
          · omega
          · refine ⟨rfl, hk0, by omega, by omega, by omega, by omega, ?_⟩
            first | exact fNth_skip hi0 (bFgd_f g0) hvv hs9 | (have e7 := fNth_take hi0 (bFgd_t g1) hvv (by omega) hs9; exact ⟨by omega, e7.2⟩)
        · exact absurd g (by simp [sx_cc])
end SXW5
