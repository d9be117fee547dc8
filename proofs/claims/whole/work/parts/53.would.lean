/-! A STEP: would it leave a mark, class side (by wip/whole) -/
section SXK13
variable {X : sx_X} {σ σ0 : sx_S} {s p : Int} {Q : sx_R}
set_option maxRecDepth 20000 in
theorem c_Swould (hT : PT σ) (hs : isS s) (hp : isP p) (ep : σ s 1 = p) {w c : Int} (hw : 0 ≤ w ∧ w < 5) (hc : 0 ≤ c ∧ c < 48) (hst : 0 ≤ σ (s + 2) w ∧ σ (s + 2) w ≤ 1000000) (hga : σ (p + 7) w ≤ 1000000) (h1 : 0 < σ (p + 7) w ∧ (σ (s + 2) w + 1).tmod (σ (p + 7) w) = 0 ∧ σ (p + 1) c = 0 → Q (some (.inl 1)) shM σ) (h0 : ¬ (0 < σ (p + 7) w ∧ (σ (s + 2) w + 1).tmod (σ (p + 7) w) = 0 ∧ σ (p + 1) c = 0) → Q (some (.inl 0)) shM σ) : sx_Run X 83 [.inr (.inr s), .inl w, .inl c] shM σ Q := by
  have k0 := lkS0 hs
  have k2 := lkS2 hs
  have s3 := ptS_3 hT hs
  have q0 := lkP0 hp
  have q1 := lkP1 hp
  have q7 := lkP7 hp
  have t2 := ptP_2 hT hp
  have t10 := ptP_10 hT hp
  refine sx_rule0 (own := 9) (cd := kX9_wouldMark) (nL := 4) (by decide +kernel) (by decide +kernel) kX9_wouldMark_ok (by decide +kernel) (Nat.le_of_ble_eq_true rfl) 40 ?_
  conv => whnf
  refine ⟨(by first | assumption | rfl), ?_⟩
  try simp (disch := omega) only [Int.cast_ofNat_Int, up_s, up_a, up_i, mp_a, mp_ge, cp_a, ep, s3, t2, t10]
  conv => whnf
  refine ⟨(by first | assumption | rfl), ?_⟩
  try simp (disch := omega) only [Int.cast_ofNat_Int, up_s, up_a, up_i, mp_a, mp_ge, cp_a, ep, s3, t2, t10]
  conv => whnf
  refine ⟨sx_ixI (by first | assumption | rfl) (by omega) (by omega), ?_⟩
  try simp (disch := omega) only [Int.cast_ofNat_Int, up_s, up_a, up_i, mp_a, mp_ge, cp_a, ep, s3, t2, t10]
  conv => whnf
  refine ⟨fun g => ?_, fun g => ?_⟩
  · simp only [sx_cc, Classical.not_not] at g
    conv => whnf
    refine ⟨fun q9 => by first | (simp at q9; done) | omega, ?_⟩
    first | exact h1 ⟨by omega, by omega, by omega⟩ | exact h0 (by omega)
  · simp only [sx_cc, Classical.not_not] at g
    conv => whnf
    refine ⟨(by first | assumption | rfl), ?_⟩
    try simp (disch := omega) only [Int.cast_ofNat_Int, up_s, up_a, up_i, mp_a, mp_ge, cp_a, ep, s3, t2, t10]
    conv => whnf
    refine ⟨sx_ixI (by first | assumption | rfl) (by omega) (by omega), ?_⟩
    try simp (disch := omega) only [Int.cast_ofNat_Int, up_s, up_a, up_i, mp_a, mp_ge, cp_a, ep, s3, t2, t10]
    conv => whnf
    refine ⟨⟨by omega, by omega⟩, ?_⟩
    conv => whnf
    refine ⟨by omega, (show sx_r32 _ from (by have htm := tm_bd (show 0 ≤ σ (s + 2) w + 1 by omega) (show 0 < σ (p + 7) w by omega); exact ⟨by omega, by omega⟩)), ?_⟩
    conv => whnf
    refine ⟨fun g => ?_, fun g => ?_⟩
    · simp only [sx_cc, Classical.not_not] at g
      conv => whnf
      refine ⟨fun q9 => by first | (simp at q9; done) | omega, ?_⟩
      first | exact h1 ⟨by omega, by omega, by omega⟩ | exact h0 (by omega)
    · simp only [sx_cc, Classical.not_not] at g
      conv => whnf
      refine ⟨(by first | assumption | rfl), ?_⟩
      try simp (disch := omega) only [Int.cast_ofNat_Int, up_s, up_a, up_i, mp_a, mp_ge, cp_a, ep, s3, t2, t10]
      conv => whnf
      refine ⟨(by first | assumption | rfl), ?_⟩
      try simp (disch := omega) only [Int.cast_ofNat_Int, up_s, up_a, up_i, mp_a, mp_ge, cp_a, ep, s3, t2, t10]
      conv => whnf
      refine ⟨sx_ixI (by first | assumption | rfl) (by omega) (by omega), ?_⟩
      try simp (disch := omega) only [Int.cast_ofNat_Int, up_s, up_a, up_i, mp_a, mp_ge, cp_a, ep, s3, t2, t10]
      conv => whnf
      refine ⟨fun g => ?_, fun g => ?_⟩
      · simp only [sx_cc, Classical.not_not] at g
        conv => whnf
        refine ⟨fun q9 => by first | (simp at q9; done) | omega, ?_⟩
        first | exact h1 ⟨by omega, by omega, by omega⟩ | exact h0 (by omega)
      · simp only [sx_cc, Classical.not_not] at g
        conv => whnf
        refine ⟨fun q9 => by first | (simp at q9; done) | omega, ?_⟩
        first | exact h1 ⟨by omega, by omega, by omega⟩ | exact h0 (by omega)
end SXK13
