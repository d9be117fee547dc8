/-! AN HOUR, reference side: a law not told (by wip/whole) -/
section SXK12
variable {X : sx_X} {σ σ0 : sx_S} {Q : sx_R}
set_option maxRecDepth 20000 in
theorem c_Rhour0 (hT : PT σ) {b : Int} (hb : b = 0 ∨ b = 1) (hhr : 0 ≤ σ 156 b ∧ σ 156 b ≤ 9999) (ht : σ 136 1 = 0) (h : Q none shM (sx_up σ 156 b (σ 156 b + 1))) : sx_Run X 243 [.inr (.inr 124), .inl b] shM σ Q := by
  have r39 := pt_124_39 hT
  have r65 := pt_124_65 hT
  have r67 := pt_124_67 hT
  refine sx_rule0 (own := 12) (cd := kX12_anHour) (nL := 5) (by decide +kernel) (by decide +kernel) kX12_anHour_ok (by decide +kernel) (Nat.le_of_ble_eq_true rfl) 40 ?_
  conv => whnf
  refine ⟨(by first | assumption | rfl), ?_⟩
  try simp (disch := omega) only [Int.cast_ofNat_Int, up_s, up_a, up_i, mp_a, mp_ge, cp_a, r39, r65, r67]
  conv => whnf
  refine ⟨sx_ixI (by first | assumption | rfl) (by omega) (by omega), ?_⟩
  try simp (disch := omega) only [Int.cast_ofNat_Int, up_s, up_a, up_i, mp_a, mp_ge, cp_a, r39, r65, r67]
  conv => whnf
  refine ⟨fun g => ?_, fun g => ?_⟩
  · simp only [sx_cc, Classical.not_not] at g
    conv => whnf
    refine ⟨(by first | assumption | rfl), ?_⟩
    try simp (disch := omega) only [Int.cast_ofNat_Int, up_s, up_a, up_i, mp_a, mp_ge, cp_a, r39, r65, r67]
    conv => whnf
    refine ⟨sx_ixI (by first | assumption | rfl) (by omega) (by omega), ?_⟩
    try simp (disch := omega) only [Int.cast_ofNat_Int, up_s, up_a, up_i, mp_a, mp_ge, cp_a, r39, r65, r67]
    conv => whnf
    refine ⟨⟨by omega, by omega⟩, ?_⟩
    conv => whnf
    refine ⟨sx_ixI (by first | assumption | rfl) (by omega) (by omega), ?_⟩
    conv => whnf
    refine ⟨rfl, ?_⟩
    exact h
  · simp only [sx_cc, Classical.not_not] at g
    conv => whnf
    refine ⟨(by first | assumption | rfl), ?_⟩
    try simp (disch := omega) only [Int.cast_ofNat_Int, up_s, up_a, up_i, mp_a, mp_ge, cp_a, r39, r65, r67]
    conv => whnf
    refine ⟨by decide, ?_⟩
    conv => whnf
    refine ⟨sx_ixI (by first | assumption | rfl) (by omega) (by omega), ?_⟩
    try simp (disch := omega) only [Int.cast_ofNat_Int, up_s, up_a, up_i, mp_a, mp_ge, cp_a, r39, r65, r67]
    conv => whnf
    refine ⟨fun g => ?_, fun g => ?_⟩
    · simp only [sx_cc, Classical.not_not] at g
      conv => whnf
      refine ⟨(by first | assumption | rfl), ?_⟩
      try simp (disch := omega) only [Int.cast_ofNat_Int, up_s, up_a, up_i, mp_a, mp_ge, cp_a, r39, r65, r67]
      conv => whnf
      refine ⟨sx_ixI (by first | assumption | rfl) (by omega) (by omega), ?_⟩
      try simp (disch := omega) only [Int.cast_ofNat_Int, up_s, up_a, up_i, mp_a, mp_ge, cp_a, r39, r65, r67]
      conv => whnf
      refine ⟨⟨by omega, by omega⟩, ?_⟩
      conv => whnf
      refine ⟨sx_ixI (by first | assumption | rfl) (by omega) (by omega), ?_⟩
      conv => whnf
      refine ⟨rfl, ?_⟩
      exact h
    · simp only [sx_cc, Classical.not_not] at g
      exact absurd ht g
end SXK12
