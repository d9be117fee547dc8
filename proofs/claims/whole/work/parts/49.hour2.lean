/-! AN HOUR, reference side (by wip/whole) -/
section SXK10
variable {X : sx_X} {σ σ0 : sx_S} {Q : sx_R}
set_option maxRecDepth 20000 in
theorem c_Rlaymark (hT : PT σ) (hd : RD σ) {b m : Int} (hb : b = 0 ∨ b = 1) (hm : 0 ≤ m ∧ m < 90) (hw : 0 ≤ σ 146 (90 * b + m) ∧ σ 146 (90 * b + m) < 5) (hc : 0 ≤ σ 147 (90 * b + m) ∧ σ 147 (90 * b + m) < 48) (hh : 0 ≤ σ 134 (σ 146 (90 * b + m)) ∧ σ 134 (σ 146 (90 * b + m)) < 48) (hag : 0 ≤ σ 156 b ∧ σ 156 b ≤ 9999 ∧ 0 ≤ σ 149 (90 * b + m) ∧ σ 149 (90 * b + m) ≤ 9999) (h : Q none shM (sx_mp σ 144 7 (fNm (σ 132 (σ 146 (90 * b + m))) (σ 133 (σ 146 (90 * b + m))) (fFar (σ 124 12) (σ 147 (90 * b + m)) (σ 134 (σ 146 (90 * b + m)))) (σ 150 (90 * b + m)) (σ 156 b - σ 149 (90 * b + m)) (σ 155 b) (fB (σ 128 (σ 147 (90 * b + m)) = σ 131 (σ 146 (90 * b + m))))))) : sx_Run X 230 [.inr (.inr 124), .inl b, .inl m] shM σ Q := by
  have r57 := pt_124_57 hT
  have r58 := pt_124_58 hT
  have r60 := pt_124_60 hT
  have r61 := pt_124_61 hT
  have r67 := pt_124_67 hT
  refine sx_rule0 (own := 12) (cd := kX12_layMark) (nL := 4) (by decide +kernel) (by decide +kernel) kX12_layMark_ok (by decide +kernel) (Nat.le_of_ble_eq_true rfl) 40 ?_
  conv => whnf
  refine ⟨⟨by omega, by omega⟩, ?_⟩
  conv => whnf
  refine ⟨⟨by omega, by omega⟩, ?_⟩
  conv => whnf
  refine ⟨(by first | assumption | rfl), ?_⟩
  try simp (disch := omega) only [Int.cast_ofNat_Int, up_s, up_a, up_i, mp_a, mp_ge, cp_a, r57, r58, r60, r61, r67]
  conv => whnf
  refine ⟨sx_ixI (by first | assumption | rfl) (by omega) (by omega), ?_⟩
  try simp (disch := omega) only [Int.cast_ofNat_Int, up_s, up_a, up_i, mp_a, mp_ge, cp_a, r57, r58, r60, r61, r67]
  conv => whnf
  refine ⟨(by first | assumption | rfl), ?_⟩
  try simp (disch := omega) only [Int.cast_ofNat_Int, up_s, up_a, up_i, mp_a, mp_ge, cp_a, r57, r58, r60, r61, r67]
  conv => whnf
  refine ⟨sx_ixI (by first | assumption | rfl) (by omega) (by omega), ?_⟩
  try simp (disch := omega) only [Int.cast_ofNat_Int, up_s, up_a, up_i, mp_a, mp_ge, cp_a, r57, r58, r60, r61, r67]
  conv => whnf
  refine ⟨(by first | assumption | rfl), ?_⟩
  try simp (disch := omega) only [Int.cast_ofNat_Int, up_s, up_a, up_i, mp_a, mp_ge, cp_a, r57, r58, r60, r61, r67]
  conv => whnf
  refine ⟨sx_ixI (by first | assumption | rfl) (by omega) (by omega), ?_⟩
  try simp (disch := omega) only [Int.cast_ofNat_Int, up_s, up_a, up_i, mp_a, mp_ge, cp_a, r57, r58, r60, r61, r67]
  conv => whnf
  refine ⟨(by first | assumption | rfl), ?_⟩
  try simp (disch := omega) only [Int.cast_ofNat_Int, up_s, up_a, up_i, mp_a, mp_ge, cp_a, r57, r58, r60, r61, r67]
  conv => whnf
  refine ⟨sx_ixI (by first | assumption | rfl) (by omega) (by omega), ?_⟩
  try simp (disch := omega) only [Int.cast_ofNat_Int, up_s, up_a, up_i, mp_a, mp_ge, cp_a, r57, r58, r60, r61, r67]
  conv => whnf
  refine ⟨(by first | assumption | rfl), ?_⟩
  try simp (disch := omega) only [Int.cast_ofNat_Int, up_s, up_a, up_i, mp_a, mp_ge, cp_a, r57, r58, r60, r61, r67]
  conv => whnf
  refine ⟨sx_ixI (by first | assumption | rfl) (by omega) (by omega), ?_⟩
  try simp (disch := omega) only [Int.cast_ofNat_Int, up_s, up_a, up_i, mp_a, mp_ge, cp_a, r57, r58, r60, r61, r67]
  conv => whnf
  refine ⟨⟨by omega, by omega⟩, ?_⟩
  conv => whnf
  refine ⟨Nat.le_of_ble_eq_true rfl, Nat.le_of_ble_eq_true rfl, (by first | assumption | rfl), ?_⟩
  refine c_Rlaynames hT hd hb hw hc hh ?_
  conv => whnf
  refine ⟨rfl, ?_⟩
  exact h
end SXK10
