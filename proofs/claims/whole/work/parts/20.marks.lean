/-! MARKS: contracts of the class SnowScore$Marks (by wip/whole/g20.py) -/
section SXM
variable {X : sx_X} {σ : sx_S} {s : Int} {Q : sx_R}
theorem c_Mhas (hs : isS s) {k : Int} (h1 : 0 ≤ k → k < σ (s + 4) 0 → Q (some (.inl 1)) shM σ) (h0 : ¬ (0 ≤ k ∧ k < σ (s + 4) 0) → Q (some (.inl 0)) shM σ) : sx_Run X 34 [.inr (.inr (s + 4)), .inl k] shM σ Q := by
  have k4 := lkS4 hs
  refine sx_rule0 (own := 4) (cd := kX4_has) (nL := 2) (by decide +kernel) (by decide +kernel) kX4_has_ok (by decide +kernel) (Nat.le_of_ble_eq_true rfl) 40 ?_
  conv => whnf
  refine ⟨fun g => ?_, fun g => ?_⟩
  · simp only [sx_cc] at g
    conv => whnf
    refine ⟨fun q9 => by first | (simp at q9; done) | omega, ?_⟩
    first | exact h1 (by omega) (by omega) | exact h0 (by omega)
  · simp only [sx_cc] at g
    conv => whnf
    refine ⟨(by first | assumption | rfl), ?_⟩
    try simp only [Int.cast_ofNat_Int, k4]
    conv => whnf
    refine ⟨fun g => ?_, fun g => ?_⟩
    · simp only [sx_cc] at g
      conv => whnf
      refine ⟨fun q9 => by first | (simp at q9; done) | omega, ?_⟩
      first | exact h1 (by omega) (by omega) | exact h0 (by omega)
    · simp only [sx_cc] at g
      conv => whnf
      refine ⟨fun q9 => by first | (simp at q9; done) | omega, ?_⟩
      first | exact h1 (by omega) (by omega) | exact h0 (by omega)
end SXM
