/-! LOOK, reference side (by wip/whole) -/
section SXT2
variable {X : sx_X} {Q : sx_R} {σ σ0 σ' σ1 σ2 : sx_S} {P : aP} {W : aW}
/-- what look answers of a walker: the reference's answer and what it says is thrown -/
def fLoo (P : aP) (W : aW) (w q : Int) : Int × Int := if ¬ (0 ≤ w ∧ w < P.wa) then (0, 1) else if q = 0 then (W.at1 w, 0) else if q = 1 then (P.fo w, 0) else if q = 2 then (W.st w, 0) else if q = 3 then (W.bt w, 0) else if q = 4 then (P.ho w, 0) else (0, 2)
theorem up_up {a j v u : Int} : sx_up (sx_up σ a j v) a j u = sx_up σ a j u := by
  funext b k
  by_cases e : b = a ∧ k = j
  · rw [e.1, e.2, up_s, up_s]
  · rw [up_n e, up_n e, up_n e]
set_option maxRecDepth 20000 in
theorem r_thrown (h : Q (some (.inl (σ 124 2))) shM σ) : sx_Run X 176 [.inr (.inr 124)] shM σ Q := by
  refine sx_rule0 (own := 12) (cd := kX12_thrown) (nL := 1) (by decide +kernel) (by decide +kernel) kX12_thrown_ok (by decide +kernel) (Nat.le_of_ble_eq_true rfl) 40 ?_
  conv => whnf
  refine ⟨(by first | assumption | rfl), ?_⟩
  try simp (disch := omega) only [Int.cast_ofNat_Int, up_s, up_a, up_i, mp_a, mp_ge]
  conv => whnf
  refine ⟨fun q9 => by first | (simp at q9; done) | omega, ?_⟩
  exact h
set_option maxRecDepth 20000 in
theorem r_fails {k : Int} (h : Q (some (.inl 0)) shM (sx_up σ 124 2 k)) : sx_Run X 235 [.inr (.inr 124), .inl k] shM σ Q := by
  refine sx_rule0 (own := 12) (cd := kX12_fails) (nL := 2) (by decide +kernel) (by decide +kernel) kX12_fails_ok (by decide +kernel) (Nat.le_of_ble_eq_true rfl) 40 ?_
  conv => whnf
  refine ⟨(by first | assumption | rfl), ?_⟩
  try simp (disch := omega) only [Int.cast_ofNat_Int, up_s, up_a, up_i, mp_a, mp_ge]
  conv => whnf
  refine ⟨fun q9 => by first | (simp at q9; done) | omega, ?_⟩
  exact h
set_option maxRecDepth 20000 in
theorem r_look (e0 : σ0 = sx_up σ 124 2 0) (wp : wP P) (hT : PT σ0) (gp : rP σ0 P) (gw : rW P σ0 W) {w q : Int} (h : Q (some (.inl (fLoo P W w q).1)) shM (sx_up σ 124 2 (fLoo P W w q).2)) : sx_Run X 236 [.inr (.inr 124), .inl w, .inl q] shM σ Q := by
  have t34 := pt_124_34 hT
  have t37 := pt_124_37 hT
  have t68 := pt_124_68 hT
  have t69 := pt_124_69 hT
  have t70 := pt_124_70 hT
  have g15 := gp.wa
  have wwa := wp.wa
  refine sx_rule0 (own := 12) (cd := kX12_look) (nL := 3) (by decide +kernel) (by decide +kernel) kX12_look_ok (by decide +kernel) (Nat.le_of_ble_eq_true rfl) 40 ?_
  conv => whnf
  refine ⟨(by first | assumption | rfl), ?_⟩
  try simp (disch := omega) only [Int.cast_ofNat_Int, up_s, up_a, up_i, mp_a, mp_ge]
  try simp only [t34]
  try simp only [t37]
  try simp only [t68]
  try simp only [t69]
  try simp only [t70]
  rw [← e0]
  conv => whnf
  refine ⟨Nat.le_of_ble_eq_true rfl, Nat.le_of_ble_eq_true rfl, (by first | assumption | rfl), ?_⟩
  refine c_Riswalker (fun hw0 hw1 => ?_) (fun hw => ?_)
  · have hz : 0 ≤ w ∧ w < P.wa := by omega
    conv => whnf
    refine ⟨fun g => ?_, fun g => ?_⟩
    · skip
      conv => whnf
      refine ⟨fun g => ?_, ?_⟩
      · skip
        conv => whnf
        refine ⟨Nat.le_of_ble_eq_true rfl, Nat.le_of_ble_eq_true rfl, (by first | assumption | rfl), ?_⟩
        refine r_fails ?_
        conv => whnf
        refine ⟨fun q9 => by first | (simp at q9; done) | omega, ?_⟩
        rw [e0, up_up]
        unfold fLoo at h
        rw [if_neg (fun z => z hz), if_neg (by omega), if_neg (by omega), if_neg (by omega), if_neg (by omega), if_neg (by omega)] at h
        exact h
      conv => whnf
      refine ⟨fun g => ?_, ?_⟩
      · skip
        conv => whnf
        refine ⟨(by first | assumption | rfl), ?_⟩
        try simp (disch := omega) only [Int.cast_ofNat_Int, up_s, up_a, up_i, mp_a, mp_ge]
        try simp only [t34]
        try simp only [t37]
        try simp only [t68]
        try simp only [t69]
        try simp only [t70]
        conv => whnf
        refine ⟨sx_ixI (by first | assumption | rfl) (by omega) (by omega), ?_⟩
        try simp (disch := omega) only [Int.cast_ofNat_Int, up_s, up_a, up_i, mp_a, mp_ge]
        try simp only [t34]
        try simp only [t37]
        try simp only [t68]
        try simp only [t69]
        try simp only [t70]
        conv => whnf
        refine ⟨fun q9 => by first | (simp at q9; done) | omega, ?_⟩
        unfold fLoo at h
        rw [if_neg (fun z => z hz)] at h
        rw [if_pos (by omega)] at h
        rw [gw.at1 w hz.1 hz.2, e0]; exact h
      conv => whnf
      refine ⟨fun g => ?_, ?_⟩
      · skip
        conv => whnf
        refine ⟨(by first | assumption | rfl), ?_⟩
        try simp (disch := omega) only [Int.cast_ofNat_Int, up_s, up_a, up_i, mp_a, mp_ge]
        try simp only [t34]
        try simp only [t37]
        try simp only [t68]
        try simp only [t69]
        try simp only [t70]
        conv => whnf
        refine ⟨sx_ixI (by first | assumption | rfl) (by omega) (by omega), ?_⟩
        try simp (disch := omega) only [Int.cast_ofNat_Int, up_s, up_a, up_i, mp_a, mp_ge]
        try simp only [t34]
        try simp only [t37]
        try simp only [t68]
        try simp only [t69]
        try simp only [t70]
        conv => whnf
        refine ⟨fun q9 => by first | (simp at q9; done) | omega, ?_⟩
        unfold fLoo at h
        rw [if_neg (fun z => z hz)] at h
        rw [if_neg (by omega), if_pos (by omega)] at h
        rw [gp.fo w hz.1 hz.2, e0]; exact h
      conv => whnf
      refine ⟨fun g => ?_, ?_⟩
      · skip
        conv => whnf
        refine ⟨(by first | assumption | rfl), ?_⟩
        try simp (disch := omega) only [Int.cast_ofNat_Int, up_s, up_a, up_i, mp_a, mp_ge]
        try simp only [t34]
        try simp only [t37]
        try simp only [t68]
        try simp only [t69]
        try simp only [t70]
        conv => whnf
        refine ⟨sx_ixI (by first | assumption | rfl) (by omega) (by omega), ?_⟩
        try simp (disch := omega) only [Int.cast_ofNat_Int, up_s, up_a, up_i, mp_a, mp_ge]
        try simp only [t34]
        try simp only [t37]
        try simp only [t68]
        try simp only [t69]
        try simp only [t70]
        conv => whnf
        refine ⟨fun q9 => by first | (simp at q9; done) | omega, ?_⟩
        unfold fLoo at h
        rw [if_neg (fun z => z hz)] at h
        rw [if_neg (by omega), if_neg (by omega), if_pos (by omega)] at h
        rw [gw.st w hz.1 hz.2, e0]; exact h
      conv => whnf
      refine ⟨fun g => ?_, ?_⟩
      · skip
        conv => whnf
        refine ⟨(by first | assumption | rfl), ?_⟩
        try simp (disch := omega) only [Int.cast_ofNat_Int, up_s, up_a, up_i, mp_a, mp_ge]
        try simp only [t34]
        try simp only [t37]
        try simp only [t68]
        try simp only [t69]
        try simp only [t70]
        conv => whnf
        refine ⟨sx_ixI (by first | assumption | rfl) (by omega) (by omega), ?_⟩
        try simp (disch := omega) only [Int.cast_ofNat_Int, up_s, up_a, up_i, mp_a, mp_ge]
        try simp only [t34]
        try simp only [t37]
        try simp only [t68]
        try simp only [t69]
        try simp only [t70]
        conv => whnf
        refine ⟨fun q9 => by first | (simp at q9; done) | omega, ?_⟩
        unfold fLoo at h
        rw [if_neg (fun z => z hz)] at h
        rw [if_neg (by omega), if_neg (by omega), if_neg (by omega), if_pos (by omega)] at h
        rw [gw.bt w hz.1 hz.2, e0]; exact h
      conv => whnf
      refine ⟨fun g => ?_, ?_⟩
      · skip
        conv => whnf
        refine ⟨(by first | assumption | rfl), ?_⟩
        try simp (disch := omega) only [Int.cast_ofNat_Int, up_s, up_a, up_i, mp_a, mp_ge]
        try simp only [t34]
        try simp only [t37]
        try simp only [t68]
        try simp only [t69]
        try simp only [t70]
        conv => whnf
        refine ⟨sx_ixI (by first | assumption | rfl) (by omega) (by omega), ?_⟩
        try simp (disch := omega) only [Int.cast_ofNat_Int, up_s, up_a, up_i, mp_a, mp_ge]
        try simp only [t34]
        try simp only [t37]
        try simp only [t68]
        try simp only [t69]
        try simp only [t70]
        conv => whnf
        refine ⟨fun q9 => by first | (simp at q9; done) | omega, ?_⟩
        unfold fLoo at h
        rw [if_neg (fun z => z hz)] at h
        rw [if_neg (by omega), if_neg (by omega), if_neg (by omega), if_neg (by omega), if_pos (by omega)] at h
        rw [gp.ho w hz.1 hz.2, e0]; exact h
      exact trivial
    · exact absurd g (by simp [sx_cc])
  · have hz : ¬ (0 ≤ w ∧ w < P.wa) := by omega
    conv => whnf
    refine ⟨fun g => ?_, fun g => ?_⟩
    · exact absurd g (by simp [sx_cc])
    · skip
      conv => whnf
      refine ⟨Nat.le_of_ble_eq_true rfl, Nat.le_of_ble_eq_true rfl, (by first | assumption | rfl), ?_⟩
      refine r_fails ?_
      conv => whnf
      refine ⟨fun q9 => by first | (simp at q9; done) | omega, ?_⟩
      rw [e0, up_up]
      unfold fLoo at h
      rw [if_pos hz] at h
      exact h
end SXT2
