/-! RECKONING: a law not told; bounded values, both sides (by wip/whole) -/
section SXK7
variable {X : sx_X} {σ σ0 : sx_S} {s p : Int} {Q : sx_R}
def fCl (lo hi v : Int) : Int := if v < lo then lo else if hi < v then hi else v
noncomputable def fLaw (kd pt ot nm : Int → Int) (lo hi : Int) : Option Int := match fEv kd pt ot nm lo (hi - lo).toNat with
  | none => none
  | some g => some (g (hi - 1))
def fBl (o : Option Int) (df lo hi : Int) : Int := match o with
  | none => df
  | some v => fCl lo hi v
theorem fLaw_n {kd pt ot nm : Int → Int} {lo hi : Int} (h : fEv kd pt ot nm lo (hi - lo).toNat = none) : fLaw kd pt ot nm lo hi = none := by unfold fLaw; rw [h]
theorem fLaw_s {kd pt ot nm g : Int → Int} {lo hi : Int} (h : fEv kd pt ot nm lo (hi - lo).toNat = some g) : fLaw kd pt ot nm lo hi = some (g (hi - 1)) := by unfold fLaw; rw [h]
theorem fBl_n {df lo hi : Int} : fBl none df lo hi = df := rfl
theorem fBl_s {v df lo hi : Int} : fBl (some v) df lo hi = fCl lo hi v := rfl
set_option maxRecDepth 20000 in
theorem c_Kwork0 (hT : PT σ) (hp : isP p) {k : Int} (hk : 0 ≤ k ∧ k < 3) (hle : σ (p + 14) k ≤ σ (p + 13) k) (h : Q (some (.inr (.inl (-9223372036854775808)))) shM (sx_up σ 37 2 0)) : sx_Run X 57 [.inr (.inr 37), .inr (.inr p), .inl k] shM σ Q := by
  have t17 := ptP_17 hT hp
  have t18 := ptP_18 hT hp
  have q0 := lkP0 hp
  have q13 := lkP13 hp
  have q14 := lkP14 hp
  have hpz : p + 19 < 37 := by rcases hp with h9 | h9 <;> omega
  refine sx_rule0 (own := 6) (cd := kX6_work) (nL := 6) (by decide +kernel) (by decide +kernel) kX6_work_ok (by decide +kernel) (Nat.le_of_ble_eq_true rfl) 40 ?_
  conv => whnf
  refine ⟨(by first | assumption | rfl), by omega, ?_⟩
  try simp (disch := omega) only [Int.cast_ofNat_Int, up_s, up_a, up_i, mp_a, mp_ge, cp_a, t17, t18]
  conv => whnf
  refine ⟨(by first | assumption | rfl), ?_⟩
  try simp (disch := omega) only [Int.cast_ofNat_Int, up_s, up_a, up_i, mp_a, mp_ge, cp_a, t17, t18]
  conv => whnf
  refine ⟨sx_ixI (by first | assumption | rfl) (by omega) (by omega), ?_⟩
  try simp (disch := omega) only [Int.cast_ofNat_Int, up_s, up_a, up_i, mp_a, mp_ge, cp_a, t17, t18]
  conv => whnf
  refine ⟨(by first | assumption | rfl), ?_⟩
  try simp (disch := omega) only [Int.cast_ofNat_Int, up_s, up_a, up_i, mp_a, mp_ge, cp_a, t17, t18]
  conv => whnf
  refine ⟨sx_ixI (by first | assumption | rfl) (by omega) (by omega), ?_⟩
  try simp (disch := omega) only [Int.cast_ofNat_Int, up_s, up_a, up_i, mp_a, mp_ge, cp_a, t17, t18]
  conv => whnf
  refine ⟨fun g => ?_, fun g => ?_⟩
  · simp only [sx_cc, Classical.not_not] at g; try simp only [cmp_eq, cmp_ge, cmp_lt, cmp_gt, cmp_le, Int.cast_ofNat_Int] at g
    conv => whnf
    refine ⟨(by first | assumption | rfl), ?_⟩
    try simp (disch := omega) only [Int.cast_ofNat_Int, up_s, up_a, up_i, mp_a, mp_ge, cp_a, t17, t18]
    conv => whnf
    refine ⟨fun g => ?_, fun g => ?_⟩
    · exact absurd g (by simp [sx_cc])
    · skip
      conv => whnf
      refine ⟨fun g => ?_, fun g => ?_⟩
      · exact absurd g (by simp [sx_cc])
      · skip
        conv => whnf
        exact h
  · simp only [sx_cc, Classical.not_not] at g; try simp only [cmp_eq, cmp_ge, cmp_lt, cmp_gt, cmp_le, Int.cast_ofNat_Int] at g
    exfalso
    omega
set_option maxRecDepth 20000 in
theorem c_Sbounded {v lo df : Int} (hlo : 0 ≤ lo ∧ lo ≤ 99) (h0 : v = -9223372036854775808 → Q (some (.inl df)) shM σ) (h1 : ¬ v = -9223372036854775808 → Q (some (.inl (fCl lo 99 v))) shM σ) : sx_Run X 82 [.inr (.inl v), .inl lo, .inl df] shM σ Q := by
  refine sx_rule0 (own := 9) (cd := kX9_bounded) (nL := 4) (by decide +kernel) (by decide +kernel) kX9_bounded_ok (by decide +kernel) (Nat.le_of_ble_eq_true rfl) 40 ?_
  conv => whnf
  refine ⟨fun g => ?_, fun g => ?_⟩
  · simp only [sx_cc, Classical.not_not] at g; try simp only [cmp_eq, cmp_ge, cmp_lt, cmp_gt, cmp_le, Int.cast_ofNat_Int] at g
    conv => whnf
    refine ⟨Nat.le_of_ble_eq_true rfl, ?_⟩
    conv => whnf
    refine ⟨Nat.le_of_ble_eq_true rfl, ?_⟩
    conv => whnf
    refine ⟨(by repeat (first | exact ⟨by omega, by omega⟩ | split)), ?_⟩
    conv => whnf
    refine ⟨fun q9 => by first | (simp at q9; done) | omega, ?_⟩
    refine q_to (h1 (by omega)) ?_
    unfold fCl
    repeat (first | omega | split)
  · simp only [sx_cc, Classical.not_not] at g; try simp only [cmp_eq, cmp_ge, cmp_lt, cmp_gt, cmp_le, Int.cast_ofNat_Int] at g
    conv => whnf
    refine ⟨fun q9 => by first | (simp at q9; done) | omega, ?_⟩
    exact h0 (by omega)
set_option maxRecDepth 20000 in
theorem c_Rboundlaw (hT : PT σ) (hsc0 : SCK σ) {k df lo hi : Int} (hk : 0 ≤ k ∧ k < 6) (hlh : 0 ≤ lo ∧ lo ≤ hi ∧ hi ≤ 99) (hlo : ¬ σ 136 k = 0 → 0 ≤ σ 137 k ∧ σ 137 k < σ 138 k ∧ σ 138 k ≤ 64) (hkn : ¬ σ 136 k = 0 → ∀ i : Int, σ 137 k ≤ i → i < σ 138 k → pKn (σ 139) (σ 140) (σ 141) i ∧ pKl (σ 139) (σ 140) (σ 141) (σ 137 k) i) (hnb : ∀ j : Int, 0 ≤ j → j < 7 → pB12 (σ 144 j)) (h0 : σ 136 k = 0 → Q (some (.inl df)) shM σ) (h1 : ¬ σ 136 k = 0 → ∀ σ' v, eqK σ σ' → SCK σ' → v = fBl (fLaw (σ 139) (σ 140) (σ 141) (σ 144) (σ 137 k) (σ 138 k)) df lo hi → Q (some (.inl v)) shM σ') : sx_Run X 232 [.inr (.inr 124), .inl k, .inl df, .inl lo, .inl hi] shM σ Q := by
  have r39 := pt_124_39 hT
  refine sx_rule0 (own := 12) (cd := kX12_boundLaw) (nL := 7) (by decide +kernel) (by decide +kernel) kX12_boundLaw_ok (by decide +kernel) (Nat.le_of_ble_eq_true rfl) 40 ?_
  conv => whnf
  refine ⟨(by first | assumption | rfl), ?_⟩
  try simp (disch := omega) only [Int.cast_ofNat_Int, up_s, up_a, up_i, mp_a, mp_ge, cp_a, r39]
  conv => whnf
  refine ⟨by decide, ?_⟩
  conv => whnf
  refine ⟨sx_ixI (by first | assumption | rfl) (by omega) (by omega), ?_⟩
  try simp (disch := omega) only [Int.cast_ofNat_Int, up_s, up_a, up_i, mp_a, mp_ge, cp_a, r39]
  conv => whnf
  refine ⟨fun g => ?_, fun g => ?_⟩
  · simp only [sx_cc, Classical.not_not] at g; try simp only [cmp_eq, cmp_ge, cmp_lt, cmp_gt, cmp_le, Int.cast_ofNat_Int] at g
    conv => whnf
    refine ⟨Nat.le_of_ble_eq_true rfl, Nat.le_of_ble_eq_true rfl, (by first | assumption | rfl), ?_⟩
    refine c_Rlaw hT hsc0 hk (hlo (by omega)) (hkn (by omega)) hnb (fun σ' v heq hsc hpb hs0 hs1 => ?_)
    conv => whnf
    refine ⟨(by first | assumption | rfl), ?_⟩
    try simp (disch := omega) only [Int.cast_ofNat_Int, up_s, up_a, up_i, mp_a, mp_ge, cp_a, r39]
    conv => whnf
    refine ⟨fun g => ?_, fun g => ?_⟩
    · simp only [sx_cc, Classical.not_not] at g; try simp only [cmp_eq, cmp_ge, cmp_lt, cmp_gt, cmp_le, Int.cast_ofNat_Int] at g
      conv => whnf
      refine ⟨fun g => ?_, fun g => ?_⟩
      · simp only [sx_cc, Classical.not_not] at g; try simp only [cmp_eq, cmp_ge, cmp_lt, cmp_gt, cmp_le, Int.cast_ofNat_Int] at g
        conv => whnf
        refine ⟨fun g => ?_, fun g => ?_⟩
        · simp only [sx_cc, Classical.not_not] at g; try simp only [cmp_eq, cmp_ge, cmp_lt, cmp_gt, cmp_le, Int.cast_ofNat_Int] at g
          conv => whnf
          refine ⟨⟨by omega, by omega⟩, ?_⟩
          conv => whnf
          refine ⟨fun q9 => by first | (simp at q9; done) | omega, ?_⟩
          obtain ⟨g9, y1, y2⟩ := hs0 (by omega)
          exact h1 (by omega) σ' _ heq hsc (by rw [fLaw_s y1, fBl_s, ← y2]; unfold fCl; repeat (first | omega | split))
        · simp only [sx_cc, Classical.not_not] at g; try simp only [cmp_eq, cmp_ge, cmp_lt, cmp_gt, cmp_le, Int.cast_ofNat_Int] at g
          conv => whnf
          refine ⟨fun q9 => by first | (simp at q9; done) | omega, ?_⟩
          obtain ⟨g9, y1, y2⟩ := hs0 (by omega)
          exact h1 (by omega) σ' _ heq hsc (by rw [fLaw_s y1, fBl_s, ← y2]; unfold fCl; repeat (first | omega | split))
      · simp only [sx_cc, Classical.not_not] at g; try simp only [cmp_eq, cmp_ge, cmp_lt, cmp_gt, cmp_le, Int.cast_ofNat_Int] at g
        conv => whnf
        refine ⟨fun q9 => by first | (simp at q9; done) | omega, ?_⟩
        obtain ⟨g9, y1, y2⟩ := hs0 (by omega)
        exact h1 (by omega) σ' _ heq hsc (by rw [fLaw_s y1, fBl_s, ← y2]; unfold fCl; repeat (first | omega | split))
    · simp only [sx_cc, Classical.not_not] at g; try simp only [cmp_eq, cmp_ge, cmp_lt, cmp_gt, cmp_le, Int.cast_ofNat_Int] at g
      conv => whnf
      refine ⟨fun q9 => by first | (simp at q9; done) | omega, ?_⟩
      exact h1 (by omega) σ' _ heq hsc (by rw [fLaw_n (hs1 (hsc.2.resolve_left (by omega))), fBl_n])
  · simp only [sx_cc, Classical.not_not] at g; try simp only [cmp_eq, cmp_ge, cmp_lt, cmp_gt, cmp_le, Int.cast_ofNat_Int] at g
    conv => whnf
    refine ⟨fun q9 => by first | (simp at q9; done) | omega, ?_⟩
    exact h0 (by omega)
end SXK7
