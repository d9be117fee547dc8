/-! RECKONING: one step, both sides (by wip/whole) -/
section SXK1
variable {X : sx_X} {σ σ0 : sx_S} {Q : sx_R}
theorem cmp_eq {x y : Int} : (sx_cmp x y = 0) = (x = y) := by
  unfold sx_cmp
  apply propext
  split
  · omega
  · split <;> omega
theorem cmp_ge {x y : Int} : (0 ≤ sx_cmp x y) = (y ≤ x) := by
  unfold sx_cmp
  apply propext
  split
  · omega
  · split <;> omega
theorem cmp_lt {x y : Int} : (sx_cmp x y < 0) = (x < y) := by
  unfold sx_cmp
  apply propext
  split
  · omega
  · split <;> omega
theorem cmp_gt {x y : Int} : (0 < sx_cmp x y) = (y < x) := by
  unfold sx_cmp
  apply propext
  split
  · omega
  · split <;> omega
theorem cmp_le {x y : Int} : (sx_cmp x y ≤ 0) = (x ≤ y) := by
  unfold sx_cmp
  apply propext
  split
  · omega
  · split <;> omega
def fB (p : Prop) [Decidable p] : Int := if p then 1 else 0
theorem fB_bd (p : Prop) [Decidable p] : 0 ≤ fB p ∧ fB p ≤ 1 := by unfold fB; split <;> omega
/-- a product that would pass the bound -/
def pBig (a b : Int) : Prop := ¬ a = 0 ∧ (1000000000000 : Int).tdiv (fAbs a) < fAbs b
/-- two values joined by kind k; none: it fails -/
noncomputable def fJo (k a b : Int) : Option Int :=
  if k = 3 then some (fB (¬ a = 0 ∧ ¬ b = 0)) else if k = 4 then some (fB (¬ (a = 0 ∧ b = 0)))
  else if k = 5 then some (fB (a < b)) else if k = 6 then some (fB (a ≤ b)) else if k = 7 then some (fB (a = b))
  else if k = 8 then some (fB (¬ a = b)) else if k = 9 then some (fB (b ≤ a)) else if k = 10 then some (fB (b < a))
  else if k = 11 then (if -1000000000000 ≤ a + b ∧ a + b ≤ 1000000000000 then some (a + b) else none)
  else if k = 12 then (if -1000000000000 ≤ a - b ∧ a - b ≤ 1000000000000 then some (a - b) else none)
  else if k = 13 then (@ite _ (pBig a b) (Classical.propDecidable _) none (some (a * b)))
  else if k = 14 then (if b = 0 then none else some (a.tdiv b)) else none
def pB12 (a : Int) : Prop := -1000000000000 ≤ a ∧ a ≤ 1000000000000
theorem fAbs_bd (a : Int) : 0 ≤ fAbs a ∧ a ≤ fAbs a ∧ -a ≤ fAbs a ∧ (fAbs a = a ∨ fAbs a = -a) := by unfold fAbs; split <;> omega
theorem pBig_no {a b : Int} (h : ¬ pBig a b) : pB12 (a * b) := by
  by_cases ha : a = 0
  · subst ha; rw [Int.zero_mul]; exact ⟨by omega, by omega⟩
  · have h1 : fAbs b ≤ (1000000000000 : Int).tdiv (fAbs a) := by
      by_cases z : (1000000000000 : Int).tdiv (fAbs a) < fAbs b
      · exact absurd ⟨ha, z⟩ h
      · omega
    have ha1 := fAbs_bd a
    have hb1 := fAbs_bd b
    have h2 : fAbs a * (1000000000000 : Int).tdiv (fAbs a) ≤ 1000000000000 := by
      have h3 := Int.mul_tdiv_add_tmod (1000000000000 : Int) (fAbs a)
      have h4 := Int.tmod_nonneg (fAbs a) (show (0 : Int) ≤ 1000000000000 by omega)
      omega
    have h5 : fAbs a * fAbs b ≤ fAbs a * (1000000000000 : Int).tdiv (fAbs a) := Int.mul_le_mul_of_nonneg_left h1 ha1.1
    have h6 : 0 ≤ fAbs a * fAbs b := Int.mul_nonneg ha1.1 hb1.1
    have h7 : a * b = fAbs a * fAbs b ∨ a * b = -(fAbs a * fAbs b) := by
      rcases ha1.2.2.2 with e1 | e1 <;> rcases hb1.2.2.2 with e2 | e2 <;> rw [e1, e2]
      · exact Or.inl rfl
      · right; rw [Int.mul_neg, Int.neg_neg]
      · right; rw [Int.neg_mul, Int.neg_neg]
      · left; rw [Int.neg_mul_neg]
    unfold pB12
    rcases h7 with e | e <;> rw [e] <;> omega
theorem td_b12 {a b : Int} (ha : pB12 a) (hb : ¬ b = 0) : pB12 (a.tdiv b) := by
  have h1 := Int.natAbs_tdiv a b
  have h2 : (a.tdiv b).natAbs ≤ a.natAbs := by rw [h1]; exact Nat.div_le_self _ _
  unfold pB12 at *
  omega
theorem ite_e {c : Prop} {d : Decidable c} {x y z : Option Int} {P : Prop} (h : @ite _ c d x y = z) (h1 : c → x = z → P) (h0 : ¬ c → y = z → P) : P := by
  by_cases e : c
  · rw [if_pos e] at h; exact h1 e h
  · rw [if_neg e] at h; exact h0 e h
theorem fJo_bd {k a b v : Int} (ha : pB12 a) (hb : pB12 b) (h : fJo k a b = some v) : pB12 v := by
  have hB : ∀ (p : Prop) [Decidable p], pB12 (fB p) := fun p _ => by have := fB_bd p; unfold pB12; omega
  unfold fJo at h
  refine ite_e h (fun _ h => Option.some.inj h ▸ hB _) (fun _ h => ?_)
  refine ite_e h (fun _ h => Option.some.inj h ▸ hB _) (fun _ h => ?_)
  refine ite_e h (fun _ h => Option.some.inj h ▸ hB _) (fun _ h => ?_)
  refine ite_e h (fun _ h => Option.some.inj h ▸ hB _) (fun _ h => ?_)
  refine ite_e h (fun _ h => Option.some.inj h ▸ hB _) (fun _ h => ?_)
  refine ite_e h (fun _ h => Option.some.inj h ▸ hB _) (fun _ h => ?_)
  refine ite_e h (fun _ h => Option.some.inj h ▸ hB _) (fun _ h => ?_)
  refine ite_e h (fun _ h => Option.some.inj h ▸ hB _) (fun _ h => ?_)
  refine ite_e h (fun _ h => ite_e h (fun q h => Option.some.inj h ▸ q) (fun _ h => absurd h (by simp))) (fun _ h => ?_)
  refine ite_e h (fun _ h => ite_e h (fun q h => Option.some.inj h ▸ q) (fun _ h => absurd h (by simp))) (fun _ h => ?_)
  refine ite_e h (fun _ h => ite_e h (fun _ h => absurd h (by simp)) (fun q h => Option.some.inj h ▸ pBig_no q)) (fun _ h => ?_)
  exact ite_e h (fun _ h => ite_e h (fun _ h => absurd h (by simp)) (fun q h => Option.some.inj h ▸ td_b12 ha q)) (fun _ h => absurd h (by simp))
theorem fJo_11 {a b : Int} : fJo 11 a b = if -1000000000000 ≤ a + b ∧ a + b ≤ 1000000000000 then some (a + b) else none := by unfold fJo; rw [if_neg (by decide), if_neg (by decide), if_neg (by decide), if_neg (by decide), if_neg (by decide), if_neg (by decide), if_neg (by decide), if_neg (by decide), if_pos rfl]
theorem fJo_12 {a b : Int} : fJo 12 a b = if -1000000000000 ≤ a - b ∧ a - b ≤ 1000000000000 then some (a - b) else none := by unfold fJo; rw [if_neg (by decide), if_neg (by decide), if_neg (by decide), if_neg (by decide), if_neg (by decide), if_neg (by decide), if_neg (by decide), if_neg (by decide), if_neg (by decide), if_pos rfl]
theorem fJo_13 {a b : Int} : fJo 13 a b = @ite _ (pBig a b) (Classical.propDecidable _) none (some (a * b)) := by unfold fJo; rw [if_neg (by decide), if_neg (by decide), if_neg (by decide), if_neg (by decide), if_neg (by decide), if_neg (by decide), if_neg (by decide), if_neg (by decide), if_neg (by decide), if_neg (by decide), if_pos rfl]
theorem fJo_14 {a b : Int} : fJo 14 a b = if b = 0 then none else some (a.tdiv b) := by unfold fJo; rw [if_neg (by decide), if_neg (by decide), if_neg (by decide), if_neg (by decide), if_neg (by decide), if_neg (by decide), if_neg (by decide), if_neg (by decide), if_neg (by decide), if_neg (by decide), if_neg (by decide), if_pos rfl]
theorem pB64 {x : Int} (h : pB12 x) : sx_r64 x := ⟨Int.le_trans (by omega) h.1, Int.le_trans h.2 (by omega)⟩
theorem up_id {σ : sx_S} {a i v : Int} (h : σ a i = v) : sx_up σ a i v = σ := by
  funext a' j
  unfold sx_up
  split
  · next e => rw [e.1, e.2, h]
  · rfl
set_option maxRecDepth 20000 in
theorem c_Ktruth {b : Int} (h : Q (some (.inr (.inl (if b = 0 then 0 else 1)))) shM σ) : sx_Run X 58 [.inl b] shM σ Q := by
  refine sx_rule0 (own := 6) (cd := kX6_truth) (nL := 1) (by decide +kernel) (by decide +kernel) kX6_truth_ok (by decide +kernel) (Nat.le_of_ble_eq_true rfl) 40 ?_
  conv => whnf
  refine ⟨fun g => ?_, fun g => ?_⟩
  · simp only [sx_cc, Classical.not_not] at g; try simp only [cmp_eq, cmp_ge, cmp_lt, cmp_gt, cmp_le, Int.cast_ofNat_Int] at g
    conv => whnf
    first | (rw [if_pos (by omega)] at h; exact h) | (rw [if_neg (by omega)] at h; exact h)
  · simp only [sx_cc, Classical.not_not] at g; try simp only [cmp_eq, cmp_ge, cmp_lt, cmp_gt, cmp_le, Int.cast_ofNat_Int] at g
    conv => whnf
    first | (rw [if_pos (by omega)] at h; exact h) | (rw [if_neg (by omega)] at h; exact h)
set_option maxRecDepth 20000 in
theorem c_Kfail (h : Q (some (.inr (.inl 0))) shM (sx_up σ 37 2 1)) : sx_Run X 60 [.inr (.inr 37)] shM σ Q := by
  refine sx_rule0 (own := 6) (cd := kX6_failure) (nL := 1) (by decide +kernel) (by decide +kernel) kX6_failure_ok (by decide +kernel) (Nat.le_of_ble_eq_true rfl) 40 ?_
  conv => whnf
  refine ⟨(by first | assumption | rfl), by omega, ?_⟩
  try simp (disch := omega) only [Int.cast_ofNat_Int, up_s, up_a, up_i, mp_a, mp_ge, cp_a]
  conv => whnf
  exact h
set_option maxRecDepth 20000 in
theorem c_Kchecked {a : Int} (h1 : pB12 a → Q (some (.inr (.inl a))) shM σ) (h0 : ¬ pB12 a → Q (some (.inr (.inl 0))) shM (sx_up σ 37 2 1)) : sx_Run X 61 [.inr (.inr 37), .inr (.inl a)] shM σ Q := by
  refine sx_rule0 (own := 6) (cd := kX6_checked) (nL := 3) (by decide +kernel) (by decide +kernel) kX6_checked_ok (by decide +kernel) (Nat.le_of_ble_eq_true rfl) 40 ?_
  conv => whnf
  refine ⟨fun g => ?_, fun g => ?_⟩
  · simp only [sx_cc, Classical.not_not] at g; try simp only [cmp_eq, cmp_ge, cmp_lt, cmp_gt, cmp_le, Int.cast_ofNat_Int] at g
    conv => whnf
    refine ⟨Nat.le_of_ble_eq_true rfl, Nat.le_of_ble_eq_true rfl, (by first | assumption | rfl), ?_⟩
    refine c_Kfail ?_
    conv => whnf
    first | exact h1 ⟨by omega, by omega⟩ | exact h0 (fun z => by have z1 : -1000000000000 ≤ a ∧ a ≤ 1000000000000 := z; omega)
  · simp only [sx_cc, Classical.not_not] at g; try simp only [cmp_eq, cmp_ge, cmp_lt, cmp_gt, cmp_le, Int.cast_ofNat_Int] at g
    conv => whnf
    refine ⟨fun g => ?_, fun g => ?_⟩
    · simp only [sx_cc, Classical.not_not] at g; try simp only [cmp_eq, cmp_ge, cmp_lt, cmp_gt, cmp_le, Int.cast_ofNat_Int] at g
      conv => whnf
      first | exact h1 ⟨by omega, by omega⟩ | exact h0 (fun z => by have z1 : -1000000000000 ≤ a ∧ a ≤ 1000000000000 := z; omega)
    · simp only [sx_cc, Classical.not_not] at g; try simp only [cmp_eq, cmp_ge, cmp_lt, cmp_gt, cmp_le, Int.cast_ofNat_Int] at g
      conv => whnf
      refine ⟨Nat.le_of_ble_eq_true rfl, Nat.le_of_ble_eq_true rfl, (by first | assumption | rfl), ?_⟩
      refine c_Kfail ?_
      conv => whnf
      first | exact h1 ⟨by omega, by omega⟩ | exact h0 (fun z => by have z1 : -1000000000000 ≤ a ∧ a ≤ 1000000000000 := z; omega)
set_option maxRecDepth 20000 in
theorem c_Kproduct {a b : Int} (ha : pB12 a) (hb : pB12 b) (h1 : ¬ pBig a b → Q (some (.inr (.inl (a * b)))) shM σ) (h0 : pBig a b → Q (some (.inr (.inl 0))) shM (sx_up σ 37 2 1)) : sx_Run X 62 [.inr (.inr 37), .inr (.inl a), .inr (.inl b)] shM σ Q := by
  have ha9 : -1000000000000 ≤ a ∧ a ≤ 1000000000000 := ha
  have hb9 : -1000000000000 ≤ b ∧ b ≤ 1000000000000 := hb
  have hfa := fAbs_bd a
  refine sx_rule0 (own := 6) (cd := kX6_product) (nL := 5) (by decide +kernel) (by decide +kernel) kX6_product_ok (by decide +kernel) (Nat.le_of_ble_eq_true rfl) 40 ?_
  conv => whnf
  refine ⟨fun g => ?_, fun g => ?_⟩
  · simp only [sx_cc, Classical.not_not] at g; try simp only [cmp_eq, cmp_ge, cmp_lt, cmp_gt, cmp_le, Int.cast_ofNat_Int] at g
    conv => whnf
    refine ⟨(by first | exact ⟨by omega, by omega⟩ | exact pB64 (pBig_no (fun z => z.1 (by omega))) | exact pB64 (pBig_no (fun z => Int.not_lt.mpr g z.2))), ?_⟩
    conv => whnf
    first | exact h1 (fun z => z.1 (by omega)) | exact h1 (fun z => Int.not_lt.mpr g z.2) | exact h0 ⟨by omega, Int.not_le.mp g⟩
  · simp only [sx_cc, Classical.not_not] at g; try simp only [cmp_eq, cmp_ge, cmp_lt, cmp_gt, cmp_le, Int.cast_ofNat_Int] at g
    conv => whnf
    refine ⟨Nat.le_of_ble_eq_true rfl, ((by first | exact ⟨by omega, by omega⟩ | exact pB64 (pBig_no (fun z => z.1 (by omega))) | exact pB64 (pBig_no (fun z => Int.not_lt.mpr g z.2)))), ?_⟩
    conv => whnf
    refine ⟨Nat.le_of_ble_eq_true rfl, ((by first | exact ⟨by omega, by omega⟩ | exact pB64 (pBig_no (fun z => z.1 (by omega))) | exact pB64 (pBig_no (fun z => Int.not_lt.mpr g z.2)))), ?_⟩
    conv => whnf
    refine ⟨(by first | omega | (show ¬ fAbs a = 0; omega)), (show sx_r64 _ from (show sx_r64 ((1000000000000 : Int).tdiv (fAbs a)) from (by have htd := tm_bd (show (0 : Int) ≤ 1000000000000 by omega) (show 0 < fAbs a by omega); exact ⟨by omega, by omega⟩))), ?_⟩
    conv => whnf
    refine ⟨fun g => ?_, fun g => ?_⟩
    · simp only [sx_cc, Classical.not_not] at g; try simp only [cmp_eq, cmp_ge, cmp_lt, cmp_gt, cmp_le, Int.cast_ofNat_Int] at g
      conv => whnf
      refine ⟨(by first | exact ⟨by omega, by omega⟩ | exact pB64 (pBig_no (fun z => z.1 (by omega))) | exact pB64 (pBig_no (fun z => Int.not_lt.mpr g z.2))), ?_⟩
      conv => whnf
      first | exact h1 (fun z => z.1 (by omega)) | exact h1 (fun z => Int.not_lt.mpr g z.2) | exact h0 ⟨by omega, Int.not_le.mp g⟩
    · simp only [sx_cc, Classical.not_not] at g; try simp only [cmp_eq, cmp_ge, cmp_lt, cmp_gt, cmp_le, Int.cast_ofNat_Int] at g
      conv => whnf
      refine ⟨Nat.le_of_ble_eq_true rfl, Nat.le_of_ble_eq_true rfl, (by first | assumption | rfl), ?_⟩
      refine c_Kfail ?_
      conv => whnf
      first | exact h1 (fun z => z.1 (by omega)) | exact h1 (fun z => Int.not_lt.mpr g z.2) | exact h0 ⟨by omega, Int.not_le.mp g⟩
set_option maxRecDepth 20000 in
theorem c_Kquotient {a b : Int} (ha : pB12 a) (hb : pB12 b) (h1 : ¬ b = 0 → Q (some (.inr (.inl (a.tdiv b)))) shM σ) (h0 : b = 0 → Q (some (.inr (.inl 0))) shM (sx_up σ 37 2 1)) : sx_Run X 63 [.inr (.inr 37), .inr (.inl a), .inr (.inl b)] shM σ Q := by
  have ha9 : -1000000000000 ≤ a ∧ a ≤ 1000000000000 := ha
  have hb9 : -1000000000000 ≤ b ∧ b ≤ 1000000000000 := hb
  refine sx_rule0 (own := 6) (cd := kX6_quotient) (nL := 5) (by decide +kernel) (by decide +kernel) kX6_quotient_ok (by decide +kernel) (Nat.le_of_ble_eq_true rfl) 40 ?_
  conv => whnf
  refine ⟨fun g => ?_, fun g => ?_⟩
  · simp only [sx_cc, Classical.not_not] at g; try simp only [cmp_eq, cmp_ge, cmp_lt, cmp_gt, cmp_le, Int.cast_ofNat_Int] at g
    conv => whnf
    refine ⟨by omega, (show sx_r64 _ from pB64 (td_b12 ha (by omega))), ?_⟩
    conv => whnf
    first | exact h0 (by omega) | exact h1 (by omega)
  · simp only [sx_cc, Classical.not_not] at g; try simp only [cmp_eq, cmp_ge, cmp_lt, cmp_gt, cmp_le, Int.cast_ofNat_Int] at g
    conv => whnf
    refine ⟨Nat.le_of_ble_eq_true rfl, Nat.le_of_ble_eq_true rfl, (by first | assumption | rfl), ?_⟩
    refine c_Kfail ?_
    conv => whnf
    first | exact h0 (by omega) | exact h1 (by omega)
/-- a code's kind -/
def fKd (c : Int) : Int := if c = 17 then 4 else if c = 18 then 3 else c - 20
theorem fKd_k {c k : Int} (h : (c = 17 ∧ k = 4) ∨ (c = 18 ∧ k = 3) ∨ (25 ≤ c ∧ c = k + 20)) : fKd c = k := by
  unfold fKd
  rcases h with h | h | h
  · rw [if_pos h.1]; exact h.2.symm
  · rw [if_neg (by omega), if_pos h.1]; exact h.2.symm
  · rw [if_neg (by omega), if_neg (by omega)]; omega
set_option maxRecDepth 20000 in
theorem c_Kjoined {a b : Int} (ha : pB12 a) (hb : pB12 b) {c : Int} (hc : c = 17 ∨ c = 18 ∨ (25 ≤ c ∧ c ≤ 34)) (h1 : ∀ v, fJo (fKd c) a b = some v → Q (some (.inr (.inl v))) shM σ) (h0 : fJo (fKd c) a b = none → Q (some (.inr (.inl 0))) shM (sx_up σ 37 2 1)) : sx_Run X 59 [.inr (.inr 37), .inl c, .inr (.inl a), .inr (.inl b)] shM σ Q := by
  have ha9 : -1000000000000 ≤ a ∧ a ≤ 1000000000000 := ha
  have hb9 : -1000000000000 ≤ b ∧ b ≤ 1000000000000 := hb
  refine sx_rule0 (own := 6) (cd := kX6_joined) (nL := 6) (by decide +kernel) (by decide +kernel) kX6_joined_ok (by decide +kernel) (Nat.le_of_ble_eq_true rfl) 40 ?_
  conv => whnf
  refine ⟨fun g => ?_, ?_⟩
  · skip
    exfalso
    omega
  conv => whnf
  refine ⟨fun g => ?_, ?_⟩
  · skip
    conv => whnf
    refine ⟨fun g => ?_, fun g => ?_⟩
    · simp only [sx_cc, Classical.not_not] at g; try simp only [cmp_eq, cmp_ge, cmp_lt, cmp_gt, cmp_le, Int.cast_ofNat_Int] at g
      conv => whnf
      refine ⟨Nat.le_of_ble_eq_true rfl, Nat.le_of_ble_eq_true rfl, ?_⟩
      refine c_Ktruth ?_
      conv => whnf
      refine h1 _ ?_
      rw [fKd_k (c := c) (k := 4) (by omega)]
      unfold fJo fB
      repeat (first | rw [if_pos (by first | omega | assumption)] | rw [if_neg (by first | omega | assumption)])
    · simp only [sx_cc, Classical.not_not] at g; try simp only [cmp_eq, cmp_ge, cmp_lt, cmp_gt, cmp_le, Int.cast_ofNat_Int] at g
      conv => whnf
      refine ⟨fun g => ?_, fun g => ?_⟩
      · simp only [sx_cc, Classical.not_not] at g; try simp only [cmp_eq, cmp_ge, cmp_lt, cmp_gt, cmp_le, Int.cast_ofNat_Int] at g
        conv => whnf
        refine ⟨Nat.le_of_ble_eq_true rfl, Nat.le_of_ble_eq_true rfl, ?_⟩
        refine c_Ktruth ?_
        conv => whnf
        refine h1 _ ?_
        rw [fKd_k (c := c) (k := 4) (by omega)]
        unfold fJo fB
        repeat (first | rw [if_pos (by first | omega | assumption)] | rw [if_neg (by first | omega | assumption)])
      · simp only [sx_cc, Classical.not_not] at g; try simp only [cmp_eq, cmp_ge, cmp_lt, cmp_gt, cmp_le, Int.cast_ofNat_Int] at g
        conv => whnf
        refine ⟨Nat.le_of_ble_eq_true rfl, Nat.le_of_ble_eq_true rfl, ?_⟩
        refine c_Ktruth ?_
        conv => whnf
        refine h1 _ ?_
        rw [fKd_k (c := c) (k := 4) (by omega)]
        unfold fJo fB
        repeat (first | rw [if_pos (by first | omega | assumption)] | rw [if_neg (by first | omega | assumption)])
  conv => whnf
  refine ⟨fun g => ?_, ?_⟩
  · skip
    conv => whnf
    refine ⟨fun g => ?_, fun g => ?_⟩
    · simp only [sx_cc, Classical.not_not] at g; try simp only [cmp_eq, cmp_ge, cmp_lt, cmp_gt, cmp_le, Int.cast_ofNat_Int] at g
      conv => whnf
      refine ⟨Nat.le_of_ble_eq_true rfl, Nat.le_of_ble_eq_true rfl, ?_⟩
      refine c_Ktruth ?_
      conv => whnf
      refine h1 _ ?_
      rw [fKd_k (c := c) (k := 3) (by omega)]
      unfold fJo fB
      repeat (first | rw [if_pos (by first | omega | assumption)] | rw [if_neg (by first | omega | assumption)])
    · simp only [sx_cc, Classical.not_not] at g; try simp only [cmp_eq, cmp_ge, cmp_lt, cmp_gt, cmp_le, Int.cast_ofNat_Int] at g
      conv => whnf
      refine ⟨fun g => ?_, fun g => ?_⟩
      · simp only [sx_cc, Classical.not_not] at g; try simp only [cmp_eq, cmp_ge, cmp_lt, cmp_gt, cmp_le, Int.cast_ofNat_Int] at g
        conv => whnf
        refine ⟨Nat.le_of_ble_eq_true rfl, Nat.le_of_ble_eq_true rfl, ?_⟩
        refine c_Ktruth ?_
        conv => whnf
        refine h1 _ ?_
        rw [fKd_k (c := c) (k := 3) (by omega)]
        unfold fJo fB
        repeat (first | rw [if_pos (by first | omega | assumption)] | rw [if_neg (by first | omega | assumption)])
      · simp only [sx_cc, Classical.not_not] at g; try simp only [cmp_eq, cmp_ge, cmp_lt, cmp_gt, cmp_le, Int.cast_ofNat_Int] at g
        conv => whnf
        refine ⟨Nat.le_of_ble_eq_true rfl, Nat.le_of_ble_eq_true rfl, ?_⟩
        refine c_Ktruth ?_
        conv => whnf
        refine h1 _ ?_
        rw [fKd_k (c := c) (k := 3) (by omega)]
        unfold fJo fB
        repeat (first | rw [if_pos (by first | omega | assumption)] | rw [if_neg (by first | omega | assumption)])
  conv => whnf
  refine ⟨fun g => ?_, ?_⟩
  · skip
    exfalso
    omega
  conv => whnf
  refine ⟨fun g => ?_, ?_⟩
  · skip
    exfalso
    omega
  conv => whnf
  refine ⟨fun g => ?_, ?_⟩
  · skip
    exfalso
    omega
  conv => whnf
  refine ⟨fun g => ?_, ?_⟩
  · skip
    exfalso
    omega
  conv => whnf
  refine ⟨fun g => ?_, ?_⟩
  · skip
    exfalso
    omega
  conv => whnf
  refine ⟨fun g => ?_, ?_⟩
  · skip
    exfalso
    omega
  conv => whnf
  refine ⟨fun g => ?_, ?_⟩
  · skip
    conv => whnf
    refine ⟨fun g => ?_, fun g => ?_⟩
    · simp only [sx_cc, Classical.not_not] at g; try simp only [cmp_eq, cmp_ge, cmp_lt, cmp_gt, cmp_le, Int.cast_ofNat_Int] at g
      conv => whnf
      refine ⟨Nat.le_of_ble_eq_true rfl, Nat.le_of_ble_eq_true rfl, ?_⟩
      refine c_Ktruth ?_
      conv => whnf
      refine h1 _ ?_
      rw [fKd_k (c := c) (k := 5) (by omega)]
      unfold fJo fB
      repeat (first | rw [if_pos (by first | omega | assumption)] | rw [if_neg (by first | omega | assumption)])
    · simp only [sx_cc, Classical.not_not] at g; try simp only [cmp_eq, cmp_ge, cmp_lt, cmp_gt, cmp_le, Int.cast_ofNat_Int] at g
      conv => whnf
      refine ⟨Nat.le_of_ble_eq_true rfl, Nat.le_of_ble_eq_true rfl, ?_⟩
      refine c_Ktruth ?_
      conv => whnf
      refine h1 _ ?_
      rw [fKd_k (c := c) (k := 5) (by omega)]
      unfold fJo fB
      repeat (first | rw [if_pos (by first | omega | assumption)] | rw [if_neg (by first | omega | assumption)])
  conv => whnf
  refine ⟨fun g => ?_, ?_⟩
  · skip
    conv => whnf
    refine ⟨fun g => ?_, fun g => ?_⟩
    · simp only [sx_cc, Classical.not_not] at g; try simp only [cmp_eq, cmp_ge, cmp_lt, cmp_gt, cmp_le, Int.cast_ofNat_Int] at g
      conv => whnf
      refine ⟨Nat.le_of_ble_eq_true rfl, Nat.le_of_ble_eq_true rfl, ?_⟩
      refine c_Ktruth ?_
      conv => whnf
      refine h1 _ ?_
      rw [fKd_k (c := c) (k := 6) (by omega)]
      unfold fJo fB
      repeat (first | rw [if_pos (by first | omega | assumption)] | rw [if_neg (by first | omega | assumption)])
    · simp only [sx_cc, Classical.not_not] at g; try simp only [cmp_eq, cmp_ge, cmp_lt, cmp_gt, cmp_le, Int.cast_ofNat_Int] at g
      conv => whnf
      refine ⟨Nat.le_of_ble_eq_true rfl, Nat.le_of_ble_eq_true rfl, ?_⟩
      refine c_Ktruth ?_
      conv => whnf
      refine h1 _ ?_
      rw [fKd_k (c := c) (k := 6) (by omega)]
      unfold fJo fB
      repeat (first | rw [if_pos (by first | omega | assumption)] | rw [if_neg (by first | omega | assumption)])
  conv => whnf
  refine ⟨fun g => ?_, ?_⟩
  · skip
    conv => whnf
    refine ⟨fun g => ?_, fun g => ?_⟩
    · simp only [sx_cc, Classical.not_not] at g; try simp only [cmp_eq, cmp_ge, cmp_lt, cmp_gt, cmp_le, Int.cast_ofNat_Int] at g
      conv => whnf
      refine ⟨Nat.le_of_ble_eq_true rfl, Nat.le_of_ble_eq_true rfl, ?_⟩
      refine c_Ktruth ?_
      conv => whnf
      refine h1 _ ?_
      rw [fKd_k (c := c) (k := 7) (by omega)]
      unfold fJo fB
      repeat (first | rw [if_pos (by first | omega | assumption)] | rw [if_neg (by first | omega | assumption)])
    · simp only [sx_cc, Classical.not_not] at g; try simp only [cmp_eq, cmp_ge, cmp_lt, cmp_gt, cmp_le, Int.cast_ofNat_Int] at g
      conv => whnf
      refine ⟨Nat.le_of_ble_eq_true rfl, Nat.le_of_ble_eq_true rfl, ?_⟩
      refine c_Ktruth ?_
      conv => whnf
      refine h1 _ ?_
      rw [fKd_k (c := c) (k := 7) (by omega)]
      unfold fJo fB
      repeat (first | rw [if_pos (by first | omega | assumption)] | rw [if_neg (by first | omega | assumption)])
  conv => whnf
  refine ⟨fun g => ?_, ?_⟩
  · skip
    conv => whnf
    refine ⟨fun g => ?_, fun g => ?_⟩
    · simp only [sx_cc, Classical.not_not] at g; try simp only [cmp_eq, cmp_ge, cmp_lt, cmp_gt, cmp_le, Int.cast_ofNat_Int] at g
      conv => whnf
      refine ⟨Nat.le_of_ble_eq_true rfl, Nat.le_of_ble_eq_true rfl, ?_⟩
      refine c_Ktruth ?_
      conv => whnf
      refine h1 _ ?_
      rw [fKd_k (c := c) (k := 8) (by omega)]
      unfold fJo fB
      repeat (first | rw [if_pos (by first | omega | assumption)] | rw [if_neg (by first | omega | assumption)])
    · simp only [sx_cc, Classical.not_not] at g; try simp only [cmp_eq, cmp_ge, cmp_lt, cmp_gt, cmp_le, Int.cast_ofNat_Int] at g
      conv => whnf
      refine ⟨Nat.le_of_ble_eq_true rfl, Nat.le_of_ble_eq_true rfl, ?_⟩
      refine c_Ktruth ?_
      conv => whnf
      refine h1 _ ?_
      rw [fKd_k (c := c) (k := 8) (by omega)]
      unfold fJo fB
      repeat (first | rw [if_pos (by first | omega | assumption)] | rw [if_neg (by first | omega | assumption)])
  conv => whnf
  refine ⟨fun g => ?_, ?_⟩
  · skip
    conv => whnf
    refine ⟨fun g => ?_, fun g => ?_⟩
    · simp only [sx_cc, Classical.not_not] at g; try simp only [cmp_eq, cmp_ge, cmp_lt, cmp_gt, cmp_le, Int.cast_ofNat_Int] at g
      conv => whnf
      refine ⟨Nat.le_of_ble_eq_true rfl, Nat.le_of_ble_eq_true rfl, ?_⟩
      refine c_Ktruth ?_
      conv => whnf
      refine h1 _ ?_
      rw [fKd_k (c := c) (k := 9) (by omega)]
      unfold fJo fB
      repeat (first | rw [if_pos (by first | omega | assumption)] | rw [if_neg (by first | omega | assumption)])
    · simp only [sx_cc, Classical.not_not] at g; try simp only [cmp_eq, cmp_ge, cmp_lt, cmp_gt, cmp_le, Int.cast_ofNat_Int] at g
      conv => whnf
      refine ⟨Nat.le_of_ble_eq_true rfl, Nat.le_of_ble_eq_true rfl, ?_⟩
      refine c_Ktruth ?_
      conv => whnf
      refine h1 _ ?_
      rw [fKd_k (c := c) (k := 9) (by omega)]
      unfold fJo fB
      repeat (first | rw [if_pos (by first | omega | assumption)] | rw [if_neg (by first | omega | assumption)])
  conv => whnf
  refine ⟨fun g => ?_, ?_⟩
  · skip
    conv => whnf
    refine ⟨fun g => ?_, fun g => ?_⟩
    · simp only [sx_cc, Classical.not_not] at g; try simp only [cmp_eq, cmp_ge, cmp_lt, cmp_gt, cmp_le, Int.cast_ofNat_Int] at g
      conv => whnf
      refine ⟨Nat.le_of_ble_eq_true rfl, Nat.le_of_ble_eq_true rfl, ?_⟩
      refine c_Ktruth ?_
      conv => whnf
      refine h1 _ ?_
      rw [fKd_k (c := c) (k := 10) (by omega)]
      unfold fJo fB
      repeat (first | rw [if_pos (by first | omega | assumption)] | rw [if_neg (by first | omega | assumption)])
    · simp only [sx_cc, Classical.not_not] at g; try simp only [cmp_eq, cmp_ge, cmp_lt, cmp_gt, cmp_le, Int.cast_ofNat_Int] at g
      conv => whnf
      refine ⟨Nat.le_of_ble_eq_true rfl, Nat.le_of_ble_eq_true rfl, ?_⟩
      refine c_Ktruth ?_
      conv => whnf
      refine h1 _ ?_
      rw [fKd_k (c := c) (k := 10) (by omega)]
      unfold fJo fB
      repeat (first | rw [if_pos (by first | omega | assumption)] | rw [if_neg (by first | omega | assumption)])
  conv => whnf
  refine ⟨fun g => ?_, ?_⟩
  · skip
    conv => whnf
    refine ⟨⟨by omega, by omega⟩, ?_⟩
    conv => whnf
    refine ⟨Nat.le_of_ble_eq_true rfl, Nat.le_of_ble_eq_true rfl, (by first | assumption | rfl), ?_⟩
    refine c_Kchecked (fun g1 => ?_) (fun g0 => ?_)
    · skip
      conv => whnf
      first | exact h1 _ (by rw [fKd_k (c := c) (k := 11) (by omega), fJo_11, if_pos (show -1000000000000 ≤ a + b ∧ a + b ≤ 1000000000000 from g1)]) | exact h0 (by rw [fKd_k (c := c) (k := 11) (by omega), fJo_11, if_neg (show ¬ (-1000000000000 ≤ a + b ∧ a + b ≤ 1000000000000) from g0)])
    · skip
      conv => whnf
      first | exact h1 _ (by rw [fKd_k (c := c) (k := 11) (by omega), fJo_11, if_pos (show -1000000000000 ≤ a + b ∧ a + b ≤ 1000000000000 from g1)]) | exact h0 (by rw [fKd_k (c := c) (k := 11) (by omega), fJo_11, if_neg (show ¬ (-1000000000000 ≤ a + b ∧ a + b ≤ 1000000000000) from g0)])
  conv => whnf
  refine ⟨fun g => ?_, ?_⟩
  · skip
    conv => whnf
    refine ⟨⟨by omega, by omega⟩, ?_⟩
    conv => whnf
    refine ⟨Nat.le_of_ble_eq_true rfl, Nat.le_of_ble_eq_true rfl, (by first | assumption | rfl), ?_⟩
    refine c_Kchecked (fun g1 => ?_) (fun g0 => ?_)
    · skip
      conv => whnf
      first | exact h1 _ (by rw [fKd_k (c := c) (k := 12) (by omega), fJo_12, if_pos (show -1000000000000 ≤ a - b ∧ a - b ≤ 1000000000000 from g1)]) | exact h0 (by rw [fKd_k (c := c) (k := 12) (by omega), fJo_12, if_neg (show ¬ (-1000000000000 ≤ a - b ∧ a - b ≤ 1000000000000) from g0)])
    · skip
      conv => whnf
      first | exact h1 _ (by rw [fKd_k (c := c) (k := 12) (by omega), fJo_12, if_pos (show -1000000000000 ≤ a - b ∧ a - b ≤ 1000000000000 from g1)]) | exact h0 (by rw [fKd_k (c := c) (k := 12) (by omega), fJo_12, if_neg (show ¬ (-1000000000000 ≤ a - b ∧ a - b ≤ 1000000000000) from g0)])
  conv => whnf
  refine ⟨fun g => ?_, ?_⟩
  · skip
    conv => whnf
    refine ⟨Nat.le_of_ble_eq_true rfl, Nat.le_of_ble_eq_true rfl, (by first | assumption | rfl), ?_⟩
    refine c_Kproduct ha hb (fun g1 => ?_) (fun g0 => ?_)
    · skip
      conv => whnf
      first | exact h1 _ (by rw [fKd_k (c := c) (k := 13) (by omega), fJo_13, if_neg g1]) | exact h0 (by rw [fKd_k (c := c) (k := 13) (by omega), fJo_13, if_pos g0])
    · skip
      conv => whnf
      first | exact h1 _ (by rw [fKd_k (c := c) (k := 13) (by omega), fJo_13, if_neg g1]) | exact h0 (by rw [fKd_k (c := c) (k := 13) (by omega), fJo_13, if_pos g0])
  conv => whnf
  refine ⟨fun g => ?_, ?_⟩
  · skip
    conv => whnf
    refine ⟨Nat.le_of_ble_eq_true rfl, Nat.le_of_ble_eq_true rfl, (by first | assumption | rfl), ?_⟩
    refine c_Kquotient ha hb (fun g1 => ?_) (fun g0 => ?_)
    · skip
      conv => whnf
      first | exact h1 _ (by rw [fKd_k (c := c) (k := 14) (by omega), fJo_14, if_neg g1]) | exact h0 (by rw [fKd_k (c := c) (k := 14) (by omega), fJo_14, if_pos g0])
    · skip
      conv => whnf
      first | exact h1 _ (by rw [fKd_k (c := c) (k := 14) (by omega), fJo_14, if_neg g1]) | exact h0 (by rw [fKd_k (c := c) (k := 14) (by omega), fJo_14, if_pos g0])
  exact trivial
end SXK1
