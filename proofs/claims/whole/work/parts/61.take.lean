/-! TAKEN FROM ANOTHER: marks and snow (by wip/whole) -/
section SXL8
variable {X : sx_X} {Q : sx_R} {s t p b c x kk : Int} {σ σ0 σ' σ1 : sx_S} {P : aP} {A : aM} {W : aW}
def pCp (s t x j : Int) (σ σ' : sx_S) : Prop := (∀ a i : Int, ¬ (a = s + 4 ∧ i = 0) → ¬ (s + 5 ≤ a ∧ a < s + 5 + j) → σ' a i = σ a i) ∧ σ' (s + 4) 0 = x ∧ ∀ k m : Int, 5 ≤ k → k < 5 + j → 0 ≤ m → m < x → σ' (s + k) m = σ (t + k) m
theorem pCp_0 : pCp s t x 0 σ (sx_up σ (s + 4) 0 x) := ⟨fun a i h1 _ => by unfold sx_up; rw [if_neg h1], up_s, fun k m h1 h2 _ _ => by omega⟩
theorem pCp_s {j u v : Int} (h : pCp s t x j σ σ1) (hst : t + 15 ≤ s ∨ s + 15 ≤ t) (hj : 0 ≤ j ∧ j < 8) (hu : u = t + 5 + j) (hv : v = s + 5 + j) : pCp s t x (j + 1) σ (sx_cp σ1 u 0 v 0 x) := by
  obtain ⟨h1, h2, h3⟩ := h
  refine ⟨fun a i y1 y2 => ?_, ?_, fun k m y1 y2 y3 y4 => ?_⟩
  · rw [cp_a (by omega)]; exact h1 a i y1 (by omega)
  · rw [cp_a (by omega)]; exact h2
  · by_cases e : k = 5 + j
    · subst e
      rw [show s + (5 + j) = v by omega, cp_in y3 y4, hu, h1 _ _ (by omega) (by omega), show t + 5 + j = t + (5 + j) by omega]
    · rw [cp_a (by omega)]; exact h3 k m y1 (by omega) y3 y4
theorem pCp_pts : ([40, 55, 70] : List Int).all (fun s => ptL.all (fun q => decide (¬ (q.1 = s + 4 ∧ q.2.1 = 0) ∧ ¬ (s + 5 ≤ q.1 ∧ q.1 < s + 13)))) = true := by decide +kernel
theorem pCp.pt {j : Int} (h : pCp s t x j σ σ') (hs : isS s) (hj : j ≤ 8) (hT : PT σ) : PT σ' := hT.fr (fun q hq => by
  have h1 := List.all_eq_true.mp pCp_pts s (by rcases hs with e | e | e <;> subst e <;> decide)
  have h2 := of_decide_eq_true (List.all_eq_true.mp h1 q hq)
  exact h.1 _ _ h2.1 (by omega))
set_option maxRecDepth 20000 in
theorem a_Mtake (hT : PT σ) (hs : isS s) (ht : isS t) (hst : t + 15 ≤ s ∨ s + 15 ≤ t) (hx : σ (t + 4) 0 = x) (hx0 : 0 ≤ x ∧ x ≤ 90) (h : ∀ σ', pCp s t x 8 σ σ' → Q none shM σ') : sx_Run X 32 [.inr (.inr (s + 4)), .inr (.inr (t + 4))] shM σ Q := by
  have k4 := lkS4 hs
  have k5 := lkS5 hs
  have k6 := lkS6 hs
  have k7 := lkS7 hs
  have k8 := lkS8 hs
  have k9 := lkS9 hs
  have k10 := lkS10 hs
  have k11 := lkS11 hs
  have k12 := lkS12 hs
  have l4 := lkS4 ht
  have l5 := lkS5 ht
  have l6 := lkS6 ht
  have l7 := lkS7 ht
  have l8 := lkS8 ht
  have l9 := lkS9 ht
  have l10 := lkS10 ht
  have l11 := lkS11 ht
  have l12 := lkS12 ht
  have hsz := hs.ge
  have htz := ht.ge
  refine sx_rule0 (own := 4) (cd := kX4_takeFrom) (nL := 2) (by decide +kernel) (by decide +kernel) kX4_takeFrom_ok (by decide +kernel) (Nat.le_of_ble_eq_true rfl) 40 ?_
  conv => whnf
  refine ⟨(by first | assumption | rfl), ?_⟩
  try simp only [Int.cast_ofNat_Int, hx]
  try simp only [z]
  try simp only [mm, nn]
  conv => whnf
  refine ⟨(by first | assumption | rfl), ?_⟩
  try simp only [Int.cast_ofNat_Int, hx]
  try simp only [z]
  try simp only [mm, nn]
  generalize e0 : sx_up σ (s + 4) 0 _ = σ00
  have R0 : pCp s t x 0 σ σ00 := by rw [← e0]; exact pCp_0
  have T0 := R0.pt hs (by decide) hT
  have z := R0.2.1
  have mm := ptM_1 T0 hs
  have nn := ptM_1 T0 ht
  conv => whnf
  refine ⟨(by first | assumption | rfl), ?_⟩
  try simp only [Int.cast_ofNat_Int, hx]
  try simp only [z]
  try simp only [mm, nn]
  conv => whnf
  refine ⟨(by first | assumption | rfl), ?_⟩
  try simp only [Int.cast_ofNat_Int, hx]
  try simp only [z]
  try simp only [mm, nn]
  conv => whnf
  refine ⟨(by first | assumption | rfl), ?_⟩
  try simp only [Int.cast_ofNat_Int, hx]
  try simp only [z]
  try simp only [mm, nn]
  conv => whnf
  refine ⟨Nat.le_of_ble_eq_true rfl, by first | rfl | (simp only [*]; done), by first | rfl | (simp only [*]; done), by omega, by omega, by omega, by first | decide | (simp only [*]; omega), by first | decide | (simp only [*]; omega), ?_⟩
  generalize e1 : sx_cp _ _ _ _ _ _ = σ01
  have R1 : pCp s t x 1 σ σ01 := by rw [← e1]; exact pCp_s (j := 0) R0 hst (by decide) (by omega) (by omega)
  have T1 := R1.pt hs (by decide) hT
  have z := R1.2.1
  have mm := ptM_2 T1 hs
  have nn := ptM_2 T1 ht
  conv => whnf
  refine ⟨(by first | assumption | rfl), ?_⟩
  try simp only [Int.cast_ofNat_Int, hx]
  try simp only [z]
  try simp only [mm, nn]
  conv => whnf
  refine ⟨(by first | assumption | rfl), ?_⟩
  try simp only [Int.cast_ofNat_Int, hx]
  try simp only [z]
  try simp only [mm, nn]
  conv => whnf
  refine ⟨(by first | assumption | rfl), ?_⟩
  try simp only [Int.cast_ofNat_Int, hx]
  try simp only [z]
  try simp only [mm, nn]
  conv => whnf
  refine ⟨Nat.le_of_ble_eq_true rfl, by first | rfl | (simp only [*]; done), by first | rfl | (simp only [*]; done), by omega, by omega, by omega, by first | decide | (simp only [*]; omega), by first | decide | (simp only [*]; omega), ?_⟩
  generalize e2 : sx_cp _ _ _ _ _ _ = σ02
  have R2 : pCp s t x 2 σ σ02 := by rw [← e2]; exact pCp_s (j := 1) R1 hst (by decide) (by omega) (by omega)
  have T2 := R2.pt hs (by decide) hT
  have z := R2.2.1
  have mm := ptM_3 T2 hs
  have nn := ptM_3 T2 ht
  conv => whnf
  refine ⟨(by first | assumption | rfl), ?_⟩
  try simp only [Int.cast_ofNat_Int, hx]
  try simp only [z]
  try simp only [mm, nn]
  conv => whnf
  refine ⟨(by first | assumption | rfl), ?_⟩
  try simp only [Int.cast_ofNat_Int, hx]
  try simp only [z]
  try simp only [mm, nn]
  conv => whnf
  refine ⟨(by first | assumption | rfl), ?_⟩
  try simp only [Int.cast_ofNat_Int, hx]
  try simp only [z]
  try simp only [mm, nn]
  conv => whnf
  refine ⟨Nat.le_of_ble_eq_true rfl, by first | rfl | (simp only [*]; done), by first | rfl | (simp only [*]; done), by omega, by omega, by omega, by first | decide | (simp only [*]; omega), by first | decide | (simp only [*]; omega), ?_⟩
  generalize e3 : sx_cp _ _ _ _ _ _ = σ03
  have R3 : pCp s t x 3 σ σ03 := by rw [← e3]; exact pCp_s (j := 2) R2 hst (by decide) (by omega) (by omega)
  have T3 := R3.pt hs (by decide) hT
  have z := R3.2.1
  have mm := ptM_4 T3 hs
  have nn := ptM_4 T3 ht
  conv => whnf
  refine ⟨(by first | assumption | rfl), ?_⟩
  try simp only [Int.cast_ofNat_Int, hx]
  try simp only [z]
  try simp only [mm, nn]
  conv => whnf
  refine ⟨(by first | assumption | rfl), ?_⟩
  try simp only [Int.cast_ofNat_Int, hx]
  try simp only [z]
  try simp only [mm, nn]
  conv => whnf
  refine ⟨(by first | assumption | rfl), ?_⟩
  try simp only [Int.cast_ofNat_Int, hx]
  try simp only [z]
  try simp only [mm, nn]
  conv => whnf
  refine ⟨Nat.le_of_ble_eq_true rfl, by first | rfl | (simp only [*]; done), by first | rfl | (simp only [*]; done), by omega, by omega, by omega, by first | decide | (simp only [*]; omega), by first | decide | (simp only [*]; omega), ?_⟩
  generalize e4 : sx_cp _ _ _ _ _ _ = σ04
  have R4 : pCp s t x 4 σ σ04 := by rw [← e4]; exact pCp_s (j := 3) R3 hst (by decide) (by omega) (by omega)
  have T4 := R4.pt hs (by decide) hT
  have z := R4.2.1
  have mm := ptM_5 T4 hs
  have nn := ptM_5 T4 ht
  conv => whnf
  refine ⟨(by first | assumption | rfl), ?_⟩
  try simp only [Int.cast_ofNat_Int, hx]
  try simp only [z]
  try simp only [mm, nn]
  conv => whnf
  refine ⟨(by first | assumption | rfl), ?_⟩
  try simp only [Int.cast_ofNat_Int, hx]
  try simp only [z]
  try simp only [mm, nn]
  conv => whnf
  refine ⟨(by first | assumption | rfl), ?_⟩
  try simp only [Int.cast_ofNat_Int, hx]
  try simp only [z]
  try simp only [mm, nn]
  conv => whnf
  refine ⟨Nat.le_of_ble_eq_true rfl, by first | rfl | (simp only [*]; done), by first | rfl | (simp only [*]; done), by omega, by omega, by omega, by first | decide | (simp only [*]; omega), by first | decide | (simp only [*]; omega), ?_⟩
  generalize e5 : sx_cp _ _ _ _ _ _ = σ05
  have R5 : pCp s t x 5 σ σ05 := by rw [← e5]; exact pCp_s (j := 4) R4 hst (by decide) (by omega) (by omega)
  have T5 := R5.pt hs (by decide) hT
  have z := R5.2.1
  have mm := ptM_6 T5 hs
  have nn := ptM_6 T5 ht
  conv => whnf
  refine ⟨(by first | assumption | rfl), ?_⟩
  try simp only [Int.cast_ofNat_Int, hx]
  try simp only [z]
  try simp only [mm, nn]
  conv => whnf
  refine ⟨(by first | assumption | rfl), ?_⟩
  try simp only [Int.cast_ofNat_Int, hx]
  try simp only [z]
  try simp only [mm, nn]
  conv => whnf
  refine ⟨(by first | assumption | rfl), ?_⟩
  try simp only [Int.cast_ofNat_Int, hx]
  try simp only [z]
  try simp only [mm, nn]
  conv => whnf
  refine ⟨Nat.le_of_ble_eq_true rfl, by first | rfl | (simp only [*]; done), by first | rfl | (simp only [*]; done), by omega, by omega, by omega, by first | decide | (simp only [*]; omega), by first | decide | (simp only [*]; omega), ?_⟩
  generalize e6 : sx_cp _ _ _ _ _ _ = σ06
  have R6 : pCp s t x 6 σ σ06 := by rw [← e6]; exact pCp_s (j := 5) R5 hst (by decide) (by omega) (by omega)
  have T6 := R6.pt hs (by decide) hT
  have z := R6.2.1
  have mm := ptM_7 T6 hs
  have nn := ptM_7 T6 ht
  conv => whnf
  refine ⟨(by first | assumption | rfl), ?_⟩
  try simp only [Int.cast_ofNat_Int, hx]
  try simp only [z]
  try simp only [mm, nn]
  conv => whnf
  refine ⟨(by first | assumption | rfl), ?_⟩
  try simp only [Int.cast_ofNat_Int, hx]
  try simp only [z]
  try simp only [mm, nn]
  conv => whnf
  refine ⟨(by first | assumption | rfl), ?_⟩
  try simp only [Int.cast_ofNat_Int, hx]
  try simp only [z]
  try simp only [mm, nn]
  conv => whnf
  refine ⟨Nat.le_of_ble_eq_true rfl, by first | rfl | (simp only [*]; done), by first | rfl | (simp only [*]; done), by omega, by omega, by omega, by first | decide | (simp only [*]; omega), by first | decide | (simp only [*]; omega), ?_⟩
  generalize e7 : sx_cp _ _ _ _ _ _ = σ07
  have R7 : pCp s t x 7 σ σ07 := by rw [← e7]; exact pCp_s (j := 6) R6 hst (by decide) (by omega) (by omega)
  have T7 := R7.pt hs (by decide) hT
  have z := R7.2.1
  have mm := ptM_8 T7 hs
  have nn := ptM_8 T7 ht
  conv => whnf
  refine ⟨(by first | assumption | rfl), ?_⟩
  try simp only [Int.cast_ofNat_Int, hx]
  try simp only [z]
  try simp only [mm, nn]
  conv => whnf
  refine ⟨(by first | assumption | rfl), ?_⟩
  try simp only [Int.cast_ofNat_Int, hx]
  try simp only [z]
  try simp only [mm, nn]
  conv => whnf
  refine ⟨(by first | assumption | rfl), ?_⟩
  try simp only [Int.cast_ofNat_Int, hx]
  try simp only [z]
  try simp only [mm, nn]
  conv => whnf
  refine ⟨Nat.le_of_ble_eq_true rfl, by first | rfl | (simp only [*]; done), by first | rfl | (simp only [*]; done), by omega, by omega, by omega, by first | decide | (simp only [*]; omega), by first | decide | (simp only [*]; omega), ?_⟩
  generalize e8 : sx_cp _ _ _ _ _ _ = σ08
  have R8 : pCp s t x 8 σ σ08 := by rw [← e8]; exact pCp_s (j := 7) R7 hst (by decide) (by omega) (by omega)
  have T8 := R8.pt hs (by decide) hT
  have z := R8.2.1
  skip
  conv => whnf
  refine ⟨rfl, ?_⟩
  exact h _ R8
end SXL8
