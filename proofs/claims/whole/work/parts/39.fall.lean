/-! READS: mark, cell, read; fall, thaw (by wip/whole) -/
section SXW9
variable {X : sx_X} {σ σ0 : sx_S} {s p : Int} {Q : sx_R}
set_option maxRecDepth 20000 in
theorem c_fall (hT : PT σ) (hs : isS s) (hn : 0 ≤ σ (s + 4) 0 ∧ σ (s + 4) 0 ≤ 90) (hcv : ∀ i : Int, 0 ≤ i → i < σ (s + 4) 0 → 0 ≤ σ (s + 10) i ∧ σ (s + 10) i ≤ 1000000) (hsn : 0 ≤ σ s 8 ∧ σ s 8 ≤ 9999) (e6 : σ 0 6 = s) {x : Int} (h0 : ¬ (1 ≤ x ∧ x ≤ 99) → Q (some (.inl (-1))) shM σ) (h1 : 1 ≤ x → x ≤ 99 → Q (some (.inl (fMn (σ s 8 + x)))) shM (sx_up (sx_up (sx_mp σ (s + 10) (σ (s + 4) 0) (fun j => σ (s + 10) j + x)) s 8 (fMn (σ s 8 + x))) 85 0 0)) : sx_Run X 136 [.inr (.inr 0), .inl x] shM σ Q := by
  have k0 := lkS0 hs
  have o6 := pt_0_10 hT
  have hs9 : 40 ≤ s ∧ s ≤ 70 := by rcases hs with h9 | h9 | h9 <;> omega
  refine sx_rule0 (own := 11) (cd := kX11_fall) (nL := 2) (by decide +kernel) (by decide +kernel) kX11_fall_ok (by decide +kernel) (Nat.le_of_ble_eq_true rfl) 40 ?_
  conv => whnf
  refine ⟨fun g => ?_, fun g => ?_⟩
  · simp only [sx_cc, Classical.not_not] at g
    conv => whnf
    refine ⟨fun q9 => by first | (simp at q9; done) | omega, ?_⟩
    exact h0 (by omega)
  · simp only [sx_cc, Classical.not_not] at g
    conv => whnf
    refine ⟨fun g => ?_, fun g => ?_⟩
    · simp only [sx_cc, Classical.not_not] at g
      conv => whnf
      refine ⟨(by first | assumption | rfl), ?_⟩
      try simp (disch := omega) only [Int.cast_ofNat_Int, up_s, up_a, up_i, mp_a, mp_ge, mq_a, mq_ge, cp_a, e6, o6]
      conv => whnf
      refine ⟨Nat.le_of_ble_eq_true rfl, Nat.le_of_ble_eq_true rfl, (by first | assumption | rfl), ?_⟩
      refine c_Scoverby hT hs hn hcv hsn ⟨by omega, by omega⟩ ?_
      conv => whnf
      refine ⟨(by first | assumption | rfl), ?_⟩
      try simp (disch := omega) only [Int.cast_ofNat_Int, up_s, up_a, up_i, mp_a, mp_ge, mq_a, mq_ge, cp_a, e6, o6]
      conv => whnf
      refine ⟨(by first | assumption | rfl), ?_⟩
      try simp (disch := omega) only [Int.cast_ofNat_Int, up_s, up_a, up_i, mp_a, mp_ge, mq_a, mq_ge, cp_a, e6, o6]
      conv => whnf
      refine ⟨(by first | assumption | rfl), ?_⟩
      try simp (disch := omega) only [Int.cast_ofNat_Int, up_s, up_a, up_i, mp_a, mp_ge, mq_a, mq_ge, cp_a, e6, o6]
      conv => whnf
      refine ⟨(by first | assumption | rfl), ?_⟩
      try simp (disch := omega) only [Int.cast_ofNat_Int, up_s, up_a, up_i, mp_a, mp_ge, mq_a, mq_ge, cp_a, e6, o6]
      conv => whnf
      refine ⟨fun q9 => by first | (simp at q9; done) | omega, ?_⟩
      exact h1 (by omega) (by omega)
    · simp only [sx_cc, Classical.not_not] at g
      conv => whnf
      refine ⟨fun q9 => by first | (simp at q9; done) | omega, ?_⟩
      exact h0 (by omega)
set_option maxRecDepth 20000 in
theorem c_thaw (hT : PT σ) (hs : isS s) (hn : 0 ≤ (sx_up σ 85 0 0) (s + 4) 0 ∧ (sx_up σ 85 0 0) (s + 4) 0 ≤ 90) (hcv : ∀ i : Int, 0 ≤ i → i < (sx_up σ 85 0 0) (s + 4) 0 → 0 ≤ (sx_up σ 85 0 0) (s + 10) i ∧ (sx_up σ 85 0 0) (s + 10) i ≤ 1000000) (hde : ∀ i : Int, 0 ≤ i → i < (sx_up σ 85 0 0) (s + 4) 0 → 0 ≤ (sx_up σ 85 0 0) (s + 9) i ∧ (sx_up σ 85 0 0) (s + 9) i ≤ 1000000) (hsn : 0 ≤ (sx_up σ 85 0 0) s 8 ∧ (sx_up σ 85 0 0) s 8 ≤ 9999) (e6 : σ 0 6 = s) {x : Int} (h0 : ¬ (1 ≤ x ∧ x ≤ 99) → Q (some (.inl (-1))) shM σ) (h1 : 1 ≤ x → x ≤ 99 → Q (some (.inl (fCnt (fMg ((sx_up σ 85 0 0) (s + 9)) ((sx_up σ 85 0 0) (s + 10)) x) ((sx_up σ 85 0 0) (s + 4) 0).toNat))) shM (sx_up (sx_mp (sx_mp (sx_up σ 85 0 0) (s + 10) ((sx_up σ 85 0 0) (s + 4) 0) (fMc ((sx_up σ 85 0 0) (s + 9)) ((sx_up σ 85 0 0) (s + 10)) x)) (s + 9) ((sx_up σ 85 0 0) (s + 4) 0) (fMd ((sx_up σ 85 0 0) (s + 9)) ((sx_up σ 85 0 0) (s + 10)) x)) s 8 (fMax0 ((sx_up σ 85 0 0) s 8 - x)))) : sx_Run X 137 [.inr (.inr 0), .inl x] shM σ Q := by
  have k0 := lkS0 hs
  have o6 := pt_0_10 hT
  have hs9 : 40 ≤ s ∧ s ≤ 70 := by rcases hs with h9 | h9 | h9 <;> omega
  refine sx_rule0 (own := 11) (cd := kX11_thaw) (nL := 2) (by decide +kernel) (by decide +kernel) kX11_thaw_ok (by decide +kernel) (Nat.le_of_ble_eq_true rfl) 40 ?_
  conv => whnf
  refine ⟨fun g => ?_, fun g => ?_⟩
  · simp only [sx_cc, Classical.not_not] at g
    conv => whnf
    refine ⟨fun q9 => by first | (simp at q9; done) | omega, ?_⟩
    exact h0 (by omega)
  · simp only [sx_cc, Classical.not_not] at g
    conv => whnf
    refine ⟨fun g => ?_, fun g => ?_⟩
    · simp only [sx_cc, Classical.not_not] at g
      conv => whnf
      refine ⟨(by first | assumption | rfl), ?_⟩
      try simp (disch := omega) only [Int.cast_ofNat_Int, up_s, up_a, up_i, mp_a, mp_ge, mq_a, mq_ge, cp_a, e6, o6]
      conv => whnf
      refine ⟨(by first | assumption | rfl), ?_⟩
      try simp (disch := omega) only [Int.cast_ofNat_Int, up_s, up_a, up_i, mp_a, mp_ge, mq_a, mq_ge, cp_a, e6, o6]
      conv => whnf
      refine ⟨(by first | assumption | rfl), ?_⟩
      try simp (disch := omega) only [Int.cast_ofNat_Int, up_s, up_a, up_i, mp_a, mp_ge, mq_a, mq_ge, cp_a, e6, o6]
      conv => whnf
      refine ⟨Nat.le_of_ble_eq_true rfl, Nat.le_of_ble_eq_true rfl, (by first | assumption | rfl), ?_⟩
      refine c_Smeltby (PT_fd (k := 0) hT lk_85 (by decide)) hs hn hcv hde hsn ⟨by omega, by omega⟩ ?_
      conv => whnf
      refine ⟨fun q9 => by first | (simp at q9; done) | omega, ?_⟩
      exact h1 (by omega) (by omega)
    · simp only [sx_cc, Classical.not_not] at g
      conv => whnf
      refine ⟨fun q9 => by first | (simp at q9; done) | omega, ?_⟩
      exact h0 (by omega)
set_option maxRecDepth 20000 in
theorem r_fall (e0 : σ0 = sx_up σ 124 2 0) (hT : PT σ0) (hn : 0 ≤ σ0 154 0 ∧ σ0 154 0 ≤ 90) (hd : RD σ0) (hcv : ∀ i : Int, 0 ≤ i → i < σ0 154 0 → 0 ≤ σ0 151 (90 * 0 + i) ∧ σ0 151 (90 * 0 + i) ≤ 1000000) (hsn : 0 ≤ σ0 155 0 ∧ σ0 155 0 ≤ 9999) {x : Int} (h0 : ¬ (1 ≤ x ∧ x ≤ 99) → Q (some (.inl (-1))) shM σ0) (h1 : 1 ≤ x → x ≤ 99 → Q (some (.inl (fMn (σ0 155 0 + x)))) shM (sx_up (sx_up (sx_mq σ0 151 (90 * 0) (σ0 154 0) (fun j => σ0 151 (90 * 0 + j) + x)) 155 0 (fMn (σ0 155 0 + x))) 124 83 0)) : sx_Run X 247 [.inr (.inr 124), .inl x] shM σ Q := by
  have r30 := pt_124_30 hT
  have r31 := pt_124_31 hT
  have r57 := pt_124_57 hT
  have r58 := pt_124_58 hT
  have r59 := pt_124_59 hT
  have r60 := pt_124_60 hT
  have r61 := pt_124_61 hT
  have r62 := pt_124_62 hT
  have r63 := pt_124_63 hT
  have r64 := pt_124_64 hT
  have r65 := pt_124_65 hT
  have r66 := pt_124_66 hT
  refine sx_rule0 (own := 12) (cd := kX12_fall) (nL := 2) (by decide +kernel) (by decide +kernel) kX12_fall_ok (by decide +kernel) (Nat.le_of_ble_eq_true rfl) 40 ?_
  conv => whnf
  refine ⟨(by first | assumption | rfl), ?_⟩
  try simp (disch := omega) only [Int.cast_ofNat_Int, up_s, up_a, up_i, mp_a, mp_ge, mq_a, mq_ge, cp_a, r30, r31, r57, r58, r59, r60, r61, r62, r63, r64, r65, r66]
  rw [← e0]
  conv => whnf
  refine ⟨Nat.le_of_ble_eq_true rfl, Nat.le_of_ble_eq_true rfl, ?_⟩
  refine c_Rin (fun g1 g2 => ?_) (fun g0 => ?_)
  · skip
    conv => whnf
    refine ⟨fun g => ?_, fun g => ?_⟩
    · skip
      conv => whnf
      refine ⟨Nat.le_of_ble_eq_true rfl, Nat.le_of_ble_eq_true rfl, (by first | assumption | rfl), ?_⟩
      refine c_Rfalls hT (Or.inl rfl) hn ⟨by omega, by omega⟩ hcv hsn ?_
      conv => whnf
      refine ⟨(by first | assumption | rfl), ?_⟩
      try simp (disch := omega) only [Int.cast_ofNat_Int, up_s, up_a, up_i, mp_a, mp_ge, mq_a, mq_ge, cp_a, r30, r31, r57, r58, r59, r60, r61, r62, r63, r64, r65, r66]
      conv => whnf
      refine ⟨(by first | assumption | rfl), ?_⟩
      try simp (disch := omega) only [Int.cast_ofNat_Int, up_s, up_a, up_i, mp_a, mp_ge, mq_a, mq_ge, cp_a, r30, r31, r57, r58, r59, r60, r61, r62, r63, r64, r65, r66]
      conv => whnf
      refine ⟨sx_ixI (by first | assumption | rfl) (by omega) (by omega), ?_⟩
      try simp (disch := omega) only [Int.cast_ofNat_Int, up_s, up_a, up_i, mp_a, mp_ge, mq_a, mq_ge, cp_a, r30, r31, r57, r58, r59, r60, r61, r62, r63, r64, r65, r66]
      conv => whnf
      refine ⟨fun q9 => by first | (simp at q9; done) | omega, ?_⟩
      exact h1 (by omega) (by omega)
    · exact absurd g (by simp [sx_cc])
  · skip
    conv => whnf
    refine ⟨fun g => ?_, fun g => ?_⟩
    · exact absurd g (by simp [sx_cc])
    · skip
      conv => whnf
      refine ⟨fun q9 => by first | (simp at q9; done) | omega, ?_⟩
      exact h0 (by omega)
set_option maxRecDepth 20000 in
theorem r_thaw {σ1 : sx_S} (e0 : σ0 = sx_up σ 124 2 0) (hT : PT σ0) (hn : 0 ≤ σ0 154 0 ∧ σ0 154 0 ≤ 90) (hd : RD σ0)(e1 : σ1 = sx_up σ0 124 83 0)  (hT1 : PT σ1) (hn1 : 0 ≤ σ1 154 0 ∧ σ1 154 0 ≤ 90) (hcv : ∀ i : Int, 0 ≤ i → i < σ1 154 0 → 0 ≤ σ1 151 (90 * 0 + i) ∧ σ1 151 (90 * 0 + i) ≤ 1000000) (hde : ∀ i : Int, 0 ≤ i → i < σ1 154 0 → 0 ≤ σ1 150 (90 * 0 + i) ∧ σ1 150 (90 * 0 + i) ≤ 1000000) (hsn : 0 ≤ σ1 155 0 ∧ σ1 155 0 ≤ 9999) {x : Int} (h0 : ¬ (1 ≤ x ∧ x ≤ 99) → Q (some (.inl (-1))) shM σ0) (h1 : 1 ≤ x → x ≤ 99 → Q (some (.inl (fCnt (fMg (fun j => σ1 150 (90 * 0 + j)) (fun j => σ1 151 (90 * 0 + j)) x) (σ1 154 0).toNat))) shM (sx_up (sx_mq (sx_mq σ1 151 (90 * 0) (σ1 154 0) (fMc (fun j => σ1 150 (90 * 0 + j)) (fun j => σ1 151 (90 * 0 + j)) x)) 150 (90 * 0) (σ1 154 0) (fMd (fun j => σ1 150 (90 * 0 + j)) (fun j => σ1 151 (90 * 0 + j)) x)) 155 0 (fMax0 (σ1 155 0 - x)))) : sx_Run X 248 [.inr (.inr 124), .inl x] shM σ Q := by
  have r30 := pt_124_30 hT
  have r31 := pt_124_31 hT
  have r57 := pt_124_57 hT
  have r58 := pt_124_58 hT
  have r59 := pt_124_59 hT
  have r60 := pt_124_60 hT
  have r61 := pt_124_61 hT
  have r62 := pt_124_62 hT
  have r63 := pt_124_63 hT
  have r64 := pt_124_64 hT
  have r65 := pt_124_65 hT
  have r66 := pt_124_66 hT
  refine sx_rule0 (own := 12) (cd := kX12_thaw) (nL := 2) (by decide +kernel) (by decide +kernel) kX12_thaw_ok (by decide +kernel) (Nat.le_of_ble_eq_true rfl) 40 ?_
  conv => whnf
  refine ⟨(by first | assumption | rfl), ?_⟩
  try simp (disch := omega) only [Int.cast_ofNat_Int, up_s, up_a, up_i, mp_a, mp_ge, mq_a, mq_ge, cp_a, r30, r31, r57, r58, r59, r60, r61, r62, r63, r64, r65, r66]
  rw [← e0]
  conv => whnf
  refine ⟨Nat.le_of_ble_eq_true rfl, Nat.le_of_ble_eq_true rfl, ?_⟩
  refine c_Rin (fun g1 g2 => ?_) (fun g0 => ?_)
  · skip
    conv => whnf
    refine ⟨fun g => ?_, fun g => ?_⟩
    · skip
      conv => whnf
      refine ⟨(by first | assumption | rfl), ?_⟩
      try simp (disch := omega) only [Int.cast_ofNat_Int, up_s, up_a, up_i, mp_a, mp_ge, mq_a, mq_ge, cp_a, r30, r31, r57, r58, r59, r60, r61, r62, r63, r64, r65, r66]
      rw [← e1]
      conv => whnf
      refine ⟨Nat.le_of_ble_eq_true rfl, Nat.le_of_ble_eq_true rfl, (by first | assumption | rfl), ?_⟩
      refine c_Rthaws hT1 (Or.inl rfl) hn1 ⟨by omega, by omega⟩ hcv hde hsn ?_
      conv => whnf
      refine ⟨fun q9 => by first | (simp at q9; done) | omega, ?_⟩
      exact h1 (by omega) (by omega)
    · exact absurd g (by simp [sx_cc])
  · skip
    conv => whnf
    refine ⟨fun g => ?_, fun g => ?_⟩
    · exact absurd g (by simp [sx_cc])
    · skip
      conv => whnf
      refine ⟨fun q9 => by first | (simp at q9; done) | omega, ?_⟩
      exact h0 (by omega)
end SXW9
