/-! THE TELLER: lines (by wip/whole) -/
section SXP2
variable {X : sx_X} {Q : sx_R} {σ σ0 σ' σ1 σ2 : sx_S} {tx : Int → Int} {n9 p i : Int} {F : Option (Int × Int)}
def fBq (b : Prop) [Decidable b] (k s : Int) : Option (Int × Int) := if b then some (k, s) else none
theorem fBq_1 {b : Prop} [Decidable b] {k s : Int} (h : b) : fBq b k s = some (k, s) := if_pos h
theorem fBq_0 {b : Prop} [Decidable b] {k s : Int} (h : ¬ b) : fBq b k s = none := if_neg h
theorem cell_bd {w h x y : Int} (hw : 1 ≤ w ∧ w ≤ 8) (hh : 1 ≤ h ∧ h ≤ 6) (hx : 0 ≤ x ∧ x ≤ w - 1) (hy : 0 ≤ y ∧ y ≤ h - 1) : 0 ≤ y * w ∧ y * w ≤ 40 ∧ y * w + x < 48 ∧ y * w + x < w * h := by
  have h1 : 0 ≤ y * w := Int.mul_nonneg hy.1 (by omega)
  have h2 : y * w ≤ 5 * w := Int.mul_le_mul_of_nonneg_right (by omega) (by omega)
  have h3 : (y + 1) * w ≤ h * w := Int.mul_le_mul_of_nonneg_right (by omega) (by omega)
  have h4 : h * w = w * h := Int.mul_comm h w
  have h5 : (y + 1) * w = y * w + w := by rw [Int.add_mul]; omega
  omega
def zField (p : Int) (s : sx_S) (tx : Int → Int) (n9 i : Int) : Option (Int × Int) := (fBq (¬ s 32 6 = 0) 3 (kS tx n9 i)).or ((fBq (¬ s 32 9 = 0) 4 (kS tx n9 i)).or ((nF tx n9 1 8 (kE tx n9 i)).or (nF tx n9 1 6 (kE tx n9 (kE tx n9 i)))))
abbrev FZf (p a j : Int) : Prop := FNx a j ∨ (a = 32 ∧ j = 6) ∨ (a = p ∧ (j = 0 ∨ j = 1))
def zSeed (p : Int) (s : sx_S) (tx : Int → Int) (n9 i : Int) : Option (Int × Int) := (fBq (¬ s 32 8 = 0) 3 (kS tx n9 i)).or (nF tx n9 0 99999 (kE tx n9 i))
abbrev FZs (p a j : Int) : Prop := FNx a j ∨ (a = 32 ∧ j = 8) ∨ (a = p ∧ j = 13)
def zCell (p : Int) (s : sx_S) (tx : Int → Int) (n9 i : Int) : Int := nV tx n9 0 (s p 1 - 1) (kE tx n9 i) * s p 0 + nV tx n9 0 (s p 0 - 1) i
def zKind (p k : Int) (s : sx_S) (tx : Int → Int) (n9 i : Int) : Option (Int × Int) := (fBq (12 ≤ s 35 k) 2 (kS tx n9 i)).or ((nF tx n9 0 (s p 0 - 1) (kE tx n9 i)).or ((nF tx n9 0 (s p 1 - 1) (kE tx n9 (kE tx n9 i))).or (fBq (¬ s (p + 1) (zCell p s tx n9 (kE tx n9 i)) = 0) 3 (kS tx n9 (kE tx n9 (kE tx n9 i))))))
abbrev FZk (p k c a j : Int) : Prop := FNx a j ∨ (a = 32 ∧ j = 9) ∨ (a = p + 1 ∧ j = c) ∨ (a = 35 ∧ j = k)
/-- sizes and counts while a text is told -/
def wZ (p : Int) (s : sx_S) : Prop := (1 ≤ s p 0 ∧ s p 0 ≤ 8) ∧ (1 ≤ s p 1 ∧ s p 1 ≤ 6) ∧ (0 ≤ s p 4 ∧ s p 4 ≤ 3) ∧ (0 ≤ s p 6 ∧ s p 6 ≤ 5) ∧ (0 ≤ s 35 1 ∧ s 35 1 ≤ 12) ∧ (0 ≤ s 35 2 ∧ s 35 2 ≤ 12)
theorem zCell_bd (h : wZ p σ) : 0 ≤ zCell p σ tx n9 i ∧ zCell p σ tx n9 i < 48 ∧ zCell p σ tx n9 i < σ p 0 * σ p 1 := by
  have h1 := nV_bd (tx := tx) (n9 := n9) (i := i) (lo := 0) (hi := σ p 0 - 1) (by have := h.1; omega)
  have h2 := nV_bd (tx := tx) (n9 := n9) (i := kE tx n9 i) (lo := 0) (hi := σ p 1 - 1) (by have := h.2.1; omega)
  have h3 := cell_bd h.1 h.2.1 h1 h2
  show 0 ≤ nV tx n9 0 (σ p 1 - 1) (kE tx n9 i) * σ p 0 + nV tx n9 0 (σ p 0 - 1) i ∧ nV tx n9 0 (σ p 1 - 1) (kE tx n9 i) * σ p 0 + nV tx n9 0 (σ p 0 - 1) i < 48 ∧ nV tx n9 0 (σ p 1 - 1) (kE tx n9 i) * σ p 0 + nV tx n9 0 (σ p 0 - 1) i < σ p 0 * σ p 1
  omega
theorem ptP_c {σ : sx_S} {p : Int} (h : PT σ) (hp : isP p) : σ (p + 9) 0 = p + 10 := by
  rcases hp with rfl | rfl
  · exact pt_11_0 h
  · exact pt_26_0 h
set_option maxRecDepth 20000 in
theorem c_Tfield (hw : sx_WT X) (hq : cQ p σ tx n9 i none) (h : ∀ σ', fr (FZf p) σ σ' → cQ p σ' tx n9 (kE tx n9 (kE tx n9 (kE tx n9 i))) (zField p σ tx n9 i) → σ' 32 6 = 1 → σ' p 0 = nV tx n9 1 8 (kE tx n9 i) → σ' p 1 = nV tx n9 1 6 (kE tx n9 (kE tx n9 i)) → Q none shM σ') : sx_Run X 106 [.inr (.inr 32)] shM σ Q := by
  have hp : 2 ≤ p ∧ p ≤ 17 := by rcases hq.ip with rfl | rfl <;> decide
  have k0 := lkP0 hq.1
  have k1 := lkP1 hq.1
  have k2 := lkP2 hq.1
  have k3 := lkP3 hq.1
  have k4 := lkP4 hq.1
  have k5 := lkP5 hq.1
  have k6 := lkP6 hq.1
  have k7 := lkP7 hq.1
  have k8 := lkP8 hq.1
  have k9 := lkP9 hq.1
  have k10 := lkP10 hq.1
  have k11 := lkP11 hq.1
  have k12 := lkP12 hq.1
  have k13 := lkP13 hq.1
  have k14 := lkP14 hq.1
  skip
  have t3 := pt_32_3 hq.pt
  have t4 := hq.ep
  have t5 := pt_32_5 hq.pt
  refine sx_rule0 (own := 10) (cd := kX10_tellField) (nL := 1) (by decide +kernel) (by decide +kernel) kX10_tellField_ok (by decide +kernel) (Nat.le_of_ble_eq_true rfl) 40 ?_
  conv => whnf
  refine ⟨(by first | assumption | rfl), ?_⟩
  try simp (disch := omega) only [Int.cast_ofNat_Int, up_s, up_a, up_i, mp_a, mp_ge]
  try simp only [t3]
  try simp only [t4]
  try simp only [t5]
  try simp only [m2]
  try simp only [m3]
  try simp only [m5]
  try simp only [m7]
  try simp only [m8]
  try simp only [m9]
  try simp only [m10]
  try simp only [m11]
  try simp only [m12]
  try simp only [mc]
  try simp only [lk_35]
  try simp only [w0]
  try simp only [w1]
  try simp only [w4]
  try simp only [w6]
  conv => whnf
  refine ⟨fun g => ?_, fun g => ?_⟩
  · simp only [sx_cc, Classical.not_not] at g
    have f9 := fBq_0 (k := 3) (s := kS tx n9 (i)) (b := ¬ σ 32 6 = 0) (by omega)
    obtain ⟨σ3, e9, hf3, hq3⟩ : ∃ s9, σ = s9 ∧ fr FFl σ s9 ∧ cQ p s9 tx n9 (i) (Option.or none (fBq (¬ σ 32 6 = 0) 3 (kS tx n9 (i)))) := ⟨σ, rfl, fun _ _ _ => rfl, by rw [f9, Option.or_none]; exact hq⟩
    rw [e9]
    clear t3 t4 t5
    have t3 := pt_32_3 hq3.pt
    have t4 := hq3.ep
    have t5 := pt_32_5 hq3.pt
    have v9 : σ3 32 9 = σ 32 9 := by repeat (first | rw [hf3 _ _ (by unfold FFl; omega)] | rw [up_n (by omega)])
    conv => whnf
    refine ⟨(by first | assumption | rfl), ?_⟩
    try simp (disch := omega) only [Int.cast_ofNat_Int, up_s, up_a, up_i, mp_a, mp_ge]
    try simp only [t3]
    try simp only [t4]
    try simp only [t5]
    try simp only [m2]
    try simp only [m3]
    try simp only [m5]
    try simp only [m7]
    try simp only [m8]
    try simp only [m9]
    try simp only [m10]
    try simp only [m11]
    try simp only [m12]
    try simp only [mc]
    try simp only [lk_35]
    try simp only [w0]
    try simp only [w1]
    try simp only [w4]
    try simp only [w6]
    conv => whnf
    refine ⟨fun g => ?_, fun g => ?_⟩
    · simp only [sx_cc, Classical.not_not] at g
      have f9 := fBq_0 (k := 4) (s := kS tx n9 (i)) (b := ¬ σ3 32 9 = 0) (by omega)
      obtain ⟨σ4, e9, hf4, hq4⟩ : ∃ s9, σ3 = s9 ∧ fr FFl σ3 s9 ∧ cQ p s9 tx n9 (i) (Option.or (Option.or none (fBq (¬ σ 32 6 = 0) 3 (kS tx n9 i))) (fBq (¬ σ3 32 9 = 0) 4 (kS tx n9 (i)))) := ⟨σ3, rfl, fun _ _ _ => rfl, by rw [f9, Option.or_none]; exact hq3⟩
      rw [e9]
      clear t3 t4 t5
      have t3 := pt_32_3 hq4.pt
      have t4 := hq4.ep
      have t5 := pt_32_5 hq4.pt
      conv => whnf
      refine ⟨(by first | assumption | rfl), by omega, ?_⟩
      try simp (disch := omega) only [Int.cast_ofNat_Int, up_s, up_a, up_i, mp_a, mp_ge]
      try simp only [t3]
      try simp only [t4]
      try simp only [t5]
      try simp only [m2]
      try simp only [m3]
      try simp only [m5]
      try simp only [m7]
      try simp only [m8]
      try simp only [m9]
      try simp only [m10]
      try simp only [m11]
      try simp only [m12]
      try simp only [mc]
      try simp only [lk_35]
      try simp only [w0]
      try simp only [w1]
      try simp only [w4]
      try simp only [w6]
      conv => whnf
      refine ⟨(by first | assumption | rfl), ?_⟩
      try simp (disch := omega) only [Int.cast_ofNat_Int, up_s, up_a, up_i, mp_a, mp_ge]
      try simp only [t3]
      try simp only [t4]
      try simp only [t5]
      try simp only [m2]
      try simp only [m3]
      try simp only [m5]
      try simp only [m7]
      try simp only [m8]
      try simp only [m9]
      try simp only [m10]
      try simp only [m11]
      try simp only [m12]
      try simp only [mc]
      try simp only [lk_35]
      try simp only [w0]
      try simp only [w1]
      try simp only [w4]
      try simp only [w6]
      conv => whnf
      refine ⟨Nat.le_of_ble_eq_true rfl, Nat.le_of_ble_eq_true rfl, (by first | assumption | rfl), ?_⟩
      refine c_Tnxt hw (cQ_up hq4 (by unfold FPd; omega)) (by decide) (fun σ5 hf5 hq5 => ?_)
      clear t3 t4 t5
      have t3 := pt_32_3 hq5.pt
      have t4 := hq5.ep
      have t5 := pt_32_5 hq5.pt
      conv => whnf
      refine ⟨(by first | assumption | rfl), ?_⟩
      try simp (disch := omega) only [Int.cast_ofNat_Int, up_s, up_a, up_i, mp_a, mp_ge]
      try simp only [t3]
      try simp only [t4]
      try simp only [t5]
      try simp only [m2]
      try simp only [m3]
      try simp only [m5]
      try simp only [m7]
      try simp only [m8]
      try simp only [m9]
      try simp only [m10]
      try simp only [m11]
      try simp only [m12]
      try simp only [mc]
      try simp only [lk_35]
      try simp only [w0]
      try simp only [w1]
      try simp only [w4]
      try simp only [w6]
      conv => whnf
      refine ⟨(by first | assumption | rfl), ?_⟩
      try simp (disch := omega) only [Int.cast_ofNat_Int, up_s, up_a, up_i, mp_a, mp_ge]
      try simp only [t3]
      try simp only [t4]
      try simp only [t5]
      try simp only [m2]
      try simp only [m3]
      try simp only [m5]
      try simp only [m7]
      try simp only [m8]
      try simp only [m9]
      try simp only [m10]
      try simp only [m11]
      try simp only [m12]
      try simp only [mc]
      try simp only [lk_35]
      try simp only [w0]
      try simp only [w1]
      try simp only [w4]
      try simp only [w6]
      conv => whnf
      refine ⟨Nat.le_of_ble_eq_true rfl, Nat.le_of_ble_eq_true rfl, (by first | assumption | rfl), ?_⟩
      refine c_Tnxt hw (cQ_up hq5 (by unfold FPd; omega)) (by decide) (fun σ6 hf6 hq6 => ?_)
      clear t3 t4 t5
      have t3 := pt_32_3 hq6.pt
      have t4 := hq6.ep
      have t5 := pt_32_5 hq6.pt
      conv => whnf
      refine ⟨(by first | assumption | rfl), ?_⟩
      try simp (disch := omega) only [Int.cast_ofNat_Int, up_s, up_a, up_i, mp_a, mp_ge]
      try simp only [t3]
      try simp only [t4]
      try simp only [t5]
      try simp only [m2]
      try simp only [m3]
      try simp only [m5]
      try simp only [m7]
      try simp only [m8]
      try simp only [m9]
      try simp only [m10]
      try simp only [m11]
      try simp only [m12]
      try simp only [mc]
      try simp only [lk_35]
      try simp only [w0]
      try simp only [w1]
      try simp only [w4]
      try simp only [w6]
      conv => whnf
      refine ⟨(by first | assumption | rfl), ?_⟩
      try simp (disch := omega) only [Int.cast_ofNat_Int, up_s, up_a, up_i, mp_a, mp_ge]
      try simp only [t3]
      try simp only [t4]
      try simp only [t5]
      try simp only [m2]
      try simp only [m3]
      try simp only [m5]
      try simp only [m7]
      try simp only [m8]
      try simp only [m9]
      try simp only [m10]
      try simp only [m11]
      try simp only [m12]
      try simp only [mc]
      try simp only [lk_35]
      try simp only [w0]
      try simp only [w1]
      try simp only [w4]
      try simp only [w6]
      conv => whnf
      refine ⟨Nat.le_of_ble_eq_true rfl, Nat.le_of_ble_eq_true rfl, (by first | assumption | rfl), ?_⟩
      refine c_Tadv hw (cQ_up hq6 (by unfold FPd; omega)) (fun σ7 hf7 hq7 => ?_)
      conv => whnf
      refine ⟨rfl, ?_⟩
      rw [v9] at hq7
      refine h _ (fun a j z9 => by unfold FZf FNx at z9; repeat (first | rw [hf7 _ _ (by unfold FXa; omega)] | rw [hf6 _ _ (by unfold FNx; omega)] | rw [hf5 _ _ (by unfold FNx; omega)] | rw [hf4 _ _ (by unfold FFl; omega)] | rw [hf3 _ _ (by unfold FFl; omega)] | rw [up_n (by omega)])) (by unfold zField; simpa only [Option.none_or, Option.or_assoc] using hq7) (by repeat (first | rw [up_s] | rw [hf7 _ _ (by unfold FXa; omega)] | rw [hf6 _ _ (by unfold FNx; omega)] | rw [hf5 _ _ (by unfold FNx; omega)] | rw [hf4 _ _ (by unfold FFl; omega)] | rw [hf3 _ _ (by unfold FFl; omega)] | rw [up_n (by omega)])) (by repeat (first | rw [up_s] | rw [hf7 _ _ (by unfold FXa; omega)] | rw [hf6 _ _ (by unfold FNx; omega)] | rw [hf5 _ _ (by unfold FNx; omega)] | rw [hf4 _ _ (by unfold FFl; omega)] | rw [hf3 _ _ (by unfold FFl; omega)] | rw [up_n (by omega)])) (by repeat (first | rw [up_s] | rw [hf7 _ _ (by unfold FXa; omega)] | rw [hf6 _ _ (by unfold FNx; omega)] | rw [hf5 _ _ (by unfold FNx; omega)] | rw [hf4 _ _ (by unfold FFl; omega)] | rw [hf3 _ _ (by unfold FFl; omega)] | rw [up_n (by omega)]))
    · simp only [sx_cc, Classical.not_not] at g
      have f9 := fBq_1 (k := 4) (s := kS tx n9 (i)) (b := ¬ σ3 32 9 = 0) (by omega)
      conv => whnf
      refine ⟨Nat.le_of_ble_eq_true rfl, Nat.le_of_ble_eq_true rfl, (by first | assumption | rfl), ?_⟩
      refine c_Tfail hq3 (by decide) (fun σ4 hf4 hq4 => ?_)
      rw [← f9] at hq4
      clear t3 t4 t5
      have t3 := pt_32_3 hq4.pt
      have t4 := hq4.ep
      have t5 := pt_32_5 hq4.pt
      conv => whnf
      refine ⟨(by first | assumption | rfl), by omega, ?_⟩
      try simp (disch := omega) only [Int.cast_ofNat_Int, up_s, up_a, up_i, mp_a, mp_ge]
      try simp only [t3]
      try simp only [t4]
      try simp only [t5]
      try simp only [m2]
      try simp only [m3]
      try simp only [m5]
      try simp only [m7]
      try simp only [m8]
      try simp only [m9]
      try simp only [m10]
      try simp only [m11]
      try simp only [m12]
      try simp only [mc]
      try simp only [lk_35]
      try simp only [w0]
      try simp only [w1]
      try simp only [w4]
      try simp only [w6]
      conv => whnf
      refine ⟨(by first | assumption | rfl), ?_⟩
      try simp (disch := omega) only [Int.cast_ofNat_Int, up_s, up_a, up_i, mp_a, mp_ge]
      try simp only [t3]
      try simp only [t4]
      try simp only [t5]
      try simp only [m2]
      try simp only [m3]
      try simp only [m5]
      try simp only [m7]
      try simp only [m8]
      try simp only [m9]
      try simp only [m10]
      try simp only [m11]
      try simp only [m12]
      try simp only [mc]
      try simp only [lk_35]
      try simp only [w0]
      try simp only [w1]
      try simp only [w4]
      try simp only [w6]
      conv => whnf
      refine ⟨Nat.le_of_ble_eq_true rfl, Nat.le_of_ble_eq_true rfl, (by first | assumption | rfl), ?_⟩
      refine c_Tnxt hw (cQ_up hq4 (by unfold FPd; omega)) (by decide) (fun σ5 hf5 hq5 => ?_)
      clear t3 t4 t5
      have t3 := pt_32_3 hq5.pt
      have t4 := hq5.ep
      have t5 := pt_32_5 hq5.pt
      conv => whnf
      refine ⟨(by first | assumption | rfl), ?_⟩
      try simp (disch := omega) only [Int.cast_ofNat_Int, up_s, up_a, up_i, mp_a, mp_ge]
      try simp only [t3]
      try simp only [t4]
      try simp only [t5]
      try simp only [m2]
      try simp only [m3]
      try simp only [m5]
      try simp only [m7]
      try simp only [m8]
      try simp only [m9]
      try simp only [m10]
      try simp only [m11]
      try simp only [m12]
      try simp only [mc]
      try simp only [lk_35]
      try simp only [w0]
      try simp only [w1]
      try simp only [w4]
      try simp only [w6]
      conv => whnf
      refine ⟨(by first | assumption | rfl), ?_⟩
      try simp (disch := omega) only [Int.cast_ofNat_Int, up_s, up_a, up_i, mp_a, mp_ge]
      try simp only [t3]
      try simp only [t4]
      try simp only [t5]
      try simp only [m2]
      try simp only [m3]
      try simp only [m5]
      try simp only [m7]
      try simp only [m8]
      try simp only [m9]
      try simp only [m10]
      try simp only [m11]
      try simp only [m12]
      try simp only [mc]
      try simp only [lk_35]
      try simp only [w0]
      try simp only [w1]
      try simp only [w4]
      try simp only [w6]
      conv => whnf
      refine ⟨Nat.le_of_ble_eq_true rfl, Nat.le_of_ble_eq_true rfl, (by first | assumption | rfl), ?_⟩
      refine c_Tnxt hw (cQ_up hq5 (by unfold FPd; omega)) (by decide) (fun σ6 hf6 hq6 => ?_)
      clear t3 t4 t5
      have t3 := pt_32_3 hq6.pt
      have t4 := hq6.ep
      have t5 := pt_32_5 hq6.pt
      conv => whnf
      refine ⟨(by first | assumption | rfl), ?_⟩
      try simp (disch := omega) only [Int.cast_ofNat_Int, up_s, up_a, up_i, mp_a, mp_ge]
      try simp only [t3]
      try simp only [t4]
      try simp only [t5]
      try simp only [m2]
      try simp only [m3]
      try simp only [m5]
      try simp only [m7]
      try simp only [m8]
      try simp only [m9]
      try simp only [m10]
      try simp only [m11]
      try simp only [m12]
      try simp only [mc]
      try simp only [lk_35]
      try simp only [w0]
      try simp only [w1]
      try simp only [w4]
      try simp only [w6]
      conv => whnf
      refine ⟨(by first | assumption | rfl), ?_⟩
      try simp (disch := omega) only [Int.cast_ofNat_Int, up_s, up_a, up_i, mp_a, mp_ge]
      try simp only [t3]
      try simp only [t4]
      try simp only [t5]
      try simp only [m2]
      try simp only [m3]
      try simp only [m5]
      try simp only [m7]
      try simp only [m8]
      try simp only [m9]
      try simp only [m10]
      try simp only [m11]
      try simp only [m12]
      try simp only [mc]
      try simp only [lk_35]
      try simp only [w0]
      try simp only [w1]
      try simp only [w4]
      try simp only [w6]
      conv => whnf
      refine ⟨Nat.le_of_ble_eq_true rfl, Nat.le_of_ble_eq_true rfl, (by first | assumption | rfl), ?_⟩
      refine c_Tadv hw (cQ_up hq6 (by unfold FPd; omega)) (fun σ7 hf7 hq7 => ?_)
      conv => whnf
      refine ⟨rfl, ?_⟩
      rw [v9] at hq7
      refine h _ (fun a j z9 => by unfold FZf FNx at z9; repeat (first | rw [hf7 _ _ (by unfold FXa; omega)] | rw [hf6 _ _ (by unfold FNx; omega)] | rw [hf5 _ _ (by unfold FNx; omega)] | rw [hf4 _ _ (by unfold FFl; omega)] | rw [hf3 _ _ (by unfold FFl; omega)] | rw [up_n (by omega)])) (by unfold zField; simpa only [Option.none_or, Option.or_assoc] using hq7) (by repeat (first | rw [up_s] | rw [hf7 _ _ (by unfold FXa; omega)] | rw [hf6 _ _ (by unfold FNx; omega)] | rw [hf5 _ _ (by unfold FNx; omega)] | rw [hf4 _ _ (by unfold FFl; omega)] | rw [hf3 _ _ (by unfold FFl; omega)] | rw [up_n (by omega)])) (by repeat (first | rw [up_s] | rw [hf7 _ _ (by unfold FXa; omega)] | rw [hf6 _ _ (by unfold FNx; omega)] | rw [hf5 _ _ (by unfold FNx; omega)] | rw [hf4 _ _ (by unfold FFl; omega)] | rw [hf3 _ _ (by unfold FFl; omega)] | rw [up_n (by omega)])) (by repeat (first | rw [up_s] | rw [hf7 _ _ (by unfold FXa; omega)] | rw [hf6 _ _ (by unfold FNx; omega)] | rw [hf5 _ _ (by unfold FNx; omega)] | rw [hf4 _ _ (by unfold FFl; omega)] | rw [hf3 _ _ (by unfold FFl; omega)] | rw [up_n (by omega)]))
  · simp only [sx_cc, Classical.not_not] at g
    have f9 := fBq_1 (k := 3) (s := kS tx n9 (i)) (b := ¬ σ 32 6 = 0) (by omega)
    conv => whnf
    refine ⟨Nat.le_of_ble_eq_true rfl, Nat.le_of_ble_eq_true rfl, (by first | assumption | rfl), ?_⟩
    refine c_Tfail hq (by decide) (fun σ3 hf3 hq3 => ?_)
    rw [← f9] at hq3
    clear t3 t4 t5
    have t3 := pt_32_3 hq3.pt
    have t4 := hq3.ep
    have t5 := pt_32_5 hq3.pt
    have v9 : σ3 32 9 = σ 32 9 := by repeat (first | rw [hf3 _ _ (by unfold FFl; omega)] | rw [up_n (by omega)])
    conv => whnf
    refine ⟨(by first | assumption | rfl), ?_⟩
    try simp (disch := omega) only [Int.cast_ofNat_Int, up_s, up_a, up_i, mp_a, mp_ge]
    try simp only [t3]
    try simp only [t4]
    try simp only [t5]
    try simp only [m2]
    try simp only [m3]
    try simp only [m5]
    try simp only [m7]
    try simp only [m8]
    try simp only [m9]
    try simp only [m10]
    try simp only [m11]
    try simp only [m12]
    try simp only [mc]
    try simp only [lk_35]
    try simp only [w0]
    try simp only [w1]
    try simp only [w4]
    try simp only [w6]
    conv => whnf
    refine ⟨fun g => ?_, fun g => ?_⟩
    · simp only [sx_cc, Classical.not_not] at g
      have f9 := fBq_0 (k := 4) (s := kS tx n9 (i)) (b := ¬ σ3 32 9 = 0) (by omega)
      obtain ⟨σ4, e9, hf4, hq4⟩ : ∃ s9, σ3 = s9 ∧ fr FFl σ3 s9 ∧ cQ p s9 tx n9 (i) (Option.or (Option.or none (fBq (¬ σ 32 6 = 0) 3 (kS tx n9 i))) (fBq (¬ σ3 32 9 = 0) 4 (kS tx n9 (i)))) := ⟨σ3, rfl, fun _ _ _ => rfl, by rw [f9, Option.or_none]; exact hq3⟩
      rw [e9]
      clear t3 t4 t5
      have t3 := pt_32_3 hq4.pt
      have t4 := hq4.ep
      have t5 := pt_32_5 hq4.pt
      conv => whnf
      refine ⟨(by first | assumption | rfl), by omega, ?_⟩
      try simp (disch := omega) only [Int.cast_ofNat_Int, up_s, up_a, up_i, mp_a, mp_ge]
      try simp only [t3]
      try simp only [t4]
      try simp only [t5]
      try simp only [m2]
      try simp only [m3]
      try simp only [m5]
      try simp only [m7]
      try simp only [m8]
      try simp only [m9]
      try simp only [m10]
      try simp only [m11]
      try simp only [m12]
      try simp only [mc]
      try simp only [lk_35]
      try simp only [w0]
      try simp only [w1]
      try simp only [w4]
      try simp only [w6]
      conv => whnf
      refine ⟨(by first | assumption | rfl), ?_⟩
      try simp (disch := omega) only [Int.cast_ofNat_Int, up_s, up_a, up_i, mp_a, mp_ge]
      try simp only [t3]
      try simp only [t4]
      try simp only [t5]
      try simp only [m2]
      try simp only [m3]
      try simp only [m5]
      try simp only [m7]
      try simp only [m8]
      try simp only [m9]
      try simp only [m10]
      try simp only [m11]
      try simp only [m12]
      try simp only [mc]
      try simp only [lk_35]
      try simp only [w0]
      try simp only [w1]
      try simp only [w4]
      try simp only [w6]
      conv => whnf
      refine ⟨Nat.le_of_ble_eq_true rfl, Nat.le_of_ble_eq_true rfl, (by first | assumption | rfl), ?_⟩
      refine c_Tnxt hw (cQ_up hq4 (by unfold FPd; omega)) (by decide) (fun σ5 hf5 hq5 => ?_)
      clear t3 t4 t5
      have t3 := pt_32_3 hq5.pt
      have t4 := hq5.ep
      have t5 := pt_32_5 hq5.pt
      conv => whnf
      refine ⟨(by first | assumption | rfl), ?_⟩
      try simp (disch := omega) only [Int.cast_ofNat_Int, up_s, up_a, up_i, mp_a, mp_ge]
      try simp only [t3]
      try simp only [t4]
      try simp only [t5]
      try simp only [m2]
      try simp only [m3]
      try simp only [m5]
      try simp only [m7]
      try simp only [m8]
      try simp only [m9]
      try simp only [m10]
      try simp only [m11]
      try simp only [m12]
      try simp only [mc]
      try simp only [lk_35]
      try simp only [w0]
      try simp only [w1]
      try simp only [w4]
      try simp only [w6]
      conv => whnf
      refine ⟨(by first | assumption | rfl), ?_⟩
      try simp (disch := omega) only [Int.cast_ofNat_Int, up_s, up_a, up_i, mp_a, mp_ge]
      try simp only [t3]
      try simp only [t4]
      try simp only [t5]
      try simp only [m2]
      try simp only [m3]
      try simp only [m5]
      try simp only [m7]
      try simp only [m8]
      try simp only [m9]
      try simp only [m10]
      try simp only [m11]
      try simp only [m12]
      try simp only [mc]
      try simp only [lk_35]
      try simp only [w0]
      try simp only [w1]
      try simp only [w4]
      try simp only [w6]
      conv => whnf
      refine ⟨Nat.le_of_ble_eq_true rfl, Nat.le_of_ble_eq_true rfl, (by first | assumption | rfl), ?_⟩
      refine c_Tnxt hw (cQ_up hq5 (by unfold FPd; omega)) (by decide) (fun σ6 hf6 hq6 => ?_)
      clear t3 t4 t5
      have t3 := pt_32_3 hq6.pt
      have t4 := hq6.ep
      have t5 := pt_32_5 hq6.pt
      conv => whnf
      refine ⟨(by first | assumption | rfl), ?_⟩
      try simp (disch := omega) only [Int.cast_ofNat_Int, up_s, up_a, up_i, mp_a, mp_ge]
      try simp only [t3]
      try simp only [t4]
      try simp only [t5]
      try simp only [m2]
      try simp only [m3]
      try simp only [m5]
      try simp only [m7]
      try simp only [m8]
      try simp only [m9]
      try simp only [m10]
      try simp only [m11]
      try simp only [m12]
      try simp only [mc]
      try simp only [lk_35]
      try simp only [w0]
      try simp only [w1]
      try simp only [w4]
      try simp only [w6]
      conv => whnf
      refine ⟨(by first | assumption | rfl), ?_⟩
      try simp (disch := omega) only [Int.cast_ofNat_Int, up_s, up_a, up_i, mp_a, mp_ge]
      try simp only [t3]
      try simp only [t4]
      try simp only [t5]
      try simp only [m2]
      try simp only [m3]
      try simp only [m5]
      try simp only [m7]
      try simp only [m8]
      try simp only [m9]
      try simp only [m10]
      try simp only [m11]
      try simp only [m12]
      try simp only [mc]
      try simp only [lk_35]
      try simp only [w0]
      try simp only [w1]
      try simp only [w4]
      try simp only [w6]
      conv => whnf
      refine ⟨Nat.le_of_ble_eq_true rfl, Nat.le_of_ble_eq_true rfl, (by first | assumption | rfl), ?_⟩
      refine c_Tadv hw (cQ_up hq6 (by unfold FPd; omega)) (fun σ7 hf7 hq7 => ?_)
      conv => whnf
      refine ⟨rfl, ?_⟩
      rw [v9] at hq7
      refine h _ (fun a j z9 => by unfold FZf FNx at z9; repeat (first | rw [hf7 _ _ (by unfold FXa; omega)] | rw [hf6 _ _ (by unfold FNx; omega)] | rw [hf5 _ _ (by unfold FNx; omega)] | rw [hf4 _ _ (by unfold FFl; omega)] | rw [hf3 _ _ (by unfold FFl; omega)] | rw [up_n (by omega)])) (by unfold zField; simpa only [Option.none_or, Option.or_assoc] using hq7) (by repeat (first | rw [up_s] | rw [hf7 _ _ (by unfold FXa; omega)] | rw [hf6 _ _ (by unfold FNx; omega)] | rw [hf5 _ _ (by unfold FNx; omega)] | rw [hf4 _ _ (by unfold FFl; omega)] | rw [hf3 _ _ (by unfold FFl; omega)] | rw [up_n (by omega)])) (by repeat (first | rw [up_s] | rw [hf7 _ _ (by unfold FXa; omega)] | rw [hf6 _ _ (by unfold FNx; omega)] | rw [hf5 _ _ (by unfold FNx; omega)] | rw [hf4 _ _ (by unfold FFl; omega)] | rw [hf3 _ _ (by unfold FFl; omega)] | rw [up_n (by omega)])) (by repeat (first | rw [up_s] | rw [hf7 _ _ (by unfold FXa; omega)] | rw [hf6 _ _ (by unfold FNx; omega)] | rw [hf5 _ _ (by unfold FNx; omega)] | rw [hf4 _ _ (by unfold FFl; omega)] | rw [hf3 _ _ (by unfold FFl; omega)] | rw [up_n (by omega)]))
    · simp only [sx_cc, Classical.not_not] at g
      have f9 := fBq_1 (k := 4) (s := kS tx n9 (i)) (b := ¬ σ3 32 9 = 0) (by omega)
      conv => whnf
      refine ⟨Nat.le_of_ble_eq_true rfl, Nat.le_of_ble_eq_true rfl, (by first | assumption | rfl), ?_⟩
      refine c_Tfail hq3 (by decide) (fun σ4 hf4 hq4 => ?_)
      rw [← f9] at hq4
      clear t3 t4 t5
      have t3 := pt_32_3 hq4.pt
      have t4 := hq4.ep
      have t5 := pt_32_5 hq4.pt
      conv => whnf
      refine ⟨(by first | assumption | rfl), by omega, ?_⟩
      try simp (disch := omega) only [Int.cast_ofNat_Int, up_s, up_a, up_i, mp_a, mp_ge]
      try simp only [t3]
      try simp only [t4]
      try simp only [t5]
      try simp only [m2]
      try simp only [m3]
      try simp only [m5]
      try simp only [m7]
      try simp only [m8]
      try simp only [m9]
      try simp only [m10]
      try simp only [m11]
      try simp only [m12]
      try simp only [mc]
      try simp only [lk_35]
      try simp only [w0]
      try simp only [w1]
      try simp only [w4]
      try simp only [w6]
      conv => whnf
      refine ⟨(by first | assumption | rfl), ?_⟩
      try simp (disch := omega) only [Int.cast_ofNat_Int, up_s, up_a, up_i, mp_a, mp_ge]
      try simp only [t3]
      try simp only [t4]
      try simp only [t5]
      try simp only [m2]
      try simp only [m3]
      try simp only [m5]
      try simp only [m7]
      try simp only [m8]
      try simp only [m9]
      try simp only [m10]
      try simp only [m11]
      try simp only [m12]
      try simp only [mc]
      try simp only [lk_35]
      try simp only [w0]
      try simp only [w1]
      try simp only [w4]
      try simp only [w6]
      conv => whnf
      refine ⟨Nat.le_of_ble_eq_true rfl, Nat.le_of_ble_eq_true rfl, (by first | assumption | rfl), ?_⟩
      refine c_Tnxt hw (cQ_up hq4 (by unfold FPd; omega)) (by decide) (fun σ5 hf5 hq5 => ?_)
      clear t3 t4 t5
      have t3 := pt_32_3 hq5.pt
      have t4 := hq5.ep
      have t5 := pt_32_5 hq5.pt
      conv => whnf
      refine ⟨(by first | assumption | rfl), ?_⟩
      try simp (disch := omega) only [Int.cast_ofNat_Int, up_s, up_a, up_i, mp_a, mp_ge]
      try simp only [t3]
      try simp only [t4]
      try simp only [t5]
      try simp only [m2]
      try simp only [m3]
      try simp only [m5]
      try simp only [m7]
      try simp only [m8]
      try simp only [m9]
      try simp only [m10]
      try simp only [m11]
      try simp only [m12]
      try simp only [mc]
      try simp only [lk_35]
      try simp only [w0]
      try simp only [w1]
      try simp only [w4]
      try simp only [w6]
      conv => whnf
      refine ⟨(by first | assumption | rfl), ?_⟩
      try simp (disch := omega) only [Int.cast_ofNat_Int, up_s, up_a, up_i, mp_a, mp_ge]
      try simp only [t3]
      try simp only [t4]
      try simp only [t5]
      try simp only [m2]
      try simp only [m3]
      try simp only [m5]
      try simp only [m7]
      try simp only [m8]
      try simp only [m9]
      try simp only [m10]
      try simp only [m11]
      try simp only [m12]
      try simp only [mc]
      try simp only [lk_35]
      try simp only [w0]
      try simp only [w1]
      try simp only [w4]
      try simp only [w6]
      conv => whnf
      refine ⟨Nat.le_of_ble_eq_true rfl, Nat.le_of_ble_eq_true rfl, (by first | assumption | rfl), ?_⟩
      refine c_Tnxt hw (cQ_up hq5 (by unfold FPd; omega)) (by decide) (fun σ6 hf6 hq6 => ?_)
      clear t3 t4 t5
      have t3 := pt_32_3 hq6.pt
      have t4 := hq6.ep
      have t5 := pt_32_5 hq6.pt
      conv => whnf
      refine ⟨(by first | assumption | rfl), ?_⟩
      try simp (disch := omega) only [Int.cast_ofNat_Int, up_s, up_a, up_i, mp_a, mp_ge]
      try simp only [t3]
      try simp only [t4]
      try simp only [t5]
      try simp only [m2]
      try simp only [m3]
      try simp only [m5]
      try simp only [m7]
      try simp only [m8]
      try simp only [m9]
      try simp only [m10]
      try simp only [m11]
      try simp only [m12]
      try simp only [mc]
      try simp only [lk_35]
      try simp only [w0]
      try simp only [w1]
      try simp only [w4]
      try simp only [w6]
      conv => whnf
      refine ⟨(by first | assumption | rfl), ?_⟩
      try simp (disch := omega) only [Int.cast_ofNat_Int, up_s, up_a, up_i, mp_a, mp_ge]
      try simp only [t3]
      try simp only [t4]
      try simp only [t5]
      try simp only [m2]
      try simp only [m3]
      try simp only [m5]
      try simp only [m7]
      try simp only [m8]
      try simp only [m9]
      try simp only [m10]
      try simp only [m11]
      try simp only [m12]
      try simp only [mc]
      try simp only [lk_35]
      try simp only [w0]
      try simp only [w1]
      try simp only [w4]
      try simp only [w6]
      conv => whnf
      refine ⟨Nat.le_of_ble_eq_true rfl, Nat.le_of_ble_eq_true rfl, (by first | assumption | rfl), ?_⟩
      refine c_Tadv hw (cQ_up hq6 (by unfold FPd; omega)) (fun σ7 hf7 hq7 => ?_)
      conv => whnf
      refine ⟨rfl, ?_⟩
      rw [v9] at hq7
      refine h _ (fun a j z9 => by unfold FZf FNx at z9; repeat (first | rw [hf7 _ _ (by unfold FXa; omega)] | rw [hf6 _ _ (by unfold FNx; omega)] | rw [hf5 _ _ (by unfold FNx; omega)] | rw [hf4 _ _ (by unfold FFl; omega)] | rw [hf3 _ _ (by unfold FFl; omega)] | rw [up_n (by omega)])) (by unfold zField; simpa only [Option.none_or, Option.or_assoc] using hq7) (by repeat (first | rw [up_s] | rw [hf7 _ _ (by unfold FXa; omega)] | rw [hf6 _ _ (by unfold FNx; omega)] | rw [hf5 _ _ (by unfold FNx; omega)] | rw [hf4 _ _ (by unfold FFl; omega)] | rw [hf3 _ _ (by unfold FFl; omega)] | rw [up_n (by omega)])) (by repeat (first | rw [up_s] | rw [hf7 _ _ (by unfold FXa; omega)] | rw [hf6 _ _ (by unfold FNx; omega)] | rw [hf5 _ _ (by unfold FNx; omega)] | rw [hf4 _ _ (by unfold FFl; omega)] | rw [hf3 _ _ (by unfold FFl; omega)] | rw [up_n (by omega)])) (by repeat (first | rw [up_s] | rw [hf7 _ _ (by unfold FXa; omega)] | rw [hf6 _ _ (by unfold FNx; omega)] | rw [hf5 _ _ (by unfold FNx; omega)] | rw [hf4 _ _ (by unfold FFl; omega)] | rw [hf3 _ _ (by unfold FFl; omega)] | rw [up_n (by omega)]))
set_option maxRecDepth 20000 in
theorem c_Tseed (hw : sx_WT X) (hq : cQ p σ tx n9 i none) (h : ∀ σ', fr (FZs p) σ σ' → cQ p σ' tx n9 (kE tx n9 (kE tx n9 i)) (zSeed p σ tx n9 i) → σ' 32 8 = 1 → σ' p 13 = nV tx n9 0 99999 (kE tx n9 i) → Q none shM σ') : sx_Run X 111 [.inr (.inr 32)] shM σ Q := by
  have hp : 2 ≤ p ∧ p ≤ 17 := by rcases hq.ip with rfl | rfl <;> decide
  have k0 := lkP0 hq.1
  have k1 := lkP1 hq.1
  have k2 := lkP2 hq.1
  have k3 := lkP3 hq.1
  have k4 := lkP4 hq.1
  have k5 := lkP5 hq.1
  have k6 := lkP6 hq.1
  have k7 := lkP7 hq.1
  have k8 := lkP8 hq.1
  have k9 := lkP9 hq.1
  have k10 := lkP10 hq.1
  have k11 := lkP11 hq.1
  have k12 := lkP12 hq.1
  have k13 := lkP13 hq.1
  have k14 := lkP14 hq.1
  skip
  have t3 := pt_32_3 hq.pt
  have t4 := hq.ep
  have t5 := pt_32_5 hq.pt
  refine sx_rule0 (own := 10) (cd := kX10_tellSeed) (nL := 1) (by decide +kernel) (by decide +kernel) kX10_tellSeed_ok (by decide +kernel) (Nat.le_of_ble_eq_true rfl) 40 ?_
  conv => whnf
  refine ⟨(by first | assumption | rfl), ?_⟩
  try simp (disch := omega) only [Int.cast_ofNat_Int, up_s, up_a, up_i, mp_a, mp_ge]
  try simp only [t3]
  try simp only [t4]
  try simp only [t5]
  try simp only [m2]
  try simp only [m3]
  try simp only [m5]
  try simp only [m7]
  try simp only [m8]
  try simp only [m9]
  try simp only [m10]
  try simp only [m11]
  try simp only [m12]
  try simp only [mc]
  try simp only [lk_35]
  try simp only [w0]
  try simp only [w1]
  try simp only [w4]
  try simp only [w6]
  conv => whnf
  refine ⟨fun g => ?_, fun g => ?_⟩
  · simp only [sx_cc, Classical.not_not] at g
    have f9 := fBq_0 (k := 3) (s := kS tx n9 (i)) (b := ¬ σ 32 8 = 0) (by omega)
    obtain ⟨σ3, e9, hf3, hq3⟩ : ∃ s9, σ = s9 ∧ fr FFl σ s9 ∧ cQ p s9 tx n9 (i) (Option.or none (fBq (¬ σ 32 8 = 0) 3 (kS tx n9 (i)))) := ⟨σ, rfl, fun _ _ _ => rfl, by rw [f9, Option.or_none]; exact hq⟩
    rw [e9]
    clear t3 t4 t5
    have t3 := pt_32_3 hq3.pt
    have t4 := hq3.ep
    have t5 := pt_32_5 hq3.pt
    conv => whnf
    refine ⟨(by first | assumption | rfl), by omega, ?_⟩
    try simp (disch := omega) only [Int.cast_ofNat_Int, up_s, up_a, up_i, mp_a, mp_ge]
    try simp only [t3]
    try simp only [t4]
    try simp only [t5]
    try simp only [m2]
    try simp only [m3]
    try simp only [m5]
    try simp only [m7]
    try simp only [m8]
    try simp only [m9]
    try simp only [m10]
    try simp only [m11]
    try simp only [m12]
    try simp only [mc]
    try simp only [lk_35]
    try simp only [w0]
    try simp only [w1]
    try simp only [w4]
    try simp only [w6]
    conv => whnf
    refine ⟨(by first | assumption | rfl), ?_⟩
    try simp (disch := omega) only [Int.cast_ofNat_Int, up_s, up_a, up_i, mp_a, mp_ge]
    try simp only [t3]
    try simp only [t4]
    try simp only [t5]
    try simp only [m2]
    try simp only [m3]
    try simp only [m5]
    try simp only [m7]
    try simp only [m8]
    try simp only [m9]
    try simp only [m10]
    try simp only [m11]
    try simp only [m12]
    try simp only [mc]
    try simp only [lk_35]
    try simp only [w0]
    try simp only [w1]
    try simp only [w4]
    try simp only [w6]
    conv => whnf
    refine ⟨Nat.le_of_ble_eq_true rfl, Nat.le_of_ble_eq_true rfl, (by first | assumption | rfl), ?_⟩
    refine c_Tnxt hw (cQ_up hq3 (by unfold FPd; omega)) (lo := 0) (hi := 99999) (by decide) (fun σ5 hf5 hq5 => ?_)
    clear t3 t4 t5
    have t3 := pt_32_3 hq5.pt
    have t4 := hq5.ep
    have t5 := pt_32_5 hq5.pt
    conv => whnf
    refine ⟨(by first | assumption | rfl), ?_⟩
    try simp (disch := omega) only [Int.cast_ofNat_Int, up_s, up_a, up_i, mp_a, mp_ge]
    try simp only [t3]
    try simp only [t4]
    try simp only [t5]
    try simp only [m2]
    try simp only [m3]
    try simp only [m5]
    try simp only [m7]
    try simp only [m8]
    try simp only [m9]
    try simp only [m10]
    try simp only [m11]
    try simp only [m12]
    try simp only [mc]
    try simp only [lk_35]
    try simp only [w0]
    try simp only [w1]
    try simp only [w4]
    try simp only [w6]
    conv => whnf
    refine ⟨(by first | assumption | rfl), ?_⟩
    try simp (disch := omega) only [Int.cast_ofNat_Int, up_s, up_a, up_i, mp_a, mp_ge]
    try simp only [t3]
    try simp only [t4]
    try simp only [t5]
    try simp only [m2]
    try simp only [m3]
    try simp only [m5]
    try simp only [m7]
    try simp only [m8]
    try simp only [m9]
    try simp only [m10]
    try simp only [m11]
    try simp only [m12]
    try simp only [mc]
    try simp only [lk_35]
    try simp only [w0]
    try simp only [w1]
    try simp only [w4]
    try simp only [w6]
    conv => whnf
    refine ⟨Nat.le_of_ble_eq_true rfl, Nat.le_of_ble_eq_true rfl, (by first | assumption | rfl), ?_⟩
    refine c_Tadv hw (cQ_up hq5 (by unfold FPd; omega)) (fun σ7 hf7 hq7 => ?_)
    conv => whnf
    refine ⟨rfl, ?_⟩
    refine h _ (fun a j z9 => by unfold FZs FNx at z9; repeat (first | rw [hf7 _ _ (by unfold FXa; omega)] | rw [hf5 _ _ (by unfold FNx; omega)] | rw [hf3 _ _ (by unfold FFl; omega)] | rw [up_n (by omega)])) (by unfold zSeed; simpa only [Option.none_or, Option.or_assoc] using hq7) (by repeat (first | rw [up_s] | rw [hf7 _ _ (by unfold FXa; omega)] | rw [hf5 _ _ (by unfold FNx; omega)] | rw [hf3 _ _ (by unfold FFl; omega)] | rw [up_n (by omega)])) (by repeat (first | rw [up_s] | rw [hf7 _ _ (by unfold FXa; omega)] | rw [hf5 _ _ (by unfold FNx; omega)] | rw [hf3 _ _ (by unfold FFl; omega)] | rw [up_n (by omega)]))
  · simp only [sx_cc, Classical.not_not] at g
    have f9 := fBq_1 (k := 3) (s := kS tx n9 (i)) (b := ¬ σ 32 8 = 0) (by omega)
    conv => whnf
    refine ⟨Nat.le_of_ble_eq_true rfl, Nat.le_of_ble_eq_true rfl, (by first | assumption | rfl), ?_⟩
    refine c_Tfail hq (by decide) (fun σ3 hf3 hq3 => ?_)
    rw [← f9] at hq3
    clear t3 t4 t5
    have t3 := pt_32_3 hq3.pt
    have t4 := hq3.ep
    have t5 := pt_32_5 hq3.pt
    conv => whnf
    refine ⟨(by first | assumption | rfl), by omega, ?_⟩
    try simp (disch := omega) only [Int.cast_ofNat_Int, up_s, up_a, up_i, mp_a, mp_ge]
    try simp only [t3]
    try simp only [t4]
    try simp only [t5]
    try simp only [m2]
    try simp only [m3]
    try simp only [m5]
    try simp only [m7]
    try simp only [m8]
    try simp only [m9]
    try simp only [m10]
    try simp only [m11]
    try simp only [m12]
    try simp only [mc]
    try simp only [lk_35]
    try simp only [w0]
    try simp only [w1]
    try simp only [w4]
    try simp only [w6]
    conv => whnf
    refine ⟨(by first | assumption | rfl), ?_⟩
    try simp (disch := omega) only [Int.cast_ofNat_Int, up_s, up_a, up_i, mp_a, mp_ge]
    try simp only [t3]
    try simp only [t4]
    try simp only [t5]
    try simp only [m2]
    try simp only [m3]
    try simp only [m5]
    try simp only [m7]
    try simp only [m8]
    try simp only [m9]
    try simp only [m10]
    try simp only [m11]
    try simp only [m12]
    try simp only [mc]
    try simp only [lk_35]
    try simp only [w0]
    try simp only [w1]
    try simp only [w4]
    try simp only [w6]
    conv => whnf
    refine ⟨Nat.le_of_ble_eq_true rfl, Nat.le_of_ble_eq_true rfl, (by first | assumption | rfl), ?_⟩
    refine c_Tnxt hw (cQ_up hq3 (by unfold FPd; omega)) (lo := 0) (hi := 99999) (by decide) (fun σ5 hf5 hq5 => ?_)
    clear t3 t4 t5
    have t3 := pt_32_3 hq5.pt
    have t4 := hq5.ep
    have t5 := pt_32_5 hq5.pt
    conv => whnf
    refine ⟨(by first | assumption | rfl), ?_⟩
    try simp (disch := omega) only [Int.cast_ofNat_Int, up_s, up_a, up_i, mp_a, mp_ge]
    try simp only [t3]
    try simp only [t4]
    try simp only [t5]
    try simp only [m2]
    try simp only [m3]
    try simp only [m5]
    try simp only [m7]
    try simp only [m8]
    try simp only [m9]
    try simp only [m10]
    try simp only [m11]
    try simp only [m12]
    try simp only [mc]
    try simp only [lk_35]
    try simp only [w0]
    try simp only [w1]
    try simp only [w4]
    try simp only [w6]
    conv => whnf
    refine ⟨(by first | assumption | rfl), ?_⟩
    try simp (disch := omega) only [Int.cast_ofNat_Int, up_s, up_a, up_i, mp_a, mp_ge]
    try simp only [t3]
    try simp only [t4]
    try simp only [t5]
    try simp only [m2]
    try simp only [m3]
    try simp only [m5]
    try simp only [m7]
    try simp only [m8]
    try simp only [m9]
    try simp only [m10]
    try simp only [m11]
    try simp only [m12]
    try simp only [mc]
    try simp only [lk_35]
    try simp only [w0]
    try simp only [w1]
    try simp only [w4]
    try simp only [w6]
    conv => whnf
    refine ⟨Nat.le_of_ble_eq_true rfl, Nat.le_of_ble_eq_true rfl, (by first | assumption | rfl), ?_⟩
    refine c_Tadv hw (cQ_up hq5 (by unfold FPd; omega)) (fun σ7 hf7 hq7 => ?_)
    conv => whnf
    refine ⟨rfl, ?_⟩
    refine h _ (fun a j z9 => by unfold FZs FNx at z9; repeat (first | rw [hf7 _ _ (by unfold FXa; omega)] | rw [hf5 _ _ (by unfold FNx; omega)] | rw [hf3 _ _ (by unfold FFl; omega)] | rw [up_n (by omega)])) (by unfold zSeed; simpa only [Option.none_or, Option.or_assoc] using hq7) (by repeat (first | rw [up_s] | rw [hf7 _ _ (by unfold FXa; omega)] | rw [hf5 _ _ (by unfold FNx; omega)] | rw [hf3 _ _ (by unfold FFl; omega)] | rw [up_n (by omega)])) (by repeat (first | rw [up_s] | rw [hf7 _ _ (by unfold FXa; omega)] | rw [hf5 _ _ (by unfold FNx; omega)] | rw [hf3 _ _ (by unfold FFl; omega)] | rw [up_n (by omega)]))
set_option maxRecDepth 20000 in
theorem c_Tkind (hw : sx_WT X) (hq : cQ p σ tx n9 i none) (wz : wZ p σ) {k : Int} (hk : k = 1 ∨ k = 2) (h : ∀ σ', fr (FZk p k (zCell p σ tx n9 (kE tx n9 i))) σ σ' → cQ p σ' tx n9 (kE tx n9 (kE tx n9 (kE tx n9 i))) (zKind p k σ tx n9 i) → σ' 32 9 = 1 → σ' (p + 1) (zCell p σ tx n9 (kE tx n9 i)) = k → σ' 35 k = σ 35 k + 1 → Q none shM σ') : sx_Run X 107 [.inr (.inr 32), .inl k] shM σ Q := by
  have hp : 2 ≤ p ∧ p ≤ 17 := by rcases hq.ip with rfl | rfl <;> decide
  have k0 := lkP0 hq.1
  have k1 := lkP1 hq.1
  have k2 := lkP2 hq.1
  have k3 := lkP3 hq.1
  have k4 := lkP4 hq.1
  have k5 := lkP5 hq.1
  have k6 := lkP6 hq.1
  have k7 := lkP7 hq.1
  have k8 := lkP8 hq.1
  have k9 := lkP9 hq.1
  have k10 := lkP10 hq.1
  have k11 := lkP11 hq.1
  have k12 := lkP12 hq.1
  have k13 := lkP13 hq.1
  have k14 := lkP14 hq.1
  skip
  have t3 := pt_32_3 hq.pt
  have t4 := hq.ep
  have t5 := pt_32_5 hq.pt
  have m2 := ptP_2 hq.pt hq.1
  obtain ⟨z0, z1, z2, z3, z4, z5⟩ := wz
  have wz : wZ p σ := ⟨z0, z1, z2, z3, z4, z5⟩
  have zk : 0 ≤ σ 35 k ∧ σ 35 k ≤ 12 := by rcases hk with rfl | rfl; exact z4; exact z5
  have zx := nV_bd (tx := tx) (n9 := n9) (i := kE tx n9 i) (lo := 0) (hi := σ p 0 - 1) (by omega)
  have zy := nV_bd (tx := tx) (n9 := n9) (i := (kE tx n9 (kE tx n9 i))) (lo := 0) (hi := σ p 1 - 1) (by omega)
  have zcb := cell_bd z0 z1 zx zy
  refine sx_rule0 (own := 10) (cd := kX10_tellKind) (nL := 5) (by decide +kernel) (by decide +kernel) kX10_tellKind_ok (by decide +kernel) (Nat.le_of_ble_eq_true rfl) 40 ?_
  conv => whnf
  refine ⟨(by first | assumption | rfl), ?_⟩
  try simp (disch := omega) only [Int.cast_ofNat_Int, up_s, up_a, up_i, mp_a, mp_ge]
  try simp only [t3]
  try simp only [t4]
  try simp only [t5]
  try simp only [m2]
  try simp only [m3]
  try simp only [m5]
  try simp only [m7]
  try simp only [m8]
  try simp only [m9]
  try simp only [m10]
  try simp only [m11]
  try simp only [m12]
  try simp only [mc]
  try simp only [lk_35]
  try simp only [w0]
  try simp only [w1]
  try simp only [wk]
  try simp only [zc]
  conv => whnf
  refine ⟨sx_ixI (by first | assumption | rfl) (by omega) (by omega), ?_⟩
  try simp (disch := omega) only [Int.cast_ofNat_Int, up_s, up_a, up_i, mp_a, mp_ge]
  try simp only [t3]
  try simp only [t4]
  try simp only [t5]
  try simp only [m2]
  try simp only [m3]
  try simp only [m5]
  try simp only [m7]
  try simp only [m8]
  try simp only [m9]
  try simp only [m10]
  try simp only [m11]
  try simp only [m12]
  try simp only [mc]
  try simp only [lk_35]
  try simp only [w0]
  try simp only [w1]
  try simp only [wk]
  try simp only [zc]
  conv => whnf
  refine ⟨fun g => ?_, fun g => ?_⟩
  · simp only [sx_cc, Classical.not_not] at g
    have f9 := fBq_0 (k := 2) (s := kS tx n9 (i)) (b := 12 ≤ σ 35 k) (by omega)
    obtain ⟨σ3, e9, hf3, hq3⟩ : ∃ s9, σ = s9 ∧ fr FFl σ s9 ∧ cQ p s9 tx n9 (i) (Option.or none (fBq (12 ≤ σ 35 k) 2 (kS tx n9 (i)))) := ⟨σ, rfl, fun _ _ _ => rfl, by rw [f9, Option.or_none]; exact hq⟩
    rw [e9]
    clear t3 t4 t5 m2
    have t3 := pt_32_3 hq3.pt
    have t4 := hq3.ep
    have t5 := pt_32_5 hq3.pt
    have m2 := ptP_2 hq3.pt hq3.1
    have w0 : σ3 p 0 = σ p 0 := by repeat (first | rw [hf3 _ _ (by unfold FFl; omega)] | rw [up_n (by omega)])
    have w1 : σ3 p 1 = σ p 1 := by repeat (first | rw [hf3 _ _ (by unfold FFl; omega)] | rw [up_n (by omega)])
    have wk : σ3 35 k = σ 35 k := by repeat (first | rw [hf3 _ _ (by unfold FFl; omega)] | rw [up_n (by omega)])
    conv => whnf
    refine ⟨(by first | assumption | rfl), by omega, ?_⟩
    try simp (disch := omega) only [Int.cast_ofNat_Int, up_s, up_a, up_i, mp_a, mp_ge]
    try simp only [t3]
    try simp only [t4]
    try simp only [t5]
    try simp only [m2]
    try simp only [m3]
    try simp only [m5]
    try simp only [m7]
    try simp only [m8]
    try simp only [m9]
    try simp only [m10]
    try simp only [m11]
    try simp only [m12]
    try simp only [mc]
    try simp only [lk_35]
    try simp only [w0]
    try simp only [w1]
    try simp only [wk]
    try simp only [zc]
    conv => whnf
    refine ⟨(by first | assumption | rfl), ?_⟩
    try simp (disch := omega) only [Int.cast_ofNat_Int, up_s, up_a, up_i, mp_a, mp_ge]
    try simp only [t3]
    try simp only [t4]
    try simp only [t5]
    try simp only [m2]
    try simp only [m3]
    try simp only [m5]
    try simp only [m7]
    try simp only [m8]
    try simp only [m9]
    try simp only [m10]
    try simp only [m11]
    try simp only [m12]
    try simp only [mc]
    try simp only [lk_35]
    try simp only [w0]
    try simp only [w1]
    try simp only [wk]
    try simp only [zc]
    conv => whnf
    refine ⟨(by first | assumption | rfl), ?_⟩
    try simp (disch := omega) only [Int.cast_ofNat_Int, up_s, up_a, up_i, mp_a, mp_ge]
    try simp only [t3]
    try simp only [t4]
    try simp only [t5]
    try simp only [m2]
    try simp only [m3]
    try simp only [m5]
    try simp only [m7]
    try simp only [m8]
    try simp only [m9]
    try simp only [m10]
    try simp only [m11]
    try simp only [m12]
    try simp only [mc]
    try simp only [lk_35]
    try simp only [w0]
    try simp only [w1]
    try simp only [wk]
    try simp only [zc]
    conv => whnf
    refine ⟨⟨by omega, by omega⟩, ?_⟩
    conv => whnf
    refine ⟨Nat.le_of_ble_eq_true rfl, Nat.le_of_ble_eq_true rfl, (by first | assumption | rfl), ?_⟩
    refine c_Tnxt hw (cQ_up hq3 (by unfold FPd; omega)) (by omega) (fun σ4 hf4 hq4 => ?_)
    clear t3 t4 t5 m2
    have t3 := pt_32_3 hq4.pt
    have t4 := hq4.ep
    have t5 := pt_32_5 hq4.pt
    have m2 := ptP_2 hq4.pt hq4.1
    have w0 : σ4 p 0 = σ p 0 := by repeat (first | rw [hf4 _ _ (by unfold FNx; omega)] | rw [hf3 _ _ (by unfold FFl; omega)] | rw [up_n (by omega)])
    have w1 : σ4 p 1 = σ p 1 := by repeat (first | rw [hf4 _ _ (by unfold FNx; omega)] | rw [hf3 _ _ (by unfold FFl; omega)] | rw [up_n (by omega)])
    have wk : σ4 35 k = σ 35 k := by repeat (first | rw [hf4 _ _ (by unfold FNx; omega)] | rw [hf3 _ _ (by unfold FFl; omega)] | rw [up_n (by omega)])
    conv => whnf
    refine ⟨(by first | assumption | rfl), ?_⟩
    try simp (disch := omega) only [Int.cast_ofNat_Int, up_s, up_a, up_i, mp_a, mp_ge]
    try simp only [t3]
    try simp only [t4]
    try simp only [t5]
    try simp only [m2]
    try simp only [m3]
    try simp only [m5]
    try simp only [m7]
    try simp only [m8]
    try simp only [m9]
    try simp only [m10]
    try simp only [m11]
    try simp only [m12]
    try simp only [mc]
    try simp only [lk_35]
    try simp only [w0]
    try simp only [w1]
    try simp only [wk]
    try simp only [zc]
    conv => whnf
    refine ⟨(by first | assumption | rfl), ?_⟩
    try simp (disch := omega) only [Int.cast_ofNat_Int, up_s, up_a, up_i, mp_a, mp_ge]
    try simp only [t3]
    try simp only [t4]
    try simp only [t5]
    try simp only [m2]
    try simp only [m3]
    try simp only [m5]
    try simp only [m7]
    try simp only [m8]
    try simp only [m9]
    try simp only [m10]
    try simp only [m11]
    try simp only [m12]
    try simp only [mc]
    try simp only [lk_35]
    try simp only [w0]
    try simp only [w1]
    try simp only [wk]
    try simp only [zc]
    conv => whnf
    refine ⟨⟨by omega, by omega⟩, ?_⟩
    conv => whnf
    refine ⟨Nat.le_of_ble_eq_true rfl, Nat.le_of_ble_eq_true rfl, (by first | assumption | rfl), ?_⟩
    refine c_Tnxt hw hq4 (by omega) (fun σ5 hf5 hq5 => ?_)
    clear t3 t4 t5 m2
    have t3 := pt_32_3 hq5.pt
    have t4 := hq5.ep
    have t5 := pt_32_5 hq5.pt
    have m2 := ptP_2 hq5.pt hq5.1
    have w0 : σ5 p 0 = σ p 0 := by repeat (first | rw [hf5 _ _ (by unfold FNx; omega)] | rw [hf4 _ _ (by unfold FNx; omega)] | rw [hf3 _ _ (by unfold FFl; omega)] | rw [up_n (by omega)])
    have w1 : σ5 p 1 = σ p 1 := by repeat (first | rw [hf5 _ _ (by unfold FNx; omega)] | rw [hf4 _ _ (by unfold FNx; omega)] | rw [hf3 _ _ (by unfold FFl; omega)] | rw [up_n (by omega)])
    have wk : σ5 35 k = σ 35 k := by repeat (first | rw [hf5 _ _ (by unfold FNx; omega)] | rw [hf4 _ _ (by unfold FNx; omega)] | rw [hf3 _ _ (by unfold FFl; omega)] | rw [up_n (by omega)])
    have zb := zCell_bd (tx := tx) (n9 := n9) (i := kE tx n9 i) wz
    have zc : nV tx n9 0 (σ p 1 - 1) (kE tx n9 (kE tx n9 i)) * σ p 0 + nV tx n9 0 (σ p 0 - 1) (kE tx n9 i) = zCell p σ tx n9 (kE tx n9 i) := rfl
    have v1 : σ5 (p + 1) (zCell p σ tx n9 (kE tx n9 i)) = σ (p + 1) (zCell p σ tx n9 (kE tx n9 i)) := by repeat (first | rw [hf5 _ _ (by unfold FNx; omega)] | rw [hf4 _ _ (by unfold FNx; omega)] | rw [hf3 _ _ (by unfold FFl; omega)] | rw [up_n (by omega)])
    conv => whnf
    refine ⟨(by first | assumption | rfl), ?_⟩
    try simp (disch := omega) only [Int.cast_ofNat_Int, up_s, up_a, up_i, mp_a, mp_ge]
    try simp only [t3]
    try simp only [t4]
    try simp only [t5]
    try simp only [m2]
    try simp only [m3]
    try simp only [m5]
    try simp only [m7]
    try simp only [m8]
    try simp only [m9]
    try simp only [m10]
    try simp only [m11]
    try simp only [m12]
    try simp only [mc]
    try simp only [lk_35]
    try simp only [w0]
    try simp only [w1]
    try simp only [wk]
    try simp only [zc]
    conv => whnf
    refine ⟨(by first | assumption | rfl), ?_⟩
    try simp (disch := omega) only [Int.cast_ofNat_Int, up_s, up_a, up_i, mp_a, mp_ge]
    try simp only [t3]
    try simp only [t4]
    try simp only [t5]
    try simp only [m2]
    try simp only [m3]
    try simp only [m5]
    try simp only [m7]
    try simp only [m8]
    try simp only [m9]
    try simp only [m10]
    try simp only [m11]
    try simp only [m12]
    try simp only [mc]
    try simp only [lk_35]
    try simp only [w0]
    try simp only [w1]
    try simp only [wk]
    try simp only [zc]
    conv => whnf
    refine ⟨⟨by omega, by omega⟩, ?_⟩
    conv => whnf
    refine ⟨⟨by omega, by omega⟩, ?_⟩
    conv => whnf
    refine ⟨(by first | assumption | rfl), ?_⟩
    try simp (disch := omega) only [Int.cast_ofNat_Int, up_s, up_a, up_i, mp_a, mp_ge]
    try simp only [t3]
    try simp only [t4]
    try simp only [t5]
    try simp only [m2]
    try simp only [m3]
    try simp only [m5]
    try simp only [m7]
    try simp only [m8]
    try simp only [m9]
    try simp only [m10]
    try simp only [m11]
    try simp only [m12]
    try simp only [mc]
    try simp only [lk_35]
    try simp only [w0]
    try simp only [w1]
    try simp only [wk]
    try simp only [zc]
    conv => whnf
    refine ⟨(by first | assumption | rfl), ?_⟩
    try simp (disch := omega) only [Int.cast_ofNat_Int, up_s, up_a, up_i, mp_a, mp_ge]
    try simp only [t3]
    try simp only [t4]
    try simp only [t5]
    try simp only [m2]
    try simp only [m3]
    try simp only [m5]
    try simp only [m7]
    try simp only [m8]
    try simp only [m9]
    try simp only [m10]
    try simp only [m11]
    try simp only [m12]
    try simp only [mc]
    try simp only [lk_35]
    try simp only [w0]
    try simp only [w1]
    try simp only [wk]
    try simp only [zc]
    conv => whnf
    refine ⟨sx_ixI (by first | assumption | rfl) (by omega) (by omega), ?_⟩
    try simp (disch := omega) only [Int.cast_ofNat_Int, up_s, up_a, up_i, mp_a, mp_ge]
    try simp only [t3]
    try simp only [t4]
    try simp only [t5]
    try simp only [m2]
    try simp only [m3]
    try simp only [m5]
    try simp only [m7]
    try simp only [m8]
    try simp only [m9]
    try simp only [m10]
    try simp only [m11]
    try simp only [m12]
    try simp only [mc]
    try simp only [lk_35]
    try simp only [w0]
    try simp only [w1]
    try simp only [wk]
    try simp only [zc]
    conv => whnf
    refine ⟨fun g => ?_, fun g => ?_⟩
    · simp only [sx_cc, Classical.not_not] at g
      have f9 := fBq_0 (k := 3) (s := kS tx n9 (kE tx n9 (kE tx n9 i))) (b := ¬ σ5 (p + 1) (zCell p σ tx n9 (kE tx n9 i)) = 0) (by omega)
      obtain ⟨σ6, e9, hf6, hq6⟩ : ∃ s9, σ5 = s9 ∧ fr FFl σ5 s9 ∧ cQ p s9 tx n9 (kE tx n9 (kE tx n9 i)) (Option.or (Option.or (Option.or (Option.or none (fBq (12 ≤ σ 35 k) 2 (kS tx n9 i))) (nF tx n9 0 (σ p 0 - 1) (kE tx n9 i))) (nF tx n9 0 (σ p 1 - 1) (kE tx n9 (kE tx n9 i)))) (fBq (¬ σ5 (p + 1) (zCell p σ tx n9 (kE tx n9 i)) = 0) 3 (kS tx n9 (kE tx n9 (kE tx n9 i))))) := ⟨σ5, rfl, fun _ _ _ => rfl, by rw [f9, Option.or_none]; exact hq5⟩
      rw [e9]
      clear t3 t4 t5 m2
      have t3 := pt_32_3 hq6.pt
      have t4 := hq6.ep
      have t5 := pt_32_5 hq6.pt
      have m2 := ptP_2 hq6.pt hq6.1
      have w0 : σ6 p 0 = σ p 0 := by repeat (first | rw [hf6 _ _ (by unfold FFl; omega)] | rw [hf5 _ _ (by unfold FNx; omega)] | rw [hf4 _ _ (by unfold FNx; omega)] | rw [hf3 _ _ (by unfold FFl; omega)] | rw [up_n (by omega)])
      have w1 : σ6 p 1 = σ p 1 := by repeat (first | rw [hf6 _ _ (by unfold FFl; omega)] | rw [hf5 _ _ (by unfold FNx; omega)] | rw [hf4 _ _ (by unfold FNx; omega)] | rw [hf3 _ _ (by unfold FFl; omega)] | rw [up_n (by omega)])
      have wk : σ6 35 k = σ 35 k := by repeat (first | rw [hf6 _ _ (by unfold FFl; omega)] | rw [hf5 _ _ (by unfold FNx; omega)] | rw [hf4 _ _ (by unfold FNx; omega)] | rw [hf3 _ _ (by unfold FFl; omega)] | rw [up_n (by omega)])
      conv => whnf
      refine ⟨(by first | assumption | rfl), ?_⟩
      try simp (disch := omega) only [Int.cast_ofNat_Int, up_s, up_a, up_i, mp_a, mp_ge]
      try simp only [t3]
      try simp only [t4]
      try simp only [t5]
      try simp only [m2]
      try simp only [m3]
      try simp only [m5]
      try simp only [m7]
      try simp only [m8]
      try simp only [m9]
      try simp only [m10]
      try simp only [m11]
      try simp only [m12]
      try simp only [mc]
      try simp only [lk_35]
      try simp only [w0]
      try simp only [w1]
      try simp only [wk]
      try simp only [zc]
      conv => whnf
      refine ⟨(by first | assumption | rfl), ?_⟩
      try simp (disch := omega) only [Int.cast_ofNat_Int, up_s, up_a, up_i, mp_a, mp_ge]
      try simp only [t3]
      try simp only [t4]
      try simp only [t5]
      try simp only [m2]
      try simp only [m3]
      try simp only [m5]
      try simp only [m7]
      try simp only [m8]
      try simp only [m9]
      try simp only [m10]
      try simp only [m11]
      try simp only [m12]
      try simp only [mc]
      try simp only [lk_35]
      try simp only [w0]
      try simp only [w1]
      try simp only [wk]
      try simp only [zc]
      conv => whnf
      refine ⟨sx_ixI (by first | assumption | rfl) (by omega) (by omega), ?_⟩
      conv => whnf
      refine ⟨(by first | assumption | rfl), ?_⟩
      try simp (disch := omega) only [Int.cast_ofNat_Int, up_s, up_a, up_i, mp_a, mp_ge]
      try simp only [t3]
      try simp only [t4]
      try simp only [t5]
      try simp only [m2]
      try simp only [m3]
      try simp only [m5]
      try simp only [m7]
      try simp only [m8]
      try simp only [m9]
      try simp only [m10]
      try simp only [m11]
      try simp only [m12]
      try simp only [mc]
      try simp only [lk_35]
      try simp only [w0]
      try simp only [w1]
      try simp only [wk]
      try simp only [zc]
      conv => whnf
      refine ⟨sx_ixI (by first | assumption | rfl) (by omega) (by omega), ?_⟩
      try simp (disch := omega) only [Int.cast_ofNat_Int, up_s, up_a, up_i, mp_a, mp_ge]
      try simp only [t3]
      try simp only [t4]
      try simp only [t5]
      try simp only [m2]
      try simp only [m3]
      try simp only [m5]
      try simp only [m7]
      try simp only [m8]
      try simp only [m9]
      try simp only [m10]
      try simp only [m11]
      try simp only [m12]
      try simp only [mc]
      try simp only [lk_35]
      try simp only [w0]
      try simp only [w1]
      try simp only [wk]
      try simp only [zc]
      conv => whnf
      refine ⟨⟨by omega, by omega⟩, ?_⟩
      conv => whnf
      refine ⟨sx_ixI (by first | assumption | rfl) (by omega) (by omega), ?_⟩
      conv => whnf
      refine ⟨(by first | assumption | rfl), ?_⟩
      try simp (disch := omega) only [Int.cast_ofNat_Int, up_s, up_a, up_i, mp_a, mp_ge]
      try simp only [t3]
      try simp only [t4]
      try simp only [t5]
      try simp only [m2]
      try simp only [m3]
      try simp only [m5]
      try simp only [m7]
      try simp only [m8]
      try simp only [m9]
      try simp only [m10]
      try simp only [m11]
      try simp only [m12]
      try simp only [mc]
      try simp only [lk_35]
      try simp only [w0]
      try simp only [w1]
      try simp only [wk]
      try simp only [zc]
      conv => whnf
      refine ⟨Nat.le_of_ble_eq_true rfl, Nat.le_of_ble_eq_true rfl, (by first | assumption | rfl), ?_⟩
      refine c_Tadv hw (cQ_up (cQ_up hq6 (by unfold FPd; omega)) (by unfold FPd; omega)) (fun σ7 hf7 hq7 => ?_)
      conv => whnf
      refine ⟨rfl, ?_⟩
      rw [v1] at hq7
      refine h _ (fun a j z9 => by unfold FZk FNx at z9; repeat (first | rw [hf7 _ _ (by unfold FXa; omega)] | rw [hf6 _ _ (by unfold FFl; omega)] | rw [hf5 _ _ (by unfold FNx; omega)] | rw [hf4 _ _ (by unfold FNx; omega)] | rw [hf3 _ _ (by unfold FFl; omega)] | rw [up_n (by omega)])) (by unfold zKind; simpa only [Option.none_or, Option.or_assoc] using hq7) (by repeat (first | rw [up_s] | rw [hf7 _ _ (by unfold FXa; omega)] | rw [hf6 _ _ (by unfold FFl; omega)] | rw [hf5 _ _ (by unfold FNx; omega)] | rw [hf4 _ _ (by unfold FNx; omega)] | rw [hf3 _ _ (by unfold FFl; omega)] | rw [up_n (by omega)])) (by repeat (first | rw [up_s] | rw [hf7 _ _ (by unfold FXa; omega)] | rw [hf6 _ _ (by unfold FFl; omega)] | rw [hf5 _ _ (by unfold FNx; omega)] | rw [hf4 _ _ (by unfold FNx; omega)] | rw [hf3 _ _ (by unfold FFl; omega)] | rw [up_n (by omega)])) (by repeat (first | rw [up_s] | rw [wk] | rw [hf7 _ _ (by unfold FXa; omega)] | rw [hf6 _ _ (by unfold FFl; omega)] | rw [hf5 _ _ (by unfold FNx; omega)] | rw [hf4 _ _ (by unfold FNx; omega)] | rw [hf3 _ _ (by unfold FFl; omega)] | rw [up_n (by omega)]))
    · simp only [sx_cc, Classical.not_not] at g
      have f9 := fBq_1 (k := 3) (s := kS tx n9 (kE tx n9 (kE tx n9 i))) (b := ¬ σ5 (p + 1) (zCell p σ tx n9 (kE tx n9 i)) = 0) (by omega)
      conv => whnf
      refine ⟨Nat.le_of_ble_eq_true rfl, Nat.le_of_ble_eq_true rfl, (by first | assumption | rfl), ?_⟩
      refine c_Tfail hq5 (by decide) (fun σ6 hf6 hq6 => ?_)
      rw [← f9] at hq6
      clear t3 t4 t5 m2
      have t3 := pt_32_3 hq6.pt
      have t4 := hq6.ep
      have t5 := pt_32_5 hq6.pt
      have m2 := ptP_2 hq6.pt hq6.1
      have w0 : σ6 p 0 = σ p 0 := by repeat (first | rw [hf6 _ _ (by unfold FFl; omega)] | rw [hf5 _ _ (by unfold FNx; omega)] | rw [hf4 _ _ (by unfold FNx; omega)] | rw [hf3 _ _ (by unfold FFl; omega)] | rw [up_n (by omega)])
      have w1 : σ6 p 1 = σ p 1 := by repeat (first | rw [hf6 _ _ (by unfold FFl; omega)] | rw [hf5 _ _ (by unfold FNx; omega)] | rw [hf4 _ _ (by unfold FNx; omega)] | rw [hf3 _ _ (by unfold FFl; omega)] | rw [up_n (by omega)])
      have wk : σ6 35 k = σ 35 k := by repeat (first | rw [hf6 _ _ (by unfold FFl; omega)] | rw [hf5 _ _ (by unfold FNx; omega)] | rw [hf4 _ _ (by unfold FNx; omega)] | rw [hf3 _ _ (by unfold FFl; omega)] | rw [up_n (by omega)])
      conv => whnf
      refine ⟨(by first | assumption | rfl), ?_⟩
      try simp (disch := omega) only [Int.cast_ofNat_Int, up_s, up_a, up_i, mp_a, mp_ge]
      try simp only [t3]
      try simp only [t4]
      try simp only [t5]
      try simp only [m2]
      try simp only [m3]
      try simp only [m5]
      try simp only [m7]
      try simp only [m8]
      try simp only [m9]
      try simp only [m10]
      try simp only [m11]
      try simp only [m12]
      try simp only [mc]
      try simp only [lk_35]
      try simp only [w0]
      try simp only [w1]
      try simp only [wk]
      try simp only [zc]
      conv => whnf
      refine ⟨(by first | assumption | rfl), ?_⟩
      try simp (disch := omega) only [Int.cast_ofNat_Int, up_s, up_a, up_i, mp_a, mp_ge]
      try simp only [t3]
      try simp only [t4]
      try simp only [t5]
      try simp only [m2]
      try simp only [m3]
      try simp only [m5]
      try simp only [m7]
      try simp only [m8]
      try simp only [m9]
      try simp only [m10]
      try simp only [m11]
      try simp only [m12]
      try simp only [mc]
      try simp only [lk_35]
      try simp only [w0]
      try simp only [w1]
      try simp only [wk]
      try simp only [zc]
      conv => whnf
      refine ⟨sx_ixI (by first | assumption | rfl) (by omega) (by omega), ?_⟩
      conv => whnf
      refine ⟨(by first | assumption | rfl), ?_⟩
      try simp (disch := omega) only [Int.cast_ofNat_Int, up_s, up_a, up_i, mp_a, mp_ge]
      try simp only [t3]
      try simp only [t4]
      try simp only [t5]
      try simp only [m2]
      try simp only [m3]
      try simp only [m5]
      try simp only [m7]
      try simp only [m8]
      try simp only [m9]
      try simp only [m10]
      try simp only [m11]
      try simp only [m12]
      try simp only [mc]
      try simp only [lk_35]
      try simp only [w0]
      try simp only [w1]
      try simp only [wk]
      try simp only [zc]
      conv => whnf
      refine ⟨sx_ixI (by first | assumption | rfl) (by omega) (by omega), ?_⟩
      try simp (disch := omega) only [Int.cast_ofNat_Int, up_s, up_a, up_i, mp_a, mp_ge]
      try simp only [t3]
      try simp only [t4]
      try simp only [t5]
      try simp only [m2]
      try simp only [m3]
      try simp only [m5]
      try simp only [m7]
      try simp only [m8]
      try simp only [m9]
      try simp only [m10]
      try simp only [m11]
      try simp only [m12]
      try simp only [mc]
      try simp only [lk_35]
      try simp only [w0]
      try simp only [w1]
      try simp only [wk]
      try simp only [zc]
      conv => whnf
      refine ⟨⟨by omega, by omega⟩, ?_⟩
      conv => whnf
      refine ⟨sx_ixI (by first | assumption | rfl) (by omega) (by omega), ?_⟩
      conv => whnf
      refine ⟨(by first | assumption | rfl), ?_⟩
      try simp (disch := omega) only [Int.cast_ofNat_Int, up_s, up_a, up_i, mp_a, mp_ge]
      try simp only [t3]
      try simp only [t4]
      try simp only [t5]
      try simp only [m2]
      try simp only [m3]
      try simp only [m5]
      try simp only [m7]
      try simp only [m8]
      try simp only [m9]
      try simp only [m10]
      try simp only [m11]
      try simp only [m12]
      try simp only [mc]
      try simp only [lk_35]
      try simp only [w0]
      try simp only [w1]
      try simp only [wk]
      try simp only [zc]
      conv => whnf
      refine ⟨Nat.le_of_ble_eq_true rfl, Nat.le_of_ble_eq_true rfl, (by first | assumption | rfl), ?_⟩
      refine c_Tadv hw (cQ_up (cQ_up hq6 (by unfold FPd; omega)) (by unfold FPd; omega)) (fun σ7 hf7 hq7 => ?_)
      conv => whnf
      refine ⟨rfl, ?_⟩
      rw [v1] at hq7
      refine h _ (fun a j z9 => by unfold FZk FNx at z9; repeat (first | rw [hf7 _ _ (by unfold FXa; omega)] | rw [hf6 _ _ (by unfold FFl; omega)] | rw [hf5 _ _ (by unfold FNx; omega)] | rw [hf4 _ _ (by unfold FNx; omega)] | rw [hf3 _ _ (by unfold FFl; omega)] | rw [up_n (by omega)])) (by unfold zKind; simpa only [Option.none_or, Option.or_assoc] using hq7) (by repeat (first | rw [up_s] | rw [hf7 _ _ (by unfold FXa; omega)] | rw [hf6 _ _ (by unfold FFl; omega)] | rw [hf5 _ _ (by unfold FNx; omega)] | rw [hf4 _ _ (by unfold FNx; omega)] | rw [hf3 _ _ (by unfold FFl; omega)] | rw [up_n (by omega)])) (by repeat (first | rw [up_s] | rw [hf7 _ _ (by unfold FXa; omega)] | rw [hf6 _ _ (by unfold FFl; omega)] | rw [hf5 _ _ (by unfold FNx; omega)] | rw [hf4 _ _ (by unfold FNx; omega)] | rw [hf3 _ _ (by unfold FFl; omega)] | rw [up_n (by omega)])) (by repeat (first | rw [up_s] | rw [wk] | rw [hf7 _ _ (by unfold FXa; omega)] | rw [hf6 _ _ (by unfold FFl; omega)] | rw [hf5 _ _ (by unfold FNx; omega)] | rw [hf4 _ _ (by unfold FNx; omega)] | rw [hf3 _ _ (by unfold FFl; omega)] | rw [up_n (by omega)]))
  · simp only [sx_cc, Classical.not_not] at g
    have f9 := fBq_1 (k := 2) (s := kS tx n9 (i)) (b := 12 ≤ σ 35 k) (by omega)
    conv => whnf
    refine ⟨Nat.le_of_ble_eq_true rfl, Nat.le_of_ble_eq_true rfl, (by first | assumption | rfl), ?_⟩
    refine c_Tfail hq (by decide) (fun σ3 hf3 hq3 => ?_)
    rw [← f9] at hq3
    clear t3 t4 t5 m2
    have t3 := pt_32_3 hq3.pt
    have t4 := hq3.ep
    have t5 := pt_32_5 hq3.pt
    have m2 := ptP_2 hq3.pt hq3.1
    have w0 : σ3 p 0 = σ p 0 := by repeat (first | rw [hf3 _ _ (by unfold FFl; omega)] | rw [up_n (by omega)])
    have w1 : σ3 p 1 = σ p 1 := by repeat (first | rw [hf3 _ _ (by unfold FFl; omega)] | rw [up_n (by omega)])
    have wk : σ3 35 k = σ 35 k := by repeat (first | rw [hf3 _ _ (by unfold FFl; omega)] | rw [up_n (by omega)])
    conv => whnf
    refine ⟨(by first | assumption | rfl), by omega, ?_⟩
    try simp (disch := omega) only [Int.cast_ofNat_Int, up_s, up_a, up_i, mp_a, mp_ge]
    try simp only [t3]
    try simp only [t4]
    try simp only [t5]
    try simp only [m2]
    try simp only [m3]
    try simp only [m5]
    try simp only [m7]
    try simp only [m8]
    try simp only [m9]
    try simp only [m10]
    try simp only [m11]
    try simp only [m12]
    try simp only [mc]
    try simp only [lk_35]
    try simp only [w0]
    try simp only [w1]
    try simp only [wk]
    try simp only [zc]
    conv => whnf
    refine ⟨(by first | assumption | rfl), ?_⟩
    try simp (disch := omega) only [Int.cast_ofNat_Int, up_s, up_a, up_i, mp_a, mp_ge]
    try simp only [t3]
    try simp only [t4]
    try simp only [t5]
    try simp only [m2]
    try simp only [m3]
    try simp only [m5]
    try simp only [m7]
    try simp only [m8]
    try simp only [m9]
    try simp only [m10]
    try simp only [m11]
    try simp only [m12]
    try simp only [mc]
    try simp only [lk_35]
    try simp only [w0]
    try simp only [w1]
    try simp only [wk]
    try simp only [zc]
    conv => whnf
    refine ⟨(by first | assumption | rfl), ?_⟩
    try simp (disch := omega) only [Int.cast_ofNat_Int, up_s, up_a, up_i, mp_a, mp_ge]
    try simp only [t3]
    try simp only [t4]
    try simp only [t5]
    try simp only [m2]
    try simp only [m3]
    try simp only [m5]
    try simp only [m7]
    try simp only [m8]
    try simp only [m9]
    try simp only [m10]
    try simp only [m11]
    try simp only [m12]
    try simp only [mc]
    try simp only [lk_35]
    try simp only [w0]
    try simp only [w1]
    try simp only [wk]
    try simp only [zc]
    conv => whnf
    refine ⟨⟨by omega, by omega⟩, ?_⟩
    conv => whnf
    refine ⟨Nat.le_of_ble_eq_true rfl, Nat.le_of_ble_eq_true rfl, (by first | assumption | rfl), ?_⟩
    refine c_Tnxt hw (cQ_up hq3 (by unfold FPd; omega)) (by omega) (fun σ4 hf4 hq4 => ?_)
    clear t3 t4 t5 m2
    have t3 := pt_32_3 hq4.pt
    have t4 := hq4.ep
    have t5 := pt_32_5 hq4.pt
    have m2 := ptP_2 hq4.pt hq4.1
    have w0 : σ4 p 0 = σ p 0 := by repeat (first | rw [hf4 _ _ (by unfold FNx; omega)] | rw [hf3 _ _ (by unfold FFl; omega)] | rw [up_n (by omega)])
    have w1 : σ4 p 1 = σ p 1 := by repeat (first | rw [hf4 _ _ (by unfold FNx; omega)] | rw [hf3 _ _ (by unfold FFl; omega)] | rw [up_n (by omega)])
    have wk : σ4 35 k = σ 35 k := by repeat (first | rw [hf4 _ _ (by unfold FNx; omega)] | rw [hf3 _ _ (by unfold FFl; omega)] | rw [up_n (by omega)])
    conv => whnf
    refine ⟨(by first | assumption | rfl), ?_⟩
    try simp (disch := omega) only [Int.cast_ofNat_Int, up_s, up_a, up_i, mp_a, mp_ge]
    try simp only [t3]
    try simp only [t4]
    try simp only [t5]
    try simp only [m2]
    try simp only [m3]
    try simp only [m5]
    try simp only [m7]
    try simp only [m8]
    try simp only [m9]
    try simp only [m10]
    try simp only [m11]
    try simp only [m12]
    try simp only [mc]
    try simp only [lk_35]
    try simp only [w0]
    try simp only [w1]
    try simp only [wk]
    try simp only [zc]
    conv => whnf
    refine ⟨(by first | assumption | rfl), ?_⟩
    try simp (disch := omega) only [Int.cast_ofNat_Int, up_s, up_a, up_i, mp_a, mp_ge]
    try simp only [t3]
    try simp only [t4]
    try simp only [t5]
    try simp only [m2]
    try simp only [m3]
    try simp only [m5]
    try simp only [m7]
    try simp only [m8]
    try simp only [m9]
    try simp only [m10]
    try simp only [m11]
    try simp only [m12]
    try simp only [mc]
    try simp only [lk_35]
    try simp only [w0]
    try simp only [w1]
    try simp only [wk]
    try simp only [zc]
    conv => whnf
    refine ⟨⟨by omega, by omega⟩, ?_⟩
    conv => whnf
    refine ⟨Nat.le_of_ble_eq_true rfl, Nat.le_of_ble_eq_true rfl, (by first | assumption | rfl), ?_⟩
    refine c_Tnxt hw hq4 (by omega) (fun σ5 hf5 hq5 => ?_)
    clear t3 t4 t5 m2
    have t3 := pt_32_3 hq5.pt
    have t4 := hq5.ep
    have t5 := pt_32_5 hq5.pt
    have m2 := ptP_2 hq5.pt hq5.1
    have w0 : σ5 p 0 = σ p 0 := by repeat (first | rw [hf5 _ _ (by unfold FNx; omega)] | rw [hf4 _ _ (by unfold FNx; omega)] | rw [hf3 _ _ (by unfold FFl; omega)] | rw [up_n (by omega)])
    have w1 : σ5 p 1 = σ p 1 := by repeat (first | rw [hf5 _ _ (by unfold FNx; omega)] | rw [hf4 _ _ (by unfold FNx; omega)] | rw [hf3 _ _ (by unfold FFl; omega)] | rw [up_n (by omega)])
    have wk : σ5 35 k = σ 35 k := by repeat (first | rw [hf5 _ _ (by unfold FNx; omega)] | rw [hf4 _ _ (by unfold FNx; omega)] | rw [hf3 _ _ (by unfold FFl; omega)] | rw [up_n (by omega)])
    have zb := zCell_bd (tx := tx) (n9 := n9) (i := kE tx n9 i) wz
    have zc : nV tx n9 0 (σ p 1 - 1) (kE tx n9 (kE tx n9 i)) * σ p 0 + nV tx n9 0 (σ p 0 - 1) (kE tx n9 i) = zCell p σ tx n9 (kE tx n9 i) := rfl
    have v1 : σ5 (p + 1) (zCell p σ tx n9 (kE tx n9 i)) = σ (p + 1) (zCell p σ tx n9 (kE tx n9 i)) := by repeat (first | rw [hf5 _ _ (by unfold FNx; omega)] | rw [hf4 _ _ (by unfold FNx; omega)] | rw [hf3 _ _ (by unfold FFl; omega)] | rw [up_n (by omega)])
    conv => whnf
    refine ⟨(by first | assumption | rfl), ?_⟩
    try simp (disch := omega) only [Int.cast_ofNat_Int, up_s, up_a, up_i, mp_a, mp_ge]
    try simp only [t3]
    try simp only [t4]
    try simp only [t5]
    try simp only [m2]
    try simp only [m3]
    try simp only [m5]
    try simp only [m7]
    try simp only [m8]
    try simp only [m9]
    try simp only [m10]
    try simp only [m11]
    try simp only [m12]
    try simp only [mc]
    try simp only [lk_35]
    try simp only [w0]
    try simp only [w1]
    try simp only [wk]
    try simp only [zc]
    conv => whnf
    refine ⟨(by first | assumption | rfl), ?_⟩
    try simp (disch := omega) only [Int.cast_ofNat_Int, up_s, up_a, up_i, mp_a, mp_ge]
    try simp only [t3]
    try simp only [t4]
    try simp only [t5]
    try simp only [m2]
    try simp only [m3]
    try simp only [m5]
    try simp only [m7]
    try simp only [m8]
    try simp only [m9]
    try simp only [m10]
    try simp only [m11]
    try simp only [m12]
    try simp only [mc]
    try simp only [lk_35]
    try simp only [w0]
    try simp only [w1]
    try simp only [wk]
    try simp only [zc]
    conv => whnf
    refine ⟨⟨by omega, by omega⟩, ?_⟩
    conv => whnf
    refine ⟨⟨by omega, by omega⟩, ?_⟩
    conv => whnf
    refine ⟨(by first | assumption | rfl), ?_⟩
    try simp (disch := omega) only [Int.cast_ofNat_Int, up_s, up_a, up_i, mp_a, mp_ge]
    try simp only [t3]
    try simp only [t4]
    try simp only [t5]
    try simp only [m2]
    try simp only [m3]
    try simp only [m5]
    try simp only [m7]
    try simp only [m8]
    try simp only [m9]
    try simp only [m10]
    try simp only [m11]
    try simp only [m12]
    try simp only [mc]
    try simp only [lk_35]
    try simp only [w0]
    try simp only [w1]
    try simp only [wk]
    try simp only [zc]
    conv => whnf
    refine ⟨(by first | assumption | rfl), ?_⟩
    try simp (disch := omega) only [Int.cast_ofNat_Int, up_s, up_a, up_i, mp_a, mp_ge]
    try simp only [t3]
    try simp only [t4]
    try simp only [t5]
    try simp only [m2]
    try simp only [m3]
    try simp only [m5]
    try simp only [m7]
    try simp only [m8]
    try simp only [m9]
    try simp only [m10]
    try simp only [m11]
    try simp only [m12]
    try simp only [mc]
    try simp only [lk_35]
    try simp only [w0]
    try simp only [w1]
    try simp only [wk]
    try simp only [zc]
    conv => whnf
    refine ⟨sx_ixI (by first | assumption | rfl) (by omega) (by omega), ?_⟩
    try simp (disch := omega) only [Int.cast_ofNat_Int, up_s, up_a, up_i, mp_a, mp_ge]
    try simp only [t3]
    try simp only [t4]
    try simp only [t5]
    try simp only [m2]
    try simp only [m3]
    try simp only [m5]
    try simp only [m7]
    try simp only [m8]
    try simp only [m9]
    try simp only [m10]
    try simp only [m11]
    try simp only [m12]
    try simp only [mc]
    try simp only [lk_35]
    try simp only [w0]
    try simp only [w1]
    try simp only [wk]
    try simp only [zc]
    conv => whnf
    refine ⟨fun g => ?_, fun g => ?_⟩
    · simp only [sx_cc, Classical.not_not] at g
      have f9 := fBq_0 (k := 3) (s := kS tx n9 (kE tx n9 (kE tx n9 i))) (b := ¬ σ5 (p + 1) (zCell p σ tx n9 (kE tx n9 i)) = 0) (by omega)
      obtain ⟨σ6, e9, hf6, hq6⟩ : ∃ s9, σ5 = s9 ∧ fr FFl σ5 s9 ∧ cQ p s9 tx n9 (kE tx n9 (kE tx n9 i)) (Option.or (Option.or (Option.or (Option.or none (fBq (12 ≤ σ 35 k) 2 (kS tx n9 i))) (nF tx n9 0 (σ p 0 - 1) (kE tx n9 i))) (nF tx n9 0 (σ p 1 - 1) (kE tx n9 (kE tx n9 i)))) (fBq (¬ σ5 (p + 1) (zCell p σ tx n9 (kE tx n9 i)) = 0) 3 (kS tx n9 (kE tx n9 (kE tx n9 i))))) := ⟨σ5, rfl, fun _ _ _ => rfl, by rw [f9, Option.or_none]; exact hq5⟩
      rw [e9]
      clear t3 t4 t5 m2
      have t3 := pt_32_3 hq6.pt
      have t4 := hq6.ep
      have t5 := pt_32_5 hq6.pt
      have m2 := ptP_2 hq6.pt hq6.1
      have w0 : σ6 p 0 = σ p 0 := by repeat (first | rw [hf6 _ _ (by unfold FFl; omega)] | rw [hf5 _ _ (by unfold FNx; omega)] | rw [hf4 _ _ (by unfold FNx; omega)] | rw [hf3 _ _ (by unfold FFl; omega)] | rw [up_n (by omega)])
      have w1 : σ6 p 1 = σ p 1 := by repeat (first | rw [hf6 _ _ (by unfold FFl; omega)] | rw [hf5 _ _ (by unfold FNx; omega)] | rw [hf4 _ _ (by unfold FNx; omega)] | rw [hf3 _ _ (by unfold FFl; omega)] | rw [up_n (by omega)])
      have wk : σ6 35 k = σ 35 k := by repeat (first | rw [hf6 _ _ (by unfold FFl; omega)] | rw [hf5 _ _ (by unfold FNx; omega)] | rw [hf4 _ _ (by unfold FNx; omega)] | rw [hf3 _ _ (by unfold FFl; omega)] | rw [up_n (by omega)])
      conv => whnf
      refine ⟨(by first | assumption | rfl), ?_⟩
      try simp (disch := omega) only [Int.cast_ofNat_Int, up_s, up_a, up_i, mp_a, mp_ge]
      try simp only [t3]
      try simp only [t4]
      try simp only [t5]
      try simp only [m2]
      try simp only [m3]
      try simp only [m5]
      try simp only [m7]
      try simp only [m8]
      try simp only [m9]
      try simp only [m10]
      try simp only [m11]
      try simp only [m12]
      try simp only [mc]
      try simp only [lk_35]
      try simp only [w0]
      try simp only [w1]
      try simp only [wk]
      try simp only [zc]
      conv => whnf
      refine ⟨(by first | assumption | rfl), ?_⟩
      try simp (disch := omega) only [Int.cast_ofNat_Int, up_s, up_a, up_i, mp_a, mp_ge]
      try simp only [t3]
      try simp only [t4]
      try simp only [t5]
      try simp only [m2]
      try simp only [m3]
      try simp only [m5]
      try simp only [m7]
      try simp only [m8]
      try simp only [m9]
      try simp only [m10]
      try simp only [m11]
      try simp only [m12]
      try simp only [mc]
      try simp only [lk_35]
      try simp only [w0]
      try simp only [w1]
      try simp only [wk]
      try simp only [zc]
      conv => whnf
      refine ⟨sx_ixI (by first | assumption | rfl) (by omega) (by omega), ?_⟩
      conv => whnf
      refine ⟨(by first | assumption | rfl), ?_⟩
      try simp (disch := omega) only [Int.cast_ofNat_Int, up_s, up_a, up_i, mp_a, mp_ge]
      try simp only [t3]
      try simp only [t4]
      try simp only [t5]
      try simp only [m2]
      try simp only [m3]
      try simp only [m5]
      try simp only [m7]
      try simp only [m8]
      try simp only [m9]
      try simp only [m10]
      try simp only [m11]
      try simp only [m12]
      try simp only [mc]
      try simp only [lk_35]
      try simp only [w0]
      try simp only [w1]
      try simp only [wk]
      try simp only [zc]
      conv => whnf
      refine ⟨sx_ixI (by first | assumption | rfl) (by omega) (by omega), ?_⟩
      try simp (disch := omega) only [Int.cast_ofNat_Int, up_s, up_a, up_i, mp_a, mp_ge]
      try simp only [t3]
      try simp only [t4]
      try simp only [t5]
      try simp only [m2]
      try simp only [m3]
      try simp only [m5]
      try simp only [m7]
      try simp only [m8]
      try simp only [m9]
      try simp only [m10]
      try simp only [m11]
      try simp only [m12]
      try simp only [mc]
      try simp only [lk_35]
      try simp only [w0]
      try simp only [w1]
      try simp only [wk]
      try simp only [zc]
      conv => whnf
      refine ⟨⟨by omega, by omega⟩, ?_⟩
      conv => whnf
      refine ⟨sx_ixI (by first | assumption | rfl) (by omega) (by omega), ?_⟩
      conv => whnf
      refine ⟨(by first | assumption | rfl), ?_⟩
      try simp (disch := omega) only [Int.cast_ofNat_Int, up_s, up_a, up_i, mp_a, mp_ge]
      try simp only [t3]
      try simp only [t4]
      try simp only [t5]
      try simp only [m2]
      try simp only [m3]
      try simp only [m5]
      try simp only [m7]
      try simp only [m8]
      try simp only [m9]
      try simp only [m10]
      try simp only [m11]
      try simp only [m12]
      try simp only [mc]
      try simp only [lk_35]
      try simp only [w0]
      try simp only [w1]
      try simp only [wk]
      try simp only [zc]
      conv => whnf
      refine ⟨Nat.le_of_ble_eq_true rfl, Nat.le_of_ble_eq_true rfl, (by first | assumption | rfl), ?_⟩
      refine c_Tadv hw (cQ_up (cQ_up hq6 (by unfold FPd; omega)) (by unfold FPd; omega)) (fun σ7 hf7 hq7 => ?_)
      conv => whnf
      refine ⟨rfl, ?_⟩
      rw [v1] at hq7
      refine h _ (fun a j z9 => by unfold FZk FNx at z9; repeat (first | rw [hf7 _ _ (by unfold FXa; omega)] | rw [hf6 _ _ (by unfold FFl; omega)] | rw [hf5 _ _ (by unfold FNx; omega)] | rw [hf4 _ _ (by unfold FNx; omega)] | rw [hf3 _ _ (by unfold FFl; omega)] | rw [up_n (by omega)])) (by unfold zKind; simpa only [Option.none_or, Option.or_assoc] using hq7) (by repeat (first | rw [up_s] | rw [hf7 _ _ (by unfold FXa; omega)] | rw [hf6 _ _ (by unfold FFl; omega)] | rw [hf5 _ _ (by unfold FNx; omega)] | rw [hf4 _ _ (by unfold FNx; omega)] | rw [hf3 _ _ (by unfold FFl; omega)] | rw [up_n (by omega)])) (by repeat (first | rw [up_s] | rw [hf7 _ _ (by unfold FXa; omega)] | rw [hf6 _ _ (by unfold FFl; omega)] | rw [hf5 _ _ (by unfold FNx; omega)] | rw [hf4 _ _ (by unfold FNx; omega)] | rw [hf3 _ _ (by unfold FFl; omega)] | rw [up_n (by omega)])) (by repeat (first | rw [up_s] | rw [wk] | rw [hf7 _ _ (by unfold FXa; omega)] | rw [hf6 _ _ (by unfold FFl; omega)] | rw [hf5 _ _ (by unfold FNx; omega)] | rw [hf4 _ _ (by unfold FNx; omega)] | rw [hf3 _ _ (by unfold FFl; omega)] | rw [up_n (by omega)]))
    · simp only [sx_cc, Classical.not_not] at g
      have f9 := fBq_1 (k := 3) (s := kS tx n9 (kE tx n9 (kE tx n9 i))) (b := ¬ σ5 (p + 1) (zCell p σ tx n9 (kE tx n9 i)) = 0) (by omega)
      conv => whnf
      refine ⟨Nat.le_of_ble_eq_true rfl, Nat.le_of_ble_eq_true rfl, (by first | assumption | rfl), ?_⟩
      refine c_Tfail hq5 (by decide) (fun σ6 hf6 hq6 => ?_)
      rw [← f9] at hq6
      clear t3 t4 t5 m2
      have t3 := pt_32_3 hq6.pt
      have t4 := hq6.ep
      have t5 := pt_32_5 hq6.pt
      have m2 := ptP_2 hq6.pt hq6.1
      have w0 : σ6 p 0 = σ p 0 := by repeat (first | rw [hf6 _ _ (by unfold FFl; omega)] | rw [hf5 _ _ (by unfold FNx; omega)] | rw [hf4 _ _ (by unfold FNx; omega)] | rw [hf3 _ _ (by unfold FFl; omega)] | rw [up_n (by omega)])
      have w1 : σ6 p 1 = σ p 1 := by repeat (first | rw [hf6 _ _ (by unfold FFl; omega)] | rw [hf5 _ _ (by unfold FNx; omega)] | rw [hf4 _ _ (by unfold FNx; omega)] | rw [hf3 _ _ (by unfold FFl; omega)] | rw [up_n (by omega)])
      have wk : σ6 35 k = σ 35 k := by repeat (first | rw [hf6 _ _ (by unfold FFl; omega)] | rw [hf5 _ _ (by unfold FNx; omega)] | rw [hf4 _ _ (by unfold FNx; omega)] | rw [hf3 _ _ (by unfold FFl; omega)] | rw [up_n (by omega)])
      conv => whnf
      refine ⟨(by first | assumption | rfl), ?_⟩
      try simp (disch := omega) only [Int.cast_ofNat_Int, up_s, up_a, up_i, mp_a, mp_ge]
      try simp only [t3]
      try simp only [t4]
      try simp only [t5]
      try simp only [m2]
      try simp only [m3]
      try simp only [m5]
      try simp only [m7]
      try simp only [m8]
      try simp only [m9]
      try simp only [m10]
      try simp only [m11]
      try simp only [m12]
      try simp only [mc]
      try simp only [lk_35]
      try simp only [w0]
      try simp only [w1]
      try simp only [wk]
      try simp only [zc]
      conv => whnf
      refine ⟨(by first | assumption | rfl), ?_⟩
      try simp (disch := omega) only [Int.cast_ofNat_Int, up_s, up_a, up_i, mp_a, mp_ge]
      try simp only [t3]
      try simp only [t4]
      try simp only [t5]
      try simp only [m2]
      try simp only [m3]
      try simp only [m5]
      try simp only [m7]
      try simp only [m8]
      try simp only [m9]
      try simp only [m10]
      try simp only [m11]
      try simp only [m12]
      try simp only [mc]
      try simp only [lk_35]
      try simp only [w0]
      try simp only [w1]
      try simp only [wk]
      try simp only [zc]
      conv => whnf
      refine ⟨sx_ixI (by first | assumption | rfl) (by omega) (by omega), ?_⟩
      conv => whnf
      refine ⟨(by first | assumption | rfl), ?_⟩
      try simp (disch := omega) only [Int.cast_ofNat_Int, up_s, up_a, up_i, mp_a, mp_ge]
      try simp only [t3]
      try simp only [t4]
      try simp only [t5]
      try simp only [m2]
      try simp only [m3]
      try simp only [m5]
      try simp only [m7]
      try simp only [m8]
      try simp only [m9]
      try simp only [m10]
      try simp only [m11]
      try simp only [m12]
      try simp only [mc]
      try simp only [lk_35]
      try simp only [w0]
      try simp only [w1]
      try simp only [wk]
      try simp only [zc]
      conv => whnf
      refine ⟨sx_ixI (by first | assumption | rfl) (by omega) (by omega), ?_⟩
      try simp (disch := omega) only [Int.cast_ofNat_Int, up_s, up_a, up_i, mp_a, mp_ge]
      try simp only [t3]
      try simp only [t4]
      try simp only [t5]
      try simp only [m2]
      try simp only [m3]
      try simp only [m5]
      try simp only [m7]
      try simp only [m8]
      try simp only [m9]
      try simp only [m10]
      try simp only [m11]
      try simp only [m12]
      try simp only [mc]
      try simp only [lk_35]
      try simp only [w0]
      try simp only [w1]
      try simp only [wk]
      try simp only [zc]
      conv => whnf
      refine ⟨⟨by omega, by omega⟩, ?_⟩
      conv => whnf
      refine ⟨sx_ixI (by first | assumption | rfl) (by omega) (by omega), ?_⟩
      conv => whnf
      refine ⟨(by first | assumption | rfl), ?_⟩
      try simp (disch := omega) only [Int.cast_ofNat_Int, up_s, up_a, up_i, mp_a, mp_ge]
      try simp only [t3]
      try simp only [t4]
      try simp only [t5]
      try simp only [m2]
      try simp only [m3]
      try simp only [m5]
      try simp only [m7]
      try simp only [m8]
      try simp only [m9]
      try simp only [m10]
      try simp only [m11]
      try simp only [m12]
      try simp only [mc]
      try simp only [lk_35]
      try simp only [w0]
      try simp only [w1]
      try simp only [wk]
      try simp only [zc]
      conv => whnf
      refine ⟨Nat.le_of_ble_eq_true rfl, Nat.le_of_ble_eq_true rfl, (by first | assumption | rfl), ?_⟩
      refine c_Tadv hw (cQ_up (cQ_up hq6 (by unfold FPd; omega)) (by unfold FPd; omega)) (fun σ7 hf7 hq7 => ?_)
      conv => whnf
      refine ⟨rfl, ?_⟩
      rw [v1] at hq7
      refine h _ (fun a j z9 => by unfold FZk FNx at z9; repeat (first | rw [hf7 _ _ (by unfold FXa; omega)] | rw [hf6 _ _ (by unfold FFl; omega)] | rw [hf5 _ _ (by unfold FNx; omega)] | rw [hf4 _ _ (by unfold FNx; omega)] | rw [hf3 _ _ (by unfold FFl; omega)] | rw [up_n (by omega)])) (by unfold zKind; simpa only [Option.none_or, Option.or_assoc] using hq7) (by repeat (first | rw [up_s] | rw [hf7 _ _ (by unfold FXa; omega)] | rw [hf6 _ _ (by unfold FFl; omega)] | rw [hf5 _ _ (by unfold FNx; omega)] | rw [hf4 _ _ (by unfold FNx; omega)] | rw [hf3 _ _ (by unfold FFl; omega)] | rw [up_n (by omega)])) (by repeat (first | rw [up_s] | rw [hf7 _ _ (by unfold FXa; omega)] | rw [hf6 _ _ (by unfold FFl; omega)] | rw [hf5 _ _ (by unfold FNx; omega)] | rw [hf4 _ _ (by unfold FNx; omega)] | rw [hf3 _ _ (by unfold FFl; omega)] | rw [up_n (by omega)])) (by repeat (first | rw [up_s] | rw [wk] | rw [hf7 _ _ (by unfold FXa; omega)] | rw [hf6 _ _ (by unfold FFl; omega)] | rw [hf5 _ _ (by unfold FNx; omega)] | rw [hf4 _ _ (by unfold FNx; omega)] | rw [hf3 _ _ (by unfold FFl; omega)] | rw [up_n (by omega)]))
end SXP2
