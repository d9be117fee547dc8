/-! RECKONING: a knot of the reference (by wip/whole) -/
section SXK3
variable {X : sx_X} {σ σ0 : sx_S} {Q : sx_R}
/-- the value of knot i, the values behind it being g -/
noncomputable def fOp (kd pt ot nm g : Int → Int) (i : Int) : Option Int := if kd i = 0 then some (pt i) else if kd i = 1 then some (nm (pt i)) else if kd i = 2 then some (fB (g (pt i) = 0)) else fJo (kd i) (g (pt i)) (g (ot i))
theorem fOp_jo {kd pt ot nm g : Int → Int} {i k : Int} (hk : 3 ≤ k) (h : kd i = k) : fOp kd pt ot nm g i = fJo k (g (pt i)) (g (ot i)) := by unfold fOp; rw [if_neg (by omega), if_neg (by omega), if_neg (by omega), h]
/-- a knot's parts lie where they may -/
def pKn (kd pt ot : Int → Int) (i : Int) : Prop := 0 ≤ kd i ∧ kd i ≤ 14 ∧ (kd i = 0 → pB12 (pt i)) ∧ (kd i = 1 → 0 ≤ pt i ∧ pt i < 7) ∧ (2 ≤ kd i → 0 ≤ pt i ∧ pt i < 64) ∧ (3 ≤ kd i → 0 ≤ ot i ∧ ot i < 64)
theorem fJo_cp {k a b v : Int} (h : fJo k a b = some v) (hk : 5 ≤ k ∧ k ≤ 10) : v = 0 ∨ v = 1 := by
  have hB : ∀ (p : Prop) [Decidable p], fB p = 0 ∨ fB p = 1 := fun p _ => by have := fB_bd p; omega
  unfold fJo at h
  refine ite_e h (fun _ h => Option.some.inj h ▸ hB _) (fun _ h => ?_)
  refine ite_e h (fun _ h => Option.some.inj h ▸ hB _) (fun _ h => ?_)
  refine ite_e h (fun _ h => Option.some.inj h ▸ hB _) (fun _ h => ?_)
  refine ite_e h (fun _ h => Option.some.inj h ▸ hB _) (fun _ h => ?_)
  refine ite_e h (fun _ h => Option.some.inj h ▸ hB _) (fun _ h => ?_)
  refine ite_e h (fun _ h => Option.some.inj h ▸ hB _) (fun _ h => ?_)
  refine ite_e h (fun _ h => Option.some.inj h ▸ hB _) (fun _ h => ?_)
  refine ite_e h (fun _ h => Option.some.inj h ▸ hB _) (fun _ h => ?_)
  exfalso; omega
set_option maxRecDepth 20000 in
theorem c_Rvalue (hT : PT σ) (hfl : σ 124 56 = 0 ∨ σ 124 56 = 1) {k : Int} (hk : 0 ≤ k ∧ k < 64) (hkn : pKn (σ 139) (σ 140) (σ 141) k) (hvb : ∀ j : Int, 0 ≤ j → j < 64 → pB12 (σ 145 j)) (hnb : ∀ j : Int, 0 ≤ j → j < 7 → pB12 (σ 144 j)) (h1 : ∀ v, pB12 v → (σ 124 56 = 0 → fOp (σ 139) (σ 140) (σ 141) (σ 144) (σ 145) k = some v) → Q (some (.inr (.inl v))) shM σ) (h0 : fOp (σ 139) (σ 140) (σ 141) (σ 144) (σ 145) k = none → Q (some (.inr (.inl 0))) shM (sx_up σ 124 56 1)) : sx_Run X 217 [.inr (.inr 124), .inl k] shM σ Q := by
  have r42 := pt_124_42 hT
  have r43 := pt_124_43 hT
  have r44 := pt_124_44 hT
  have r54 := pt_124_54 hT
  have r55 := pt_124_55 hT
  have hk0 : 0 ≤ σ 139 k ∧ σ 139 k ≤ 14 := ⟨hkn.1, hkn.2.1⟩
  refine sx_rule0 (own := 12) (cd := kX12_valueOf) (nL := 6) (by decide +kernel) (by decide +kernel) kX12_valueOf_ok (by decide +kernel) (Nat.le_of_ble_eq_true rfl) 40 ?_
  conv => whnf
  refine ⟨(by first | assumption | rfl), ?_⟩
  try simp (disch := omega) only [Int.cast_ofNat_Int, up_s, up_a, up_i, mp_a, mp_ge, cp_a, r42, r43, r44, r54, r55]
  conv => whnf
  refine ⟨sx_ixI (by first | assumption | rfl) (by first | omega | exact (hkn.2.2.2.1 (by omega)).1 | exact (hkn.2.2.2.2.1 (by omega)).1 | exact (hkn.2.2.2.2.2 (by omega)).1) (by first | omega | exact (hkn.2.2.2.1 (by omega)).2 | exact (hkn.2.2.2.2.1 (by omega)).2 | exact (hkn.2.2.2.2.2 (by omega)).2), ?_⟩
  try simp (disch := omega) only [Int.cast_ofNat_Int, up_s, up_a, up_i, mp_a, mp_ge, cp_a, r42, r43, r44, r54, r55]
  conv => whnf
  refine ⟨fun g => ?_, fun g => ?_⟩
  · simp only [sx_cc, Classical.not_not] at g; try simp only [cmp_eq, cmp_ge, cmp_lt, cmp_gt, cmp_le, Int.cast_ofNat_Int] at g
    conv => whnf
    refine ⟨(by first | assumption | rfl), ?_⟩
    try simp (disch := omega) only [Int.cast_ofNat_Int, up_s, up_a, up_i, mp_a, mp_ge, cp_a, r42, r43, r44, r54, r55]
    conv => whnf
    refine ⟨sx_ixI (by first | assumption | rfl) (by first | omega | exact (hkn.2.2.2.1 (by omega)).1 | exact (hkn.2.2.2.2.1 (by omega)).1 | exact (hkn.2.2.2.2.2 (by omega)).1) (by first | omega | exact (hkn.2.2.2.1 (by omega)).2 | exact (hkn.2.2.2.2.1 (by omega)).2 | exact (hkn.2.2.2.2.2 (by omega)).2), ?_⟩
    try simp (disch := omega) only [Int.cast_ofNat_Int, up_s, up_a, up_i, mp_a, mp_ge, cp_a, r42, r43, r44, r54, r55]
    conv => whnf
    refine ⟨fun g => ?_, fun g => ?_⟩
    · simp only [sx_cc, Classical.not_not] at g; try simp only [cmp_eq, cmp_ge, cmp_lt, cmp_gt, cmp_le, Int.cast_ofNat_Int] at g
      conv => whnf
      refine ⟨(by first | assumption | rfl), ?_⟩
      try simp (disch := omega) only [Int.cast_ofNat_Int, up_s, up_a, up_i, mp_a, mp_ge, cp_a, r42, r43, r44, r54, r55]
      conv => whnf
      refine ⟨(by first | assumption | rfl), ?_⟩
      try simp (disch := omega) only [Int.cast_ofNat_Int, up_s, up_a, up_i, mp_a, mp_ge, cp_a, r42, r43, r44, r54, r55]
      conv => whnf
      refine ⟨sx_ixI (by first | assumption | rfl) (by first | omega | exact (hkn.2.2.2.1 (by omega)).1 | exact (hkn.2.2.2.2.1 (by omega)).1 | exact (hkn.2.2.2.2.2 (by omega)).1) (by first | omega | exact (hkn.2.2.2.1 (by omega)).2 | exact (hkn.2.2.2.2.1 (by omega)).2 | exact (hkn.2.2.2.2.2 (by omega)).2), ?_⟩
      try simp (disch := omega) only [Int.cast_ofNat_Int, up_s, up_a, up_i, mp_a, mp_ge, cp_a, r42, r43, r44, r54, r55]
      conv => whnf
      refine ⟨sx_ixI (by first | assumption | rfl) (by first | omega | exact (hkn.2.2.2.1 (by omega)).1 | exact (hkn.2.2.2.2.1 (by omega)).1 | exact (hkn.2.2.2.2.2 (by omega)).1) (by first | omega | exact (hkn.2.2.2.1 (by omega)).2 | exact (hkn.2.2.2.2.1 (by omega)).2 | exact (hkn.2.2.2.2.2 (by omega)).2), ?_⟩
      try simp (disch := omega) only [Int.cast_ofNat_Int, up_s, up_a, up_i, mp_a, mp_ge, cp_a, r42, r43, r44, r54, r55]
      conv => whnf
      refine ⟨(by first | assumption | rfl), ?_⟩
      try simp (disch := omega) only [Int.cast_ofNat_Int, up_s, up_a, up_i, mp_a, mp_ge, cp_a, r42, r43, r44, r54, r55]
      conv => whnf
      refine ⟨sx_ixI (by first | assumption | rfl) (by first | omega | exact (hkn.2.2.2.1 (by omega)).1 | exact (hkn.2.2.2.2.1 (by omega)).1 | exact (hkn.2.2.2.2.2 (by omega)).1) (by first | omega | exact (hkn.2.2.2.1 (by omega)).2 | exact (hkn.2.2.2.2.1 (by omega)).2 | exact (hkn.2.2.2.2.2 (by omega)).2), ?_⟩
      try simp (disch := omega) only [Int.cast_ofNat_Int, up_s, up_a, up_i, mp_a, mp_ge, cp_a, r42, r43, r44, r54, r55]
      conv => whnf
      refine ⟨fun g => ?_, fun g => ?_⟩
      · simp only [sx_cc, Classical.not_not] at g; try simp only [cmp_eq, cmp_ge, cmp_lt, cmp_gt, cmp_le, Int.cast_ofNat_Int] at g
        conv => whnf
        refine ⟨(by first | assumption | rfl), ?_⟩
        try simp (disch := omega) only [Int.cast_ofNat_Int, up_s, up_a, up_i, mp_a, mp_ge, cp_a, r42, r43, r44, r54, r55]
        conv => whnf
        refine ⟨(by first | assumption | rfl), ?_⟩
        try simp (disch := omega) only [Int.cast_ofNat_Int, up_s, up_a, up_i, mp_a, mp_ge, cp_a, r42, r43, r44, r54, r55]
        conv => whnf
        refine ⟨sx_ixI (by first | assumption | rfl) (by first | omega | exact (hkn.2.2.2.1 (by omega)).1 | exact (hkn.2.2.2.2.1 (by omega)).1 | exact (hkn.2.2.2.2.2 (by omega)).1) (by first | omega | exact (hkn.2.2.2.1 (by omega)).2 | exact (hkn.2.2.2.2.1 (by omega)).2 | exact (hkn.2.2.2.2.2 (by omega)).2), ?_⟩
        try simp (disch := omega) only [Int.cast_ofNat_Int, up_s, up_a, up_i, mp_a, mp_ge, cp_a, r42, r43, r44, r54, r55]
        conv => whnf
        refine ⟨sx_ixI (by first | assumption | rfl) (by first | omega | exact (hkn.2.2.2.1 (by omega)).1 | exact (hkn.2.2.2.2.1 (by omega)).1 | exact (hkn.2.2.2.2.2 (by omega)).1) (by first | omega | exact (hkn.2.2.2.1 (by omega)).2 | exact (hkn.2.2.2.2.1 (by omega)).2 | exact (hkn.2.2.2.2.2 (by omega)).2), ?_⟩
        try simp (disch := omega) only [Int.cast_ofNat_Int, up_s, up_a, up_i, mp_a, mp_ge, cp_a, r42, r43, r44, r54, r55]
        conv => whnf
        refine ⟨(by first | assumption | rfl), ?_⟩
        try simp (disch := omega) only [Int.cast_ofNat_Int, up_s, up_a, up_i, mp_a, mp_ge, cp_a, r42, r43, r44, r54, r55]
        conv => whnf
        refine ⟨sx_ixI (by first | assumption | rfl) (by first | omega | exact (hkn.2.2.2.1 (by omega)).1 | exact (hkn.2.2.2.2.1 (by omega)).1 | exact (hkn.2.2.2.2.2 (by omega)).1) (by first | omega | exact (hkn.2.2.2.1 (by omega)).2 | exact (hkn.2.2.2.2.1 (by omega)).2 | exact (hkn.2.2.2.2.2 (by omega)).2), ?_⟩
        try simp (disch := omega) only [Int.cast_ofNat_Int, up_s, up_a, up_i, mp_a, mp_ge, cp_a, r42, r43, r44, r54, r55]
        conv => whnf
        refine ⟨fun g => ?_, ?_⟩
        · skip
          conv => whnf
          refine ⟨(by first | assumption | rfl), ?_⟩
          try simp (disch := omega) only [Int.cast_ofNat_Int, up_s, up_a, up_i, mp_a, mp_ge, cp_a, r42, r43, r44, r54, r55]
          conv => whnf
          refine ⟨sx_ixI (by first | assumption | rfl) (by first | omega | exact (hkn.2.2.2.1 (by omega)).1 | exact (hkn.2.2.2.2.1 (by omega)).1 | exact (hkn.2.2.2.2.2 (by omega)).1) (by first | omega | exact (hkn.2.2.2.1 (by omega)).2 | exact (hkn.2.2.2.2.1 (by omega)).2 | exact (hkn.2.2.2.2.2 (by omega)).2), ?_⟩
          try simp (disch := omega) only [Int.cast_ofNat_Int, up_s, up_a, up_i, mp_a, mp_ge, cp_a, r42, r43, r44, r54, r55]
          conv => whnf
          refine ⟨Nat.le_of_ble_eq_true rfl, Nat.le_of_ble_eq_true rfl, ?_⟩
          refine c_Rcompares ⟨by omega, by omega⟩ (fun v hve => ?_)
          have hvv := fJo_bd (hvb _ (hkn.2.2.2.2.1 (by omega)).1 (hkn.2.2.2.2.1 (by omega)).2) (hvb _ (hkn.2.2.2.2.2 (by omega)).1 (hkn.2.2.2.2.2 (by omega)).2) hve
          conv => whnf
          refine ⟨fun g => ?_, fun g => ?_⟩
          · simp only [sx_cc, Classical.not_not] at g; try simp only [cmp_eq, cmp_ge, cmp_lt, cmp_gt, cmp_le, Int.cast_ofNat_Int] at g
            conv => whnf
            exact h1 _ ⟨by omega, by omega⟩ (fun _ => by rw [fOp_jo (k := σ 139 k) (by omega) rfl, hve]; have hv01 := fJo_cp hve ⟨by omega, by omega⟩; first | (rw [show v = 1 by omega]; rfl) | (rw [show v = 0 by omega]; rfl))
          · simp only [sx_cc, Classical.not_not] at g; try simp only [cmp_eq, cmp_ge, cmp_lt, cmp_gt, cmp_le, Int.cast_ofNat_Int] at g
            conv => whnf
            exact h1 _ ⟨by omega, by omega⟩ (fun _ => by rw [fOp_jo (k := σ 139 k) (by omega) rfl, hve]; have hv01 := fJo_cp hve ⟨by omega, by omega⟩; first | (rw [show v = 1 by omega]; rfl) | (rw [show v = 0 by omega]; rfl))
        conv => whnf
        refine ⟨fun g => ?_, ?_⟩
        · skip
          conv => whnf
          refine ⟨fun g => ?_, fun g => ?_⟩
          · simp only [sx_cc, Classical.not_not] at g; try simp only [cmp_eq, cmp_ge, cmp_lt, cmp_gt, cmp_le, Int.cast_ofNat_Int] at g
            conv => whnf
            exact h1 _ ⟨by omega, by omega⟩ (fun _ => by rw [fOp_jo (k := 3) (by omega) (by omega)]; unfold fJo fB; repeat (first | rw [if_pos (by first | omega | assumption)] | rw [if_neg (by first | omega | assumption)]); try rfl)
          · simp only [sx_cc, Classical.not_not] at g; try simp only [cmp_eq, cmp_ge, cmp_lt, cmp_gt, cmp_le, Int.cast_ofNat_Int] at g
            conv => whnf
            refine ⟨fun g => ?_, fun g => ?_⟩
            · simp only [sx_cc, Classical.not_not] at g; try simp only [cmp_eq, cmp_ge, cmp_lt, cmp_gt, cmp_le, Int.cast_ofNat_Int] at g
              conv => whnf
              exact h1 _ ⟨by omega, by omega⟩ (fun _ => by rw [fOp_jo (k := 3) (by omega) (by omega)]; unfold fJo fB; repeat (first | rw [if_pos (by first | omega | assumption)] | rw [if_neg (by first | omega | assumption)]); try rfl)
            · simp only [sx_cc, Classical.not_not] at g; try simp only [cmp_eq, cmp_ge, cmp_lt, cmp_gt, cmp_le, Int.cast_ofNat_Int] at g
              conv => whnf
              exact h1 _ ⟨by omega, by omega⟩ (fun _ => by rw [fOp_jo (k := 3) (by omega) (by omega)]; unfold fJo fB; repeat (first | rw [if_pos (by first | omega | assumption)] | rw [if_neg (by first | omega | assumption)]); try rfl)
        conv => whnf
        refine ⟨fun g => ?_, ?_⟩
        · skip
          conv => whnf
          refine ⟨fun g => ?_, fun g => ?_⟩
          · simp only [sx_cc, Classical.not_not] at g; try simp only [cmp_eq, cmp_ge, cmp_lt, cmp_gt, cmp_le, Int.cast_ofNat_Int] at g
            conv => whnf
            exact h1 _ ⟨by omega, by omega⟩ (fun _ => by rw [fOp_jo (k := 4) (by omega) (by omega)]; unfold fJo fB; repeat (first | rw [if_pos (by first | omega | assumption)] | rw [if_neg (by first | omega | assumption)]); try rfl)
          · simp only [sx_cc, Classical.not_not] at g; try simp only [cmp_eq, cmp_ge, cmp_lt, cmp_gt, cmp_le, Int.cast_ofNat_Int] at g
            conv => whnf
            refine ⟨fun g => ?_, fun g => ?_⟩
            · simp only [sx_cc, Classical.not_not] at g; try simp only [cmp_eq, cmp_ge, cmp_lt, cmp_gt, cmp_le, Int.cast_ofNat_Int] at g
              conv => whnf
              exact h1 _ ⟨by omega, by omega⟩ (fun _ => by rw [fOp_jo (k := 4) (by omega) (by omega)]; unfold fJo fB; repeat (first | rw [if_pos (by first | omega | assumption)] | rw [if_neg (by first | omega | assumption)]); try rfl)
            · simp only [sx_cc, Classical.not_not] at g; try simp only [cmp_eq, cmp_ge, cmp_lt, cmp_gt, cmp_le, Int.cast_ofNat_Int] at g
              conv => whnf
              exact h1 _ ⟨by omega, by omega⟩ (fun _ => by rw [fOp_jo (k := 4) (by omega) (by omega)]; unfold fJo fB; repeat (first | rw [if_pos (by first | omega | assumption)] | rw [if_neg (by first | omega | assumption)]); try rfl)
        conv => whnf
        refine ⟨fun g => ?_, ?_⟩
        · skip
          conv => whnf
          refine ⟨(by first | assumption | rfl), ?_⟩
          try simp (disch := omega) only [Int.cast_ofNat_Int, up_s, up_a, up_i, mp_a, mp_ge, cp_a, r42, r43, r44, r54, r55]
          conv => whnf
          refine ⟨sx_ixI (by first | assumption | rfl) (by first | omega | exact (hkn.2.2.2.1 (by omega)).1 | exact (hkn.2.2.2.2.1 (by omega)).1 | exact (hkn.2.2.2.2.2 (by omega)).1) (by first | omega | exact (hkn.2.2.2.1 (by omega)).2 | exact (hkn.2.2.2.2.1 (by omega)).2 | exact (hkn.2.2.2.2.2 (by omega)).2), ?_⟩
          try simp (disch := omega) only [Int.cast_ofNat_Int, up_s, up_a, up_i, mp_a, mp_ge, cp_a, r42, r43, r44, r54, r55]
          conv => whnf
          refine ⟨Nat.le_of_ble_eq_true rfl, Nat.le_of_ble_eq_true rfl, ?_⟩
          refine c_Rcompares ⟨by omega, by omega⟩ (fun v hve => ?_)
          have hvv := fJo_bd (hvb _ (hkn.2.2.2.2.1 (by omega)).1 (hkn.2.2.2.2.1 (by omega)).2) (hvb _ (hkn.2.2.2.2.2 (by omega)).1 (hkn.2.2.2.2.2 (by omega)).2) hve
          conv => whnf
          refine ⟨fun g => ?_, fun g => ?_⟩
          · simp only [sx_cc, Classical.not_not] at g; try simp only [cmp_eq, cmp_ge, cmp_lt, cmp_gt, cmp_le, Int.cast_ofNat_Int] at g
            conv => whnf
            exact h1 _ ⟨by omega, by omega⟩ (fun _ => by rw [fOp_jo (k := σ 139 k) (by omega) rfl, hve]; have hv01 := fJo_cp hve ⟨by omega, by omega⟩; first | (rw [show v = 1 by omega]; rfl) | (rw [show v = 0 by omega]; rfl))
          · simp only [sx_cc, Classical.not_not] at g; try simp only [cmp_eq, cmp_ge, cmp_lt, cmp_gt, cmp_le, Int.cast_ofNat_Int] at g
            conv => whnf
            exact h1 _ ⟨by omega, by omega⟩ (fun _ => by rw [fOp_jo (k := σ 139 k) (by omega) rfl, hve]; have hv01 := fJo_cp hve ⟨by omega, by omega⟩; first | (rw [show v = 1 by omega]; rfl) | (rw [show v = 0 by omega]; rfl))
        conv => whnf
        refine ⟨fun g => ?_, ?_⟩
        · skip
          conv => whnf
          refine ⟨(by first | assumption | rfl), ?_⟩
          try simp (disch := omega) only [Int.cast_ofNat_Int, up_s, up_a, up_i, mp_a, mp_ge, cp_a, r42, r43, r44, r54, r55]
          conv => whnf
          refine ⟨sx_ixI (by first | assumption | rfl) (by first | omega | exact (hkn.2.2.2.1 (by omega)).1 | exact (hkn.2.2.2.2.1 (by omega)).1 | exact (hkn.2.2.2.2.2 (by omega)).1) (by first | omega | exact (hkn.2.2.2.1 (by omega)).2 | exact (hkn.2.2.2.2.1 (by omega)).2 | exact (hkn.2.2.2.2.2 (by omega)).2), ?_⟩
          try simp (disch := omega) only [Int.cast_ofNat_Int, up_s, up_a, up_i, mp_a, mp_ge, cp_a, r42, r43, r44, r54, r55]
          conv => whnf
          refine ⟨Nat.le_of_ble_eq_true rfl, Nat.le_of_ble_eq_true rfl, ?_⟩
          refine c_Rcompares ⟨by omega, by omega⟩ (fun v hve => ?_)
          have hvv := fJo_bd (hvb _ (hkn.2.2.2.2.1 (by omega)).1 (hkn.2.2.2.2.1 (by omega)).2) (hvb _ (hkn.2.2.2.2.2 (by omega)).1 (hkn.2.2.2.2.2 (by omega)).2) hve
          conv => whnf
          refine ⟨fun g => ?_, fun g => ?_⟩
          · simp only [sx_cc, Classical.not_not] at g; try simp only [cmp_eq, cmp_ge, cmp_lt, cmp_gt, cmp_le, Int.cast_ofNat_Int] at g
            conv => whnf
            exact h1 _ ⟨by omega, by omega⟩ (fun _ => by rw [fOp_jo (k := σ 139 k) (by omega) rfl, hve]; have hv01 := fJo_cp hve ⟨by omega, by omega⟩; first | (rw [show v = 1 by omega]; rfl) | (rw [show v = 0 by omega]; rfl))
          · simp only [sx_cc, Classical.not_not] at g; try simp only [cmp_eq, cmp_ge, cmp_lt, cmp_gt, cmp_le, Int.cast_ofNat_Int] at g
            conv => whnf
            exact h1 _ ⟨by omega, by omega⟩ (fun _ => by rw [fOp_jo (k := σ 139 k) (by omega) rfl, hve]; have hv01 := fJo_cp hve ⟨by omega, by omega⟩; first | (rw [show v = 1 by omega]; rfl) | (rw [show v = 0 by omega]; rfl))
        conv => whnf
        refine ⟨fun g => ?_, ?_⟩
        · skip
          conv => whnf
          refine ⟨(by first | assumption | rfl), ?_⟩
          try simp (disch := omega) only [Int.cast_ofNat_Int, up_s, up_a, up_i, mp_a, mp_ge, cp_a, r42, r43, r44, r54, r55]
          conv => whnf
          refine ⟨sx_ixI (by first | assumption | rfl) (by first | omega | exact (hkn.2.2.2.1 (by omega)).1 | exact (hkn.2.2.2.2.1 (by omega)).1 | exact (hkn.2.2.2.2.2 (by omega)).1) (by first | omega | exact (hkn.2.2.2.1 (by omega)).2 | exact (hkn.2.2.2.2.1 (by omega)).2 | exact (hkn.2.2.2.2.2 (by omega)).2), ?_⟩
          try simp (disch := omega) only [Int.cast_ofNat_Int, up_s, up_a, up_i, mp_a, mp_ge, cp_a, r42, r43, r44, r54, r55]
          conv => whnf
          refine ⟨Nat.le_of_ble_eq_true rfl, Nat.le_of_ble_eq_true rfl, ?_⟩
          refine c_Rcompares ⟨by omega, by omega⟩ (fun v hve => ?_)
          have hvv := fJo_bd (hvb _ (hkn.2.2.2.2.1 (by omega)).1 (hkn.2.2.2.2.1 (by omega)).2) (hvb _ (hkn.2.2.2.2.2 (by omega)).1 (hkn.2.2.2.2.2 (by omega)).2) hve
          conv => whnf
          refine ⟨fun g => ?_, fun g => ?_⟩
          · simp only [sx_cc, Classical.not_not] at g; try simp only [cmp_eq, cmp_ge, cmp_lt, cmp_gt, cmp_le, Int.cast_ofNat_Int] at g
            conv => whnf
            exact h1 _ ⟨by omega, by omega⟩ (fun _ => by rw [fOp_jo (k := σ 139 k) (by omega) rfl, hve]; have hv01 := fJo_cp hve ⟨by omega, by omega⟩; first | (rw [show v = 1 by omega]; rfl) | (rw [show v = 0 by omega]; rfl))
          · simp only [sx_cc, Classical.not_not] at g; try simp only [cmp_eq, cmp_ge, cmp_lt, cmp_gt, cmp_le, Int.cast_ofNat_Int] at g
            conv => whnf
            exact h1 _ ⟨by omega, by omega⟩ (fun _ => by rw [fOp_jo (k := σ 139 k) (by omega) rfl, hve]; have hv01 := fJo_cp hve ⟨by omega, by omega⟩; first | (rw [show v = 1 by omega]; rfl) | (rw [show v = 0 by omega]; rfl))
        conv => whnf
        refine ⟨fun g => ?_, ?_⟩
        · skip
          conv => whnf
          refine ⟨(by first | assumption | rfl), ?_⟩
          try simp (disch := omega) only [Int.cast_ofNat_Int, up_s, up_a, up_i, mp_a, mp_ge, cp_a, r42, r43, r44, r54, r55]
          conv => whnf
          refine ⟨sx_ixI (by first | assumption | rfl) (by first | omega | exact (hkn.2.2.2.1 (by omega)).1 | exact (hkn.2.2.2.2.1 (by omega)).1 | exact (hkn.2.2.2.2.2 (by omega)).1) (by first | omega | exact (hkn.2.2.2.1 (by omega)).2 | exact (hkn.2.2.2.2.1 (by omega)).2 | exact (hkn.2.2.2.2.2 (by omega)).2), ?_⟩
          try simp (disch := omega) only [Int.cast_ofNat_Int, up_s, up_a, up_i, mp_a, mp_ge, cp_a, r42, r43, r44, r54, r55]
          conv => whnf
          refine ⟨Nat.le_of_ble_eq_true rfl, Nat.le_of_ble_eq_true rfl, ?_⟩
          refine c_Rcompares ⟨by omega, by omega⟩ (fun v hve => ?_)
          have hvv := fJo_bd (hvb _ (hkn.2.2.2.2.1 (by omega)).1 (hkn.2.2.2.2.1 (by omega)).2) (hvb _ (hkn.2.2.2.2.2 (by omega)).1 (hkn.2.2.2.2.2 (by omega)).2) hve
          conv => whnf
          refine ⟨fun g => ?_, fun g => ?_⟩
          · simp only [sx_cc, Classical.not_not] at g; try simp only [cmp_eq, cmp_ge, cmp_lt, cmp_gt, cmp_le, Int.cast_ofNat_Int] at g
            conv => whnf
            exact h1 _ ⟨by omega, by omega⟩ (fun _ => by rw [fOp_jo (k := σ 139 k) (by omega) rfl, hve]; have hv01 := fJo_cp hve ⟨by omega, by omega⟩; first | (rw [show v = 1 by omega]; rfl) | (rw [show v = 0 by omega]; rfl))
          · simp only [sx_cc, Classical.not_not] at g; try simp only [cmp_eq, cmp_ge, cmp_lt, cmp_gt, cmp_le, Int.cast_ofNat_Int] at g
            conv => whnf
            exact h1 _ ⟨by omega, by omega⟩ (fun _ => by rw [fOp_jo (k := σ 139 k) (by omega) rfl, hve]; have hv01 := fJo_cp hve ⟨by omega, by omega⟩; first | (rw [show v = 1 by omega]; rfl) | (rw [show v = 0 by omega]; rfl))
        conv => whnf
        refine ⟨fun g => ?_, ?_⟩
        · skip
          conv => whnf
          refine ⟨(by first | assumption | rfl), ?_⟩
          try simp (disch := omega) only [Int.cast_ofNat_Int, up_s, up_a, up_i, mp_a, mp_ge, cp_a, r42, r43, r44, r54, r55]
          conv => whnf
          refine ⟨sx_ixI (by first | assumption | rfl) (by first | omega | exact (hkn.2.2.2.1 (by omega)).1 | exact (hkn.2.2.2.2.1 (by omega)).1 | exact (hkn.2.2.2.2.2 (by omega)).1) (by first | omega | exact (hkn.2.2.2.1 (by omega)).2 | exact (hkn.2.2.2.2.1 (by omega)).2 | exact (hkn.2.2.2.2.2 (by omega)).2), ?_⟩
          try simp (disch := omega) only [Int.cast_ofNat_Int, up_s, up_a, up_i, mp_a, mp_ge, cp_a, r42, r43, r44, r54, r55]
          conv => whnf
          refine ⟨Nat.le_of_ble_eq_true rfl, Nat.le_of_ble_eq_true rfl, ?_⟩
          refine c_Rcompares ⟨by omega, by omega⟩ (fun v hve => ?_)
          have hvv := fJo_bd (hvb _ (hkn.2.2.2.2.1 (by omega)).1 (hkn.2.2.2.2.1 (by omega)).2) (hvb _ (hkn.2.2.2.2.2 (by omega)).1 (hkn.2.2.2.2.2 (by omega)).2) hve
          conv => whnf
          refine ⟨fun g => ?_, fun g => ?_⟩
          · simp only [sx_cc, Classical.not_not] at g; try simp only [cmp_eq, cmp_ge, cmp_lt, cmp_gt, cmp_le, Int.cast_ofNat_Int] at g
            conv => whnf
            exact h1 _ ⟨by omega, by omega⟩ (fun _ => by rw [fOp_jo (k := σ 139 k) (by omega) rfl, hve]; have hv01 := fJo_cp hve ⟨by omega, by omega⟩; first | (rw [show v = 1 by omega]; rfl) | (rw [show v = 0 by omega]; rfl))
          · simp only [sx_cc, Classical.not_not] at g; try simp only [cmp_eq, cmp_ge, cmp_lt, cmp_gt, cmp_le, Int.cast_ofNat_Int] at g
            conv => whnf
            exact h1 _ ⟨by omega, by omega⟩ (fun _ => by rw [fOp_jo (k := σ 139 k) (by omega) rfl, hve]; have hv01 := fJo_cp hve ⟨by omega, by omega⟩; first | (rw [show v = 1 by omega]; rfl) | (rw [show v = 0 by omega]; rfl))
        conv => whnf
        refine ⟨fun g => ?_, ?_⟩
        · skip
          conv => whnf
          refine ⟨(by first | assumption | rfl), ?_⟩
          try simp (disch := omega) only [Int.cast_ofNat_Int, up_s, up_a, up_i, mp_a, mp_ge, cp_a, r42, r43, r44, r54, r55]
          conv => whnf
          refine ⟨sx_ixI (by first | assumption | rfl) (by first | omega | exact (hkn.2.2.2.1 (by omega)).1 | exact (hkn.2.2.2.2.1 (by omega)).1 | exact (hkn.2.2.2.2.2 (by omega)).1) (by first | omega | exact (hkn.2.2.2.1 (by omega)).2 | exact (hkn.2.2.2.2.1 (by omega)).2 | exact (hkn.2.2.2.2.2 (by omega)).2), ?_⟩
          try simp (disch := omega) only [Int.cast_ofNat_Int, up_s, up_a, up_i, mp_a, mp_ge, cp_a, r42, r43, r44, r54, r55]
          conv => whnf
          refine ⟨Nat.le_of_ble_eq_true rfl, Nat.le_of_ble_eq_true rfl, ?_⟩
          refine c_Rcompares ⟨by omega, by omega⟩ (fun v hve => ?_)
          have hvv := fJo_bd (hvb _ (hkn.2.2.2.2.1 (by omega)).1 (hkn.2.2.2.2.1 (by omega)).2) (hvb _ (hkn.2.2.2.2.2 (by omega)).1 (hkn.2.2.2.2.2 (by omega)).2) hve
          conv => whnf
          refine ⟨fun g => ?_, fun g => ?_⟩
          · simp only [sx_cc, Classical.not_not] at g; try simp only [cmp_eq, cmp_ge, cmp_lt, cmp_gt, cmp_le, Int.cast_ofNat_Int] at g
            conv => whnf
            exact h1 _ ⟨by omega, by omega⟩ (fun _ => by rw [fOp_jo (k := σ 139 k) (by omega) rfl, hve]; have hv01 := fJo_cp hve ⟨by omega, by omega⟩; first | (rw [show v = 1 by omega]; rfl) | (rw [show v = 0 by omega]; rfl))
          · simp only [sx_cc, Classical.not_not] at g; try simp only [cmp_eq, cmp_ge, cmp_lt, cmp_gt, cmp_le, Int.cast_ofNat_Int] at g
            conv => whnf
            exact h1 _ ⟨by omega, by omega⟩ (fun _ => by rw [fOp_jo (k := σ 139 k) (by omega) rfl, hve]; have hv01 := fJo_cp hve ⟨by omega, by omega⟩; first | (rw [show v = 1 by omega]; rfl) | (rw [show v = 0 by omega]; rfl))
        conv => whnf
        refine ⟨fun g => ?_, ?_⟩
        · skip
          conv => whnf
          refine ⟨(by have ha9 := (hvb _ (hkn.2.2.2.2.1 (by omega)).1 (hkn.2.2.2.2.1 (by omega)).2); have hb9 := (hvb _ (hkn.2.2.2.2.2 (by omega)).1 (hkn.2.2.2.2.2 (by omega)).2); unfold pB12 at ha9 hb9; exact ⟨by omega, by omega⟩), ?_⟩
          conv => whnf
          refine ⟨Nat.le_of_ble_eq_true rfl, Nat.le_of_ble_eq_true rfl, (by first | assumption | rfl), ?_⟩
          refine c_Rbounded hfl (fun v hvv hve => ?_) (fun z1 z0 => ?_)
          · skip
            conv => whnf
            first | exact h1 _ hvv (fun z => by rw [fOp_jo (k := 11) (by omega) (by omega), fJo_11, if_pos (show -1000000000000 ≤ (σ 145 (σ 140 k)) + (σ 145 (σ 141 k)) ∧ (σ 145 (σ 140 k)) + (σ 145 (σ 141 k)) ≤ 1000000000000 from (hve z).1), (hve z).2]) | exact h0 (by rw [fOp_jo (k := 11) (by omega) (by omega), fJo_11, if_neg (show ¬ (-1000000000000 ≤ (σ 145 (σ 140 k)) + (σ 145 (σ 141 k)) ∧ (σ 145 (σ 140 k)) + (σ 145 (σ 141 k)) ≤ 1000000000000) from z0)])
          · skip
            conv => whnf
            first | exact h1 _ hvv (fun z => by rw [fOp_jo (k := 11) (by omega) (by omega), fJo_11, if_pos (show -1000000000000 ≤ (σ 145 (σ 140 k)) + (σ 145 (σ 141 k)) ∧ (σ 145 (σ 140 k)) + (σ 145 (σ 141 k)) ≤ 1000000000000 from (hve z).1), (hve z).2]) | exact h0 (by rw [fOp_jo (k := 11) (by omega) (by omega), fJo_11, if_neg (show ¬ (-1000000000000 ≤ (σ 145 (σ 140 k)) + (σ 145 (σ 141 k)) ∧ (σ 145 (σ 140 k)) + (σ 145 (σ 141 k)) ≤ 1000000000000) from z0)])
        conv => whnf
        refine ⟨fun g => ?_, ?_⟩
        · skip
          conv => whnf
          refine ⟨(by have ha9 := (hvb _ (hkn.2.2.2.2.1 (by omega)).1 (hkn.2.2.2.2.1 (by omega)).2); have hb9 := (hvb _ (hkn.2.2.2.2.2 (by omega)).1 (hkn.2.2.2.2.2 (by omega)).2); unfold pB12 at ha9 hb9; exact ⟨by omega, by omega⟩), ?_⟩
          conv => whnf
          refine ⟨Nat.le_of_ble_eq_true rfl, Nat.le_of_ble_eq_true rfl, (by first | assumption | rfl), ?_⟩
          refine c_Rbounded hfl (fun v hvv hve => ?_) (fun z1 z0 => ?_)
          · skip
            conv => whnf
            first | exact h1 _ hvv (fun z => by rw [fOp_jo (k := 12) (by omega) (by omega), fJo_12, if_pos (show -1000000000000 ≤ (σ 145 (σ 140 k)) - (σ 145 (σ 141 k)) ∧ (σ 145 (σ 140 k)) - (σ 145 (σ 141 k)) ≤ 1000000000000 from (hve z).1), (hve z).2]) | exact h0 (by rw [fOp_jo (k := 12) (by omega) (by omega), fJo_12, if_neg (show ¬ (-1000000000000 ≤ (σ 145 (σ 140 k)) - (σ 145 (σ 141 k)) ∧ (σ 145 (σ 140 k)) - (σ 145 (σ 141 k)) ≤ 1000000000000) from z0)])
          · skip
            conv => whnf
            first | exact h1 _ hvv (fun z => by rw [fOp_jo (k := 12) (by omega) (by omega), fJo_12, if_pos (show -1000000000000 ≤ (σ 145 (σ 140 k)) - (σ 145 (σ 141 k)) ∧ (σ 145 (σ 140 k)) - (σ 145 (σ 141 k)) ≤ 1000000000000 from (hve z).1), (hve z).2]) | exact h0 (by rw [fOp_jo (k := 12) (by omega) (by omega), fJo_12, if_neg (show ¬ (-1000000000000 ≤ (σ 145 (σ 140 k)) - (σ 145 (σ 141 k)) ∧ (σ 145 (σ 140 k)) - (σ 145 (σ 141 k)) ≤ 1000000000000) from z0)])
        conv => whnf
        refine ⟨fun g => ?_, ?_⟩
        · skip
          conv => whnf
          refine ⟨Nat.le_of_ble_eq_true rfl, Nat.le_of_ble_eq_true rfl, (by first | assumption | rfl), ?_⟩
          refine c_Rtimes hfl (hvb _ (hkn.2.2.2.2.1 (by omega)).1 (hkn.2.2.2.2.1 (by omega)).2) (hvb _ (hkn.2.2.2.2.2 (by omega)).1 (hkn.2.2.2.2.2 (by omega)).2) (fun v hvv hve => ?_) (fun z1 z0 => ?_)
          · skip
            conv => whnf
            first | exact h1 _ hvv (fun z => by rw [fOp_jo (k := 13) (by omega) (by omega), fJo_13, if_neg (hve z).1, (hve z).2]) | exact h0 (by rw [fOp_jo (k := 13) (by omega) (by omega), fJo_13, if_pos z0])
          · skip
            conv => whnf
            first | exact h1 _ hvv (fun z => by rw [fOp_jo (k := 13) (by omega) (by omega), fJo_13, if_neg (hve z).1, (hve z).2]) | exact h0 (by rw [fOp_jo (k := 13) (by omega) (by omega), fJo_13, if_pos z0])
        conv => whnf
        refine ⟨fun g => ?_, ?_⟩
        · skip
          conv => whnf
          refine ⟨(by first | assumption | rfl), ?_⟩
          try simp (disch := omega) only [Int.cast_ofNat_Int, up_s, up_a, up_i, mp_a, mp_ge, cp_a, r42, r43, r44, r54, r55]
          conv => whnf
          refine ⟨fun g => ?_, fun g => ?_⟩
          · simp only [sx_cc, Classical.not_not] at g; try simp only [cmp_eq, cmp_ge, cmp_lt, cmp_gt, cmp_le, Int.cast_ofNat_Int] at g
            conv => whnf
            refine ⟨(by first | assumption | rfl), by omega, ?_⟩
            try simp (disch := omega) only [Int.cast_ofNat_Int, up_s, up_a, up_i, mp_a, mp_ge, cp_a, r42, r43, r44, r54, r55]
            conv => whnf
            refine ⟨(by first | assumption | rfl), ?_⟩
            try simp (disch := omega) only [Int.cast_ofNat_Int, up_s, up_a, up_i, mp_a, mp_ge, cp_a, r42, r43, r44, r54, r55]
            conv => whnf
            refine ⟨fun g => ?_, fun g => ?_⟩
            · exact absurd g (by simp [sx_cc])
            · skip
              conv => whnf
              first | (rw [up_id (by omega)]; exact h1 0 ⟨by omega, by omega⟩ (fun z => absurd z (by omega))) | exact h0 (by rw [fOp_jo (k := 14) (by omega) (by omega), fJo_14, if_pos (by omega)]) | (rw [up_id (by omega)]; exact h1 _ (td_b12 (hvb _ (hkn.2.2.2.2.1 (by omega)).1 (hkn.2.2.2.2.1 (by omega)).2) (by omega)) (fun _ => by rw [fOp_jo (k := 14) (by omega) (by omega), fJo_14, if_neg (by omega)]))
          · simp only [sx_cc, Classical.not_not] at g; try simp only [cmp_eq, cmp_ge, cmp_lt, cmp_gt, cmp_le, Int.cast_ofNat_Int] at g
            conv => whnf
            refine ⟨fun g => ?_, fun g => ?_⟩
            · simp only [sx_cc, Classical.not_not] at g; try simp only [cmp_eq, cmp_ge, cmp_lt, cmp_gt, cmp_le, Int.cast_ofNat_Int] at g
              conv => whnf
              refine ⟨(by first | assumption | rfl), by omega, ?_⟩
              try simp (disch := omega) only [Int.cast_ofNat_Int, up_s, up_a, up_i, mp_a, mp_ge, cp_a, r42, r43, r44, r54, r55]
              conv => whnf
              refine ⟨(by first | assumption | rfl), ?_⟩
              try simp (disch := omega) only [Int.cast_ofNat_Int, up_s, up_a, up_i, mp_a, mp_ge, cp_a, r42, r43, r44, r54, r55]
              conv => whnf
              refine ⟨fun g => ?_, fun g => ?_⟩
              · skip
                conv => whnf
                refine ⟨by omega, (show sx_r64 _ from pB64 (td_b12 (hvb _ (hkn.2.2.2.2.1 (by omega)).1 (hkn.2.2.2.2.1 (by omega)).2) (by omega))), ?_⟩
                conv => whnf
                first | (rw [up_id (by omega)]; exact h1 0 ⟨by omega, by omega⟩ (fun z => absurd z (by omega))) | exact h0 (by rw [fOp_jo (k := 14) (by omega) (by omega), fJo_14, if_pos (by omega)]) | (rw [up_id (by omega)]; exact h1 _ (td_b12 (hvb _ (hkn.2.2.2.2.1 (by omega)).1 (hkn.2.2.2.2.1 (by omega)).2) (by omega)) (fun _ => by rw [fOp_jo (k := 14) (by omega) (by omega), fJo_14, if_neg (by omega)]))
              · exact absurd g (by simp [sx_cc])
            · simp only [sx_cc, Classical.not_not] at g; try simp only [cmp_eq, cmp_ge, cmp_lt, cmp_gt, cmp_le, Int.cast_ofNat_Int] at g
              conv => whnf
              refine ⟨(by first | assumption | rfl), by omega, ?_⟩
              try simp (disch := omega) only [Int.cast_ofNat_Int, up_s, up_a, up_i, mp_a, mp_ge, cp_a, r42, r43, r44, r54, r55]
              conv => whnf
              refine ⟨(by first | assumption | rfl), ?_⟩
              try simp (disch := omega) only [Int.cast_ofNat_Int, up_s, up_a, up_i, mp_a, mp_ge, cp_a, r42, r43, r44, r54, r55]
              conv => whnf
              refine ⟨fun g => ?_, fun g => ?_⟩
              · exact absurd g (by simp [sx_cc])
              · skip
                conv => whnf
                first | (rw [up_id (by omega)]; exact h1 0 ⟨by omega, by omega⟩ (fun z => absurd z (by omega))) | exact h0 (by rw [fOp_jo (k := 14) (by omega) (by omega), fJo_14, if_pos (by omega)]) | (rw [up_id (by omega)]; exact h1 _ (td_b12 (hvb _ (hkn.2.2.2.2.1 (by omega)).1 (hkn.2.2.2.2.1 (by omega)).2) (by omega)) (fun _ => by rw [fOp_jo (k := 14) (by omega) (by omega), fJo_14, if_neg (by omega)]))
        exact trivial
      · simp only [sx_cc, Classical.not_not] at g; try simp only [cmp_eq, cmp_ge, cmp_lt, cmp_gt, cmp_le, Int.cast_ofNat_Int] at g
        conv => whnf
        refine ⟨fun g => ?_, fun g => ?_⟩
        · simp only [sx_cc, Classical.not_not] at g; try simp only [cmp_eq, cmp_ge, cmp_lt, cmp_gt, cmp_le, Int.cast_ofNat_Int] at g
          conv => whnf
          exact h1 _ ⟨by omega, by omega⟩ (fun _ => by unfold fOp fB; rw [if_neg (by omega), if_neg (by omega), if_pos (by omega)]; repeat (first | rw [if_pos (by first | omega | assumption)] | rw [if_neg (by first | omega | assumption)]); try rfl)
        · simp only [sx_cc, Classical.not_not] at g; try simp only [cmp_eq, cmp_ge, cmp_lt, cmp_gt, cmp_le, Int.cast_ofNat_Int] at g
          conv => whnf
          exact h1 _ ⟨by omega, by omega⟩ (fun _ => by unfold fOp fB; rw [if_neg (by omega), if_neg (by omega), if_pos (by omega)]; repeat (first | rw [if_pos (by first | omega | assumption)] | rw [if_neg (by first | omega | assumption)]); try rfl)
    · simp only [sx_cc, Classical.not_not] at g; try simp only [cmp_eq, cmp_ge, cmp_lt, cmp_gt, cmp_le, Int.cast_ofNat_Int] at g
      conv => whnf
      refine ⟨(by first | assumption | rfl), ?_⟩
      try simp (disch := omega) only [Int.cast_ofNat_Int, up_s, up_a, up_i, mp_a, mp_ge, cp_a, r42, r43, r44, r54, r55]
      conv => whnf
      refine ⟨(by first | assumption | rfl), ?_⟩
      try simp (disch := omega) only [Int.cast_ofNat_Int, up_s, up_a, up_i, mp_a, mp_ge, cp_a, r42, r43, r44, r54, r55]
      conv => whnf
      refine ⟨sx_ixI (by first | assumption | rfl) (by first | omega | exact (hkn.2.2.2.1 (by omega)).1 | exact (hkn.2.2.2.2.1 (by omega)).1 | exact (hkn.2.2.2.2.2 (by omega)).1) (by first | omega | exact (hkn.2.2.2.1 (by omega)).2 | exact (hkn.2.2.2.2.1 (by omega)).2 | exact (hkn.2.2.2.2.2 (by omega)).2), ?_⟩
      try simp (disch := omega) only [Int.cast_ofNat_Int, up_s, up_a, up_i, mp_a, mp_ge, cp_a, r42, r43, r44, r54, r55]
      conv => whnf
      refine ⟨sx_ixI (by first | assumption | rfl) (by first | omega | exact (hkn.2.2.2.1 (by omega)).1 | exact (hkn.2.2.2.2.1 (by omega)).1 | exact (hkn.2.2.2.2.2 (by omega)).1) (by first | omega | exact (hkn.2.2.2.1 (by omega)).2 | exact (hkn.2.2.2.2.1 (by omega)).2 | exact (hkn.2.2.2.2.2 (by omega)).2), ?_⟩
      try simp (disch := omega) only [Int.cast_ofNat_Int, up_s, up_a, up_i, mp_a, mp_ge, cp_a, r42, r43, r44, r54, r55]
      conv => whnf
      exact h1 _ (hnb _ (hkn.2.2.2.1 (by omega)).1 (hkn.2.2.2.1 (by omega)).2) (fun _ => by unfold fOp; rw [if_neg (by omega), if_pos (by omega)])
  · simp only [sx_cc, Classical.not_not] at g; try simp only [cmp_eq, cmp_ge, cmp_lt, cmp_gt, cmp_le, Int.cast_ofNat_Int] at g
    conv => whnf
    refine ⟨(by first | assumption | rfl), ?_⟩
    try simp (disch := omega) only [Int.cast_ofNat_Int, up_s, up_a, up_i, mp_a, mp_ge, cp_a, r42, r43, r44, r54, r55]
    conv => whnf
    refine ⟨sx_ixI (by first | assumption | rfl) (by first | omega | exact (hkn.2.2.2.1 (by omega)).1 | exact (hkn.2.2.2.2.1 (by omega)).1 | exact (hkn.2.2.2.2.2 (by omega)).1) (by first | omega | exact (hkn.2.2.2.1 (by omega)).2 | exact (hkn.2.2.2.2.1 (by omega)).2 | exact (hkn.2.2.2.2.2 (by omega)).2), ?_⟩
    try simp (disch := omega) only [Int.cast_ofNat_Int, up_s, up_a, up_i, mp_a, mp_ge, cp_a, r42, r43, r44, r54, r55]
    conv => whnf
    exact h1 _ (hkn.2.2.1 (by omega)) (fun _ => by unfold fOp; rw [if_pos (by omega)])
end SXK3
