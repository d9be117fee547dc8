/-! LINES ARE TOLD, reference side: fields, trees, farms (by wip/whole) -/
section SXR2
variable {X : sx_X} {Q : sx_R} {σ σ0 σ' σ1 σ2 s s' : sx_S} {tx : Int → Int} {n9 p i : Int}
abbrev FRx (a j : Int) : Prop := (a = 124 ∧ (j = 4 ∨ j = 5 ∨ (7 ≤ j ∧ j ≤ 11) ∨ (18 ≤ j ∧ j ≤ 29) ∨ (45 ≤ j ∧ j ≤ 53 ∧ ¬ j = 46 ∧ ¬ j = 47))) ∨ (127 ≤ a ∧ a ≤ 141 ∧ ¬ a = 134 ∧ fHalf a ≤ j) ∨ a = 142 ∨ a = 143
/-- what the reference has read, beside the class's -/
def cpl (p : Int) (s r : sx_S) : Prop := (r 124 18 = s p 0 ∧ r 124 19 = s p 1 ∧ r 124 20 = s p 4 ∧ r 124 21 = s p 6 ∧ r 124 22 = s 32 14 ∧ r 124 51 = s p 14 ∧ r 124 23 = s p 13) ∧ (r 124 24 = s 35 1 ∧ r 124 25 = s 35 2 ∧ r 124 26 = s 32 6 ∧ r 124 27 = s 32 7 ∧ r 124 28 = s 32 8 ∧ r 124 29 = s 32 9) ∧ (∀ c : Int, 0 ≤ c → c < 48 → r 127 (48 + c) = s (p + 1) c) ∧ (∀ c : Int, 0 ≤ c → c < 48 → r 128 (48 + c) = s (p + 2) c) ∧ (∀ f : Int, 0 ≤ f → f < s p 4 → r 129 (3 + f) = s (p + 3) f) ∧ (∀ f : Int, 0 ≤ f → f < s p 6 → r 130 (5 + f) = s (p + 4) f ∧ r 131 (5 + f) = s (p + 5) f ∧ r 132 (5 + f) = s (p + 6) f ∧ r 133 (5 + f) = s (p + 7) f ∧ r 134 (5 + f) = s (p + 8) f) ∧ (∀ f : Int, 0 ≤ f → f < 24 → r 135 (24 + f) = s (p + 10) f) ∧ (∀ f : Int, 0 ≤ f → f < 5 → 0 ≤ r 134 (5 + f) ∧ r 134 (5 + f) < 48) ∧ (∀ k : Int, 0 ≤ k → k < 3 → (r 136 (3 + fLk k) = 0 ∧ s (p + 14) k ≤ s (p + 13) k) ∨ (r 136 (3 + fLk k) = 1 ∧ s (p + 13) k < s (p + 14) k ∧ r 137 (3 + fLk k) = s (p + 13) k ∧ r 138 (3 + fLk k) = s (p + 14) k)) ∧ (∀ (k y : Int), 0 ≤ k → k < 3 → s (p + 13) k ≤ y → y < s (p + 14) k → r 139 (64 + y) = kdF (s (p + 11)) y ∧ r 140 (64 + y) = ptF (s (p + 11)) (s (p + 12)) (s (p + 13) k) y ∧ (3 ≤ kdF (s (p + 11)) y → r 141 (64 + y) = otF (s (p + 11)) (s (p + 13) k) y))
set_option maxRecDepth 20000 in
theorem r_field (hq : rQ σ tx n9 i) (hc : cpl p s σ) (hF : ∀ (k pl : Int) (σ' : sx_S), zField p s tx n9 i = some (k, pl) → fr FRx σ σ' → rFl σ' k pl → Q (some (.inl 0)) shM σ') (hS : zField p s tx n9 i = none → ∀ σ', fr (fun a j => FRg a j ∨ (a = 124 ∧ (j = 18 ∨ j = 19 ∨ j = 26))) σ σ' → rQ σ' tx n9 (kE tx n9 (kE tx n9 (kE tx n9 i))) → σ' 124 26 = 1 → σ' 124 18 = nV tx n9 1 8 (kE tx n9 i) → σ' 124 19 = nV tx n9 1 6 (kE tx n9 (kE tx n9 i)) → Q (some (.inl 1)) shM σ') : sx_Run X 195 [.inr (.inr 124)] shM σ Q := by
  obtain ⟨⟨c18, c19, c20, c21, c22, c51, c23⟩, ⟨c24, c25, c26, c27, c28, c29⟩, ck, cg, cfn, cwn, chl, chb, clw, ckn⟩ := hc
  have ha := hq.tk.2.1
  refine sx_rule0 (own := 12) (cd := kX12_fieldLine) (nL := 1) (by decide +kernel) (by decide +kernel) kX12_fieldLine_ok (by decide +kernel) (Nat.le_of_ble_eq_true rfl) 40 ?_
  conv => whnf
  refine ⟨(by first | assumption | rfl), ?_⟩
  try simp (disch := omega) only [Int.cast_ofNat_Int, up_s, up_a, up_i, mp_a, mp_ge]
  try simp only [c26]
  try simp only [c29]
  try simp only [v4]
  try simp only [v5]
  conv => whnf
  refine ⟨fun g => ?_, fun g => ?_⟩
  · simp only [sx_cc, Classical.not_not] at g
    have f1 := fBq_0 (k := 3) (s := kS tx n9 (i)) (b := ¬ s 32 6 = 0) (by omega)
    conv => whnf
    refine ⟨(by first | assumption | rfl), ?_⟩
    try simp (disch := omega) only [Int.cast_ofNat_Int, up_s, up_a, up_i, mp_a, mp_ge]
    try simp only [c26]
    try simp only [c29]
    try simp only [v4]
    try simp only [v5]
    conv => whnf
    refine ⟨fun g => ?_, fun g => ?_⟩
    · simp only [sx_cc, Classical.not_not] at g
      have f2 := fBq_0 (k := 4) (s := kS tx n9 (i)) (b := ¬ s 32 9 = 0) (by omega)
      conv => whnf
      refine ⟨(by first | assumption | rfl), by omega, ?_⟩
      try simp (disch := omega) only [Int.cast_ofNat_Int, up_s, up_a, up_i, mp_a, mp_ge]
      try simp only [c26]
      try simp only [c29]
      try simp only [v4]
      try simp only [v5]
      conv => whnf
      refine ⟨Nat.le_of_ble_eq_true rfl, Nat.le_of_ble_eq_true rfl, (by first | assumption | rfl), ?_⟩
      refine r_tok (rQ_up hq (by unfold FRd; omega)) (fun σ3 hf3 hq3 => ?_)
      conv => whnf
      refine ⟨Nat.le_of_ble_eq_true rfl, Nat.le_of_ble_eq_true rfl, (by first | assumption | rfl), ?_⟩
      refine r_num hq3 (by decide) (fun k pl σ4 n4 hf4 hl4 => ?_) (fun n4 σ4 hf4 hq4 v4 => ?_)
      · skip
        conv => whnf
        refine ⟨fun g => ?_, fun g => ?_⟩
        · exact absurd g (by simp [sx_cc])
        · skip
          conv => whnf
          refine ⟨fun q9 => by first | (simp at q9; done) | omega, ?_⟩
          exact hF k pl _ (by unfold zField; rw [f1, f2, n4]; rfl) (fun a j z9 => by unfold FRx at z9; rw [hf4 a j (by unfold FRw; omega), hf3 a j (by unfold FRt; omega), up_n (by omega)]) hl4
      · skip
        conv => whnf
        refine ⟨fun g => ?_, fun g => ?_⟩
        · skip
          conv => whnf
          refine ⟨(by first | assumption | rfl), ?_⟩
          try simp (disch := omega) only [Int.cast_ofNat_Int, up_s, up_a, up_i, mp_a, mp_ge]
          try simp only [c26]
          try simp only [c29]
          try simp only [v4]
          try simp only [v5]
          conv => whnf
          refine ⟨(by first | assumption | rfl), ?_⟩
          try simp (disch := omega) only [Int.cast_ofNat_Int, up_s, up_a, up_i, mp_a, mp_ge]
          try simp only [c26]
          try simp only [c29]
          try simp only [v4]
          try simp only [v5]
          conv => whnf
          refine ⟨Nat.le_of_ble_eq_true rfl, Nat.le_of_ble_eq_true rfl, (by first | assumption | rfl), ?_⟩
          refine r_num (rQ_up hq4 (by unfold FRd; omega)) (by decide) (fun k pl σ5 n5 hf5 hl5 => ?_) (fun n5 σ5 hf5 hq5 v5 => ?_)
          · skip
            conv => whnf
            refine ⟨fun g => ?_, fun g => ?_⟩
            · exact absurd g (by simp [sx_cc])
            · skip
              conv => whnf
              refine ⟨fun q9 => by first | (simp at q9; done) | omega, ?_⟩
              exact hF k pl _ (by unfold zField; rw [f1, f2, n4, n5]; rfl) (fun a j z9 => by unfold FRx at z9; rw [hf5 a j (by unfold FRw; omega), up_n (by omega), hf4 a j (by unfold FRg; omega), hf3 a j (by unfold FRt; omega), up_n (by omega)]) hl5
          · skip
            conv => whnf
            refine ⟨fun g => ?_, fun g => ?_⟩
            · skip
              conv => whnf
              refine ⟨(by first | assumption | rfl), ?_⟩
              try simp (disch := omega) only [Int.cast_ofNat_Int, up_s, up_a, up_i, mp_a, mp_ge]
              try simp only [c26]
              try simp only [c29]
              try simp only [v4]
              try simp only [v5]
              conv => whnf
              refine ⟨(by first | assumption | rfl), ?_⟩
              try simp (disch := omega) only [Int.cast_ofNat_Int, up_s, up_a, up_i, mp_a, mp_ge]
              try simp only [c26]
              try simp only [c29]
              try simp only [v4]
              try simp only [v5]
              conv => whnf
              refine ⟨fun q9 => by first | (simp at q9; done) | omega, ?_⟩
              refine hS (by unfold zField; rw [f1, f2, n4, n5]; rfl) _ (fun a j z9 => by unfold FRg at z9; rw [up_n (by omega), hf5 a j (by unfold FRg; omega), up_n (by omega), hf4 a j (by unfold FRg; omega), hf3 a j (by unfold FRt; omega), up_n (by omega)]) (rQ_up hq5 (by unfold FRd; omega)) ?_ ?_ ?_
              · rw [up_n (by omega), hf5 _ _ (by unfold FRg; omega), up_n (by omega), hf4 _ _ (by unfold FRg; omega), hf3 _ _ (by unfold FRt; omega), up_s]
              · rw [up_n (by omega), hf5 _ _ (by unfold FRg; omega), up_s]
              · rw [up_s]
            · exact absurd g (by simp [sx_cc])
        · exact absurd g (by simp [sx_cc])
    · simp only [sx_cc, Classical.not_not] at g
      have f2 := fBq_1 (k := 4) (s := kS tx n9 (i)) (b := ¬ s 32 9 = 0) (by omega)
      conv => whnf
      refine ⟨Nat.le_of_ble_eq_true rfl, Nat.le_of_ble_eq_true rfl, (by first | assumption | rfl), ?_⟩
      refine r_wrong ?_
      conv => whnf
      refine ⟨fun q9 => by first | (simp at q9; done) | omega, ?_⟩
      exact hF _ _ _ (by unfold zField; rw [f1, f2]; rfl) (fun a j z9 => by unfold FRx at z9; rw [up_n (by omega), up_n (by omega)]) ⟨by rw [up_n (by omega), up_s], by rw [up_s, ha]⟩
  · simp only [sx_cc, Classical.not_not] at g
    have f1 := fBq_1 (k := 3) (s := kS tx n9 (i)) (b := ¬ s 32 6 = 0) (by omega)
    conv => whnf
    refine ⟨Nat.le_of_ble_eq_true rfl, Nat.le_of_ble_eq_true rfl, (by first | assumption | rfl), ?_⟩
    refine r_wrong ?_
    conv => whnf
    refine ⟨fun q9 => by first | (simp at q9; done) | omega, ?_⟩
    exact hF _ _ _ (by unfold zField; rw [f1]; rfl) (fun a j z9 => by unfold FRx at z9; rw [up_n (by omega), up_n (by omega)]) ⟨by rw [up_n (by omega), up_s], by rw [up_s, ha]⟩
theorem rw_127 (hq : rQ σ tx n9 i) : σ 124 30 = 127 := pt_124_30 hq.pt
theorem rw_128 (hq : rQ σ tx n9 i) : σ 124 31 = 128 := pt_124_31 hq.pt
set_option maxRecDepth 20000 in
theorem r_tree1 (hq : rQ σ tx n9 i) (hc : cpl p s σ) (wz : wZ p s) (hF : ∀ (k pl : Int) (σ' : sx_S), zKind p 1 s tx n9 i = some (k, pl) → fr FRx σ σ' → rFl σ' k pl → Q (some (.inl 0)) shM σ') (hS : zKind p 1 s tx n9 i = none → ∀ σ', fr (fun a j => FRg a j ∨ (a = 124 ∧ (j = 24 ∨ j = 25 ∨ j = 29 ∨ j = 45)) ∨ (a = 127 ∧ j = 48 + zCell p s tx n9 (kE tx n9 i))) σ σ' → rQ σ' tx n9 (kE tx n9 (kE tx n9 (kE tx n9 i))) → σ' 124 29 = 1 → σ' 127 (48 + zCell p s tx n9 (kE tx n9 i)) = 1 → σ' 124 24 = σ 124 24 + 1 → σ' 124 25 = σ 124 25 + 0 → Q (some (.inl 1)) shM σ') : sx_Run X 196 [.inr (.inr 124), .inl 0] shM σ Q := by
  obtain ⟨⟨c18, c19, c20, c21, c22, c51, c23⟩, ⟨c24, c25, c26, c27, c28, c29⟩, ck, cg, cfn, cwn, chl, chb, clw, ckn⟩ := hc
  obtain ⟨z0, z1, z2, z3, z4, z5⟩ := wz
  have wz : wZ p s := ⟨z0, z1, z2, z3, z4, z5⟩
  have ha := hq.tk.2.1
  have zb := zCell_bd (tx := tx) (n9 := n9) (i := kE tx n9 i) wz
  have zc : nV tx n9 0 (s p 1 - 1) (kE tx n9 (kE tx n9 i)) * s p 0 + nV tx n9 0 (s p 0 - 1) (kE tx n9 i) = zCell p s tx n9 (kE tx n9 i) := rfl
  refine sx_rule0 (own := 12) (cd := kX12_treeLine) (nL := 2) (by decide +kernel) (by decide +kernel) kX12_treeLine_ok (by decide +kernel) (Nat.le_of_ble_eq_true rfl) 40 ?_
  conv => whnf
  refine ⟨fun g => ?_, fun g => ?_⟩
  · skip
    conv => whnf
    refine ⟨(by first | assumption | rfl), ?_⟩
    try simp (disch := omega) only [Int.cast_ofNat_Int, up_s, up_a, up_i, mp_a, mp_ge]
    try simp only [c24]
    try simp only [c25]
    try simp only [t27]
    try simp only [v4]
    try simp only [u24]
    try simp only [u25]
    try simp only [w45]
    try simp only [uk]
    try simp only [lk_127]
    conv => whnf
    refine ⟨fun g => ?_, fun g => ?_⟩
    · simp only [sx_cc, Classical.not_not] at g
      have f1 := fBq_0 (k := 2) (s := kS tx n9 (i)) (b := 12 ≤ s 35 1) (by omega)
      conv => whnf
      refine ⟨Nat.le_of_ble_eq_true rfl, Nat.le_of_ble_eq_true rfl, (by first | assumption | rfl), ?_⟩
      refine r_tok hq (fun σ3 hf3 hq3 => ?_)
      have w18 : σ3 124 18 = s p 0 := (hf3 _ _ (by unfold FRt; omega)).trans c18
      have w19 : σ3 124 19 = s p 1 := (hf3 _ _ (by unfold FRt; omega)).trans c19
      conv => whnf
      refine ⟨Nat.le_of_ble_eq_true rfl, Nat.le_of_ble_eq_true rfl, (by first | assumption | rfl), ?_⟩
      refine r_cellr hq3 (by rw [w18, w19]; exact ⟨z0, z1⟩) (fun k pl σ4 n4 hf4 hl4 => ?_) (fun n4 σ4 hf4 hq4 v29 v45 v4 => ?_)
      · rw [w18, w19] at n4
        conv => whnf
        refine ⟨fun g => ?_, fun g => ?_⟩
        · exact absurd g (by simp [sx_cc])
        · skip
          conv => whnf
          refine ⟨fun q9 => by first | (simp at q9; done) | omega, ?_⟩
          exact hF k pl _ (by unfold zKind; rw [f1]; rw [← n4]; first | rfl | (rw [Option.none_or, ← Option.or_assoc, n4]; rfl)) (fun a j z9 => by unfold FRx at z9; rw [hf4 a j (by unfold FRw; omega), hf3 a j (by unfold FRt; omega)]) hl4
      · rw [w18, w19] at n4 v4
        rw [zc] at v4
        obtain ⟨n4, n5⟩ := or_n n4
        have t27 := rw_127 hq4
        have hg4 : ∀ a j : Int, ¬ (a = 124 ∧ ((7 ≤ j ∧ j ≤ 11) ∨ j = 29 ∨ j = 45)) → σ4 a j = σ a j := fun a j z9 => (hf4 a j (by unfold FRg; omega)).trans (hf3 a j (by unfold FRt; omega))
        have u24 : σ4 124 24 = s 35 1 := (hg4 _ _ (by omega)).trans c24
        have u25 : σ4 124 25 = s 35 2 := (hg4 _ _ (by omega)).trans c25
        have uk : σ4 127 (48 + zCell p s tx n9 (kE tx n9 i)) = s (p + 1) (zCell p s tx n9 (kE tx n9 i)) := (hg4 _ _ (by omega)).trans (ck _ zb.1 zb.2.1)
        have w45 := v45
        conv => whnf
        refine ⟨fun g => ?_, fun g => ?_⟩
        · skip
          conv => whnf
          refine ⟨(by first | assumption | rfl), ?_⟩
          try simp (disch := omega) only [Int.cast_ofNat_Int, up_s, up_a, up_i, mp_a, mp_ge]
          try simp only [c24]
          try simp only [c25]
          try simp only [t27]
          try simp only [v4]
          try simp only [u24]
          try simp only [u25]
          try simp only [w45]
          try simp only [uk]
          try simp only [lk_127]
          conv => whnf
          refine ⟨(by first | assumption | rfl), ?_⟩
          try simp (disch := omega) only [Int.cast_ofNat_Int, up_s, up_a, up_i, mp_a, mp_ge]
          try simp only [c24]
          try simp only [c25]
          try simp only [t27]
          try simp only [v4]
          try simp only [u24]
          try simp only [u25]
          try simp only [w45]
          try simp only [uk]
          try simp only [lk_127]
          conv => whnf
          refine ⟨⟨by omega, by omega⟩, ?_⟩
          conv => whnf
          refine ⟨sx_ixI (by first | assumption | rfl) (by omega) (by omega), ?_⟩
          try simp (disch := omega) only [Int.cast_ofNat_Int, up_s, up_a, up_i, mp_a, mp_ge]
          try simp only [c24]
          try simp only [c25]
          try simp only [t27]
          try simp only [v4]
          try simp only [u24]
          try simp only [u25]
          try simp only [w45]
          try simp only [uk]
          try simp only [lk_127]
          conv => whnf
          refine ⟨fun g => ?_, fun g => ?_⟩
          · simp only [sx_cc, Classical.not_not] at g
            have f2 := fBq_0 (k := 3) (s := kS tx n9 (kE tx n9 (kE tx n9 i))) (b := ¬ s (p + 1) (zCell p s tx n9 (kE tx n9 i)) = 0) (by omega)
            conv => whnf
            refine ⟨(by first | assumption | rfl), ?_⟩
            try simp (disch := omega) only [Int.cast_ofNat_Int, up_s, up_a, up_i, mp_a, mp_ge]
            try simp only [c24]
            try simp only [c25]
            try simp only [t27]
            try simp only [v4]
            try simp only [u24]
            try simp only [u25]
            try simp only [w45]
            try simp only [uk]
            try simp only [lk_127]
            conv => whnf
            refine ⟨(by first | assumption | rfl), ?_⟩
            try simp (disch := omega) only [Int.cast_ofNat_Int, up_s, up_a, up_i, mp_a, mp_ge]
            try simp only [c24]
            try simp only [c25]
            try simp only [t27]
            try simp only [v4]
            try simp only [u24]
            try simp only [u25]
            try simp only [w45]
            try simp only [uk]
            try simp only [lk_127]
            conv => whnf
            refine ⟨⟨by omega, by omega⟩, ?_⟩
            conv => whnf
            refine ⟨fun g => ?_, fun g => ?_⟩
            · skip
              conv => whnf
              refine ⟨sx_ixI (by first | assumption | rfl) (by omega) (by omega), ?_⟩
              conv => whnf
              refine ⟨(by first | assumption | rfl), ?_⟩
              try simp (disch := omega) only [Int.cast_ofNat_Int, up_s, up_a, up_i, mp_a, mp_ge]
              try simp only [c24]
              try simp only [c25]
              try simp only [t27]
              try simp only [v4]
              try simp only [u24]
              try simp only [u25]
              try simp only [w45]
              try simp only [uk]
              try simp only [lk_127]
              conv => whnf
              refine ⟨fun g => ?_, fun g => ?_⟩
              · skip
                conv => whnf
                refine ⟨⟨by omega, by omega⟩, ?_⟩
                conv => whnf
                refine ⟨(by first | assumption | rfl), ?_⟩
                try simp (disch := omega) only [Int.cast_ofNat_Int, up_s, up_a, up_i, mp_a, mp_ge]
                try simp only [c24]
                try simp only [c25]
                try simp only [t27]
                try simp only [v4]
                try simp only [u24]
                try simp only [u25]
                try simp only [w45]
                try simp only [uk]
                try simp only [lk_127]
                conv => whnf
                refine ⟨(by first | assumption | rfl), ?_⟩
                try simp (disch := omega) only [Int.cast_ofNat_Int, up_s, up_a, up_i, mp_a, mp_ge]
                try simp only [c24]
                try simp only [c25]
                try simp only [t27]
                try simp only [v4]
                try simp only [u24]
                try simp only [u25]
                try simp only [w45]
                try simp only [uk]
                try simp only [lk_127]
                conv => whnf
                refine ⟨fun g => ?_, fun g => ?_⟩
                · skip
                  conv => whnf
                  refine ⟨⟨by omega, by omega⟩, ?_⟩
                  conv => whnf
                  refine ⟨(by first | assumption | rfl), ?_⟩
                  try simp (disch := omega) only [Int.cast_ofNat_Int, up_s, up_a, up_i, mp_a, mp_ge]
                  try simp only [c24]
                  try simp only [c25]
                  try simp only [t27]
                  try simp only [v4]
                  try simp only [u24]
                  try simp only [u25]
                  try simp only [w45]
                  try simp only [uk]
                  try simp only [lk_127]
                  conv => whnf
                  refine ⟨fun q9 => by first | (simp at q9; done) | omega, ?_⟩
                  refine hS (by unfold zKind; rw [f1, n4, n5, f2]; rfl) _ (fun a j z9 => ?_) (rQ_up (rQ_up (rQ_up hq4 (by unfold FRd; omega)) (by unfold FRd; omega)) (by unfold FRd; omega)) ?_ ?_ ?_ ?_
                  · unfold FRg at z9; rw [up_n (by omega), up_n (by omega), up_n (by omega), hg4 a j (by omega)]
                  · rw [up_n (by omega), up_n (by omega), up_n (by omega)]; exact v29
                  · rw [up_n (by omega), up_n (by omega), up_s]
                  · rw [up_n (by omega), up_s]; omega
                  · rw [up_s]; omega
                · exact absurd g (by simp [sx_cc])
              · exact absurd g (by simp [sx_cc])
            · exact absurd g (by simp [sx_cc])
          · simp only [sx_cc, Classical.not_not] at g
            have f2 := fBq_1 (k := 3) (s := kS tx n9 (kE tx n9 (kE tx n9 i))) (b := ¬ s (p + 1) (zCell p s tx n9 (kE tx n9 i)) = 0) (by omega)
            conv => whnf
            refine ⟨(by first | assumption | rfl), ?_⟩
            try simp (disch := omega) only [Int.cast_ofNat_Int, up_s, up_a, up_i, mp_a, mp_ge]
            try simp only [c24]
            try simp only [c25]
            try simp only [t27]
            try simp only [v4]
            try simp only [u24]
            try simp only [u25]
            try simp only [w45]
            try simp only [uk]
            try simp only [lk_127]
            conv => whnf
            refine ⟨(by first | assumption | rfl), ?_⟩
            try simp (disch := omega) only [Int.cast_ofNat_Int, up_s, up_a, up_i, mp_a, mp_ge]
            try simp only [c24]
            try simp only [c25]
            try simp only [t27]
            try simp only [v4]
            try simp only [u24]
            try simp only [u25]
            try simp only [w45]
            try simp only [uk]
            try simp only [lk_127]
            conv => whnf
            refine ⟨Nat.le_of_ble_eq_true rfl, Nat.le_of_ble_eq_true rfl, (by first | assumption | rfl), ?_⟩
            refine r_wrong ?_
            conv => whnf
            refine ⟨fun q9 => by first | (simp at q9; done) | omega, ?_⟩
            exact hF _ _ _ (by unfold zKind; rw [f1, n4, n5, f2]; rfl) (fun a j z9 => by unfold FRx at z9; rw [up_n (by omega), up_n (by omega), up_n (by omega), hg4 a j (by omega)]) ⟨by rw [up_n (by omega), up_s], by rw [up_s, up_s]⟩
        · exact absurd g (by simp [sx_cc])
    · simp only [sx_cc, Classical.not_not] at g
      have f1 := fBq_1 (k := 2) (s := kS tx n9 (i)) (b := 12 ≤ s 35 1) (by omega)
      conv => whnf
      refine ⟨Nat.le_of_ble_eq_true rfl, Nat.le_of_ble_eq_true rfl, (by first | assumption | rfl), ?_⟩
      refine r_wrong ?_
      conv => whnf
      refine ⟨fun q9 => by first | (simp at q9; done) | omega, ?_⟩
      exact hF _ _ _ (by unfold zKind; rw [f1]; rfl) (fun a j z9 => by unfold FRx at z9; rw [up_n (by omega), up_n (by omega)]) ⟨by rw [up_n (by omega), up_s], by rw [up_s, ha]⟩
  · exact absurd g (by simp [sx_cc])
set_option maxRecDepth 20000 in
theorem r_tree2 (hq : rQ σ tx n9 i) (hc : cpl p s σ) (wz : wZ p s) (hF : ∀ (k pl : Int) (σ' : sx_S), zKind p 2 s tx n9 i = some (k, pl) → fr FRx σ σ' → rFl σ' k pl → Q (some (.inl 0)) shM σ') (hS : zKind p 2 s tx n9 i = none → ∀ σ', fr (fun a j => FRg a j ∨ (a = 124 ∧ (j = 24 ∨ j = 25 ∨ j = 29 ∨ j = 45)) ∨ (a = 127 ∧ j = 48 + zCell p s tx n9 (kE tx n9 i))) σ σ' → rQ σ' tx n9 (kE tx n9 (kE tx n9 (kE tx n9 i))) → σ' 124 29 = 1 → σ' 127 (48 + zCell p s tx n9 (kE tx n9 i)) = 2 → σ' 124 24 = σ 124 24 + 0 → σ' 124 25 = σ 124 25 + 1 → Q (some (.inl 1)) shM σ') : sx_Run X 196 [.inr (.inr 124), .inl 1] shM σ Q := by
  obtain ⟨⟨c18, c19, c20, c21, c22, c51, c23⟩, ⟨c24, c25, c26, c27, c28, c29⟩, ck, cg, cfn, cwn, chl, chb, clw, ckn⟩ := hc
  obtain ⟨z0, z1, z2, z3, z4, z5⟩ := wz
  have wz : wZ p s := ⟨z0, z1, z2, z3, z4, z5⟩
  have ha := hq.tk.2.1
  have zb := zCell_bd (tx := tx) (n9 := n9) (i := kE tx n9 i) wz
  have zc : nV tx n9 0 (s p 1 - 1) (kE tx n9 (kE tx n9 i)) * s p 0 + nV tx n9 0 (s p 0 - 1) (kE tx n9 i) = zCell p s tx n9 (kE tx n9 i) := rfl
  refine sx_rule0 (own := 12) (cd := kX12_treeLine) (nL := 2) (by decide +kernel) (by decide +kernel) kX12_treeLine_ok (by decide +kernel) (Nat.le_of_ble_eq_true rfl) 40 ?_
  conv => whnf
  refine ⟨fun g => ?_, fun g => ?_⟩
  · exact absurd g (by simp [sx_cc])
  · skip
    conv => whnf
    refine ⟨(by first | assumption | rfl), ?_⟩
    try simp (disch := omega) only [Int.cast_ofNat_Int, up_s, up_a, up_i, mp_a, mp_ge]
    try simp only [c24]
    try simp only [c25]
    try simp only [t27]
    try simp only [v4]
    try simp only [u24]
    try simp only [u25]
    try simp only [w45]
    try simp only [uk]
    try simp only [lk_127]
    conv => whnf
    refine ⟨fun g => ?_, fun g => ?_⟩
    · simp only [sx_cc, Classical.not_not] at g
      have f1 := fBq_0 (k := 2) (s := kS tx n9 (i)) (b := 12 ≤ s 35 2) (by omega)
      conv => whnf
      refine ⟨Nat.le_of_ble_eq_true rfl, Nat.le_of_ble_eq_true rfl, (by first | assumption | rfl), ?_⟩
      refine r_tok hq (fun σ3 hf3 hq3 => ?_)
      have w18 : σ3 124 18 = s p 0 := (hf3 _ _ (by unfold FRt; omega)).trans c18
      have w19 : σ3 124 19 = s p 1 := (hf3 _ _ (by unfold FRt; omega)).trans c19
      conv => whnf
      refine ⟨Nat.le_of_ble_eq_true rfl, Nat.le_of_ble_eq_true rfl, (by first | assumption | rfl), ?_⟩
      refine r_cellr hq3 (by rw [w18, w19]; exact ⟨z0, z1⟩) (fun k pl σ4 n4 hf4 hl4 => ?_) (fun n4 σ4 hf4 hq4 v29 v45 v4 => ?_)
      · rw [w18, w19] at n4
        conv => whnf
        refine ⟨fun g => ?_, fun g => ?_⟩
        · exact absurd g (by simp [sx_cc])
        · skip
          conv => whnf
          refine ⟨fun q9 => by first | (simp at q9; done) | omega, ?_⟩
          exact hF k pl _ (by unfold zKind; rw [f1]; rw [← n4]; first | rfl | (rw [Option.none_or, ← Option.or_assoc, n4]; rfl)) (fun a j z9 => by unfold FRx at z9; rw [hf4 a j (by unfold FRw; omega), hf3 a j (by unfold FRt; omega)]) hl4
      · rw [w18, w19] at n4 v4
        rw [zc] at v4
        obtain ⟨n4, n5⟩ := or_n n4
        have t27 := rw_127 hq4
        have hg4 : ∀ a j : Int, ¬ (a = 124 ∧ ((7 ≤ j ∧ j ≤ 11) ∨ j = 29 ∨ j = 45)) → σ4 a j = σ a j := fun a j z9 => (hf4 a j (by unfold FRg; omega)).trans (hf3 a j (by unfold FRt; omega))
        have u24 : σ4 124 24 = s 35 1 := (hg4 _ _ (by omega)).trans c24
        have u25 : σ4 124 25 = s 35 2 := (hg4 _ _ (by omega)).trans c25
        have uk : σ4 127 (48 + zCell p s tx n9 (kE tx n9 i)) = s (p + 1) (zCell p s tx n9 (kE tx n9 i)) := (hg4 _ _ (by omega)).trans (ck _ zb.1 zb.2.1)
        have w45 := v45
        conv => whnf
        refine ⟨fun g => ?_, fun g => ?_⟩
        · skip
          conv => whnf
          refine ⟨(by first | assumption | rfl), ?_⟩
          try simp (disch := omega) only [Int.cast_ofNat_Int, up_s, up_a, up_i, mp_a, mp_ge]
          try simp only [c24]
          try simp only [c25]
          try simp only [t27]
          try simp only [v4]
          try simp only [u24]
          try simp only [u25]
          try simp only [w45]
          try simp only [uk]
          try simp only [lk_127]
          conv => whnf
          refine ⟨(by first | assumption | rfl), ?_⟩
          try simp (disch := omega) only [Int.cast_ofNat_Int, up_s, up_a, up_i, mp_a, mp_ge]
          try simp only [c24]
          try simp only [c25]
          try simp only [t27]
          try simp only [v4]
          try simp only [u24]
          try simp only [u25]
          try simp only [w45]
          try simp only [uk]
          try simp only [lk_127]
          conv => whnf
          refine ⟨⟨by omega, by omega⟩, ?_⟩
          conv => whnf
          refine ⟨sx_ixI (by first | assumption | rfl) (by omega) (by omega), ?_⟩
          try simp (disch := omega) only [Int.cast_ofNat_Int, up_s, up_a, up_i, mp_a, mp_ge]
          try simp only [c24]
          try simp only [c25]
          try simp only [t27]
          try simp only [v4]
          try simp only [u24]
          try simp only [u25]
          try simp only [w45]
          try simp only [uk]
          try simp only [lk_127]
          conv => whnf
          refine ⟨fun g => ?_, fun g => ?_⟩
          · simp only [sx_cc, Classical.not_not] at g
            have f2 := fBq_0 (k := 3) (s := kS tx n9 (kE tx n9 (kE tx n9 i))) (b := ¬ s (p + 1) (zCell p s tx n9 (kE tx n9 i)) = 0) (by omega)
            conv => whnf
            refine ⟨(by first | assumption | rfl), ?_⟩
            try simp (disch := omega) only [Int.cast_ofNat_Int, up_s, up_a, up_i, mp_a, mp_ge]
            try simp only [c24]
            try simp only [c25]
            try simp only [t27]
            try simp only [v4]
            try simp only [u24]
            try simp only [u25]
            try simp only [w45]
            try simp only [uk]
            try simp only [lk_127]
            conv => whnf
            refine ⟨(by first | assumption | rfl), ?_⟩
            try simp (disch := omega) only [Int.cast_ofNat_Int, up_s, up_a, up_i, mp_a, mp_ge]
            try simp only [c24]
            try simp only [c25]
            try simp only [t27]
            try simp only [v4]
            try simp only [u24]
            try simp only [u25]
            try simp only [w45]
            try simp only [uk]
            try simp only [lk_127]
            conv => whnf
            refine ⟨⟨by omega, by omega⟩, ?_⟩
            conv => whnf
            refine ⟨fun g => ?_, fun g => ?_⟩
            · exact absurd g (by simp [sx_cc])
            · skip
              conv => whnf
              refine ⟨sx_ixI (by first | assumption | rfl) (by omega) (by omega), ?_⟩
              conv => whnf
              refine ⟨(by first | assumption | rfl), ?_⟩
              try simp (disch := omega) only [Int.cast_ofNat_Int, up_s, up_a, up_i, mp_a, mp_ge]
              try simp only [c24]
              try simp only [c25]
              try simp only [t27]
              try simp only [v4]
              try simp only [u24]
              try simp only [u25]
              try simp only [w45]
              try simp only [uk]
              try simp only [lk_127]
              conv => whnf
              refine ⟨fun g => ?_, fun g => ?_⟩
              · exact absurd g (by simp [sx_cc])
              · skip
                conv => whnf
                refine ⟨⟨by omega, by omega⟩, ?_⟩
                conv => whnf
                refine ⟨(by first | assumption | rfl), ?_⟩
                try simp (disch := omega) only [Int.cast_ofNat_Int, up_s, up_a, up_i, mp_a, mp_ge]
                try simp only [c24]
                try simp only [c25]
                try simp only [t27]
                try simp only [v4]
                try simp only [u24]
                try simp only [u25]
                try simp only [w45]
                try simp only [uk]
                try simp only [lk_127]
                conv => whnf
                refine ⟨(by first | assumption | rfl), ?_⟩
                try simp (disch := omega) only [Int.cast_ofNat_Int, up_s, up_a, up_i, mp_a, mp_ge]
                try simp only [c24]
                try simp only [c25]
                try simp only [t27]
                try simp only [v4]
                try simp only [u24]
                try simp only [u25]
                try simp only [w45]
                try simp only [uk]
                try simp only [lk_127]
                conv => whnf
                refine ⟨fun g => ?_, fun g => ?_⟩
                · exact absurd g (by simp [sx_cc])
                · skip
                  conv => whnf
                  refine ⟨⟨by omega, by omega⟩, ?_⟩
                  conv => whnf
                  refine ⟨(by first | assumption | rfl), ?_⟩
                  try simp (disch := omega) only [Int.cast_ofNat_Int, up_s, up_a, up_i, mp_a, mp_ge]
                  try simp only [c24]
                  try simp only [c25]
                  try simp only [t27]
                  try simp only [v4]
                  try simp only [u24]
                  try simp only [u25]
                  try simp only [w45]
                  try simp only [uk]
                  try simp only [lk_127]
                  conv => whnf
                  refine ⟨fun q9 => by first | (simp at q9; done) | omega, ?_⟩
                  refine hS (by unfold zKind; rw [f1, n4, n5, f2]; rfl) _ (fun a j z9 => ?_) (rQ_up (rQ_up (rQ_up hq4 (by unfold FRd; omega)) (by unfold FRd; omega)) (by unfold FRd; omega)) ?_ ?_ ?_ ?_
                  · unfold FRg at z9; rw [up_n (by omega), up_n (by omega), up_n (by omega), hg4 a j (by omega)]
                  · rw [up_n (by omega), up_n (by omega), up_n (by omega)]; exact v29
                  · rw [up_n (by omega), up_n (by omega), up_s]
                  · rw [up_n (by omega), up_s]; omega
                  · rw [up_s]; omega
          · simp only [sx_cc, Classical.not_not] at g
            have f2 := fBq_1 (k := 3) (s := kS tx n9 (kE tx n9 (kE tx n9 i))) (b := ¬ s (p + 1) (zCell p s tx n9 (kE tx n9 i)) = 0) (by omega)
            conv => whnf
            refine ⟨(by first | assumption | rfl), ?_⟩
            try simp (disch := omega) only [Int.cast_ofNat_Int, up_s, up_a, up_i, mp_a, mp_ge]
            try simp only [c24]
            try simp only [c25]
            try simp only [t27]
            try simp only [v4]
            try simp only [u24]
            try simp only [u25]
            try simp only [w45]
            try simp only [uk]
            try simp only [lk_127]
            conv => whnf
            refine ⟨(by first | assumption | rfl), ?_⟩
            try simp (disch := omega) only [Int.cast_ofNat_Int, up_s, up_a, up_i, mp_a, mp_ge]
            try simp only [c24]
            try simp only [c25]
            try simp only [t27]
            try simp only [v4]
            try simp only [u24]
            try simp only [u25]
            try simp only [w45]
            try simp only [uk]
            try simp only [lk_127]
            conv => whnf
            refine ⟨Nat.le_of_ble_eq_true rfl, Nat.le_of_ble_eq_true rfl, (by first | assumption | rfl), ?_⟩
            refine r_wrong ?_
            conv => whnf
            refine ⟨fun q9 => by first | (simp at q9; done) | omega, ?_⟩
            exact hF _ _ _ (by unfold zKind; rw [f1, n4, n5, f2]; rfl) (fun a j z9 => by unfold FRx at z9; rw [up_n (by omega), up_n (by omega), up_n (by omega), hg4 a j (by omega)]) ⟨by rw [up_n (by omega), up_s], by rw [up_s, up_s]⟩
        · exact absurd g (by simp [sx_cc])
    · simp only [sx_cc, Classical.not_not] at g
      have f1 := fBq_1 (k := 2) (s := kS tx n9 (i)) (b := 12 ≤ s 35 2) (by omega)
      conv => whnf
      refine ⟨Nat.le_of_ble_eq_true rfl, Nat.le_of_ble_eq_true rfl, (by first | assumption | rfl), ?_⟩
      refine r_wrong ?_
      conv => whnf
      refine ⟨fun q9 => by first | (simp at q9; done) | omega, ?_⟩
      exact hF _ _ _ (by unfold zKind; rw [f1]; rfl) (fun a j z9 => by unfold FRx at z9; rw [up_n (by omega), up_n (by omega)]) ⟨by rw [up_n (by omega), up_s], by rw [up_s, ha]⟩
end SXR2
