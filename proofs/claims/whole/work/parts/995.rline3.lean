/-! LINES ARE TOLD, reference side: walkers, the forecast, farms (by wip/whole) -/
section SXR3
variable {X : sx_X} {Q : sx_R} {σ σ0 σ' σ1 σ2 s s' : sx_S} {tx : Int → Int} {n9 p i : Int}
theorem cpl_fa {v : Int} (hc : cpl p s σ) (h : 0 ≤ s p 4) (hf : ∀ j : Int, σ' 129 j = σ 129 j) : fFind (fun j => σ' 129 (3 + j)) v (s p 4).toNat = fFind (s (p + 3)) v (s p 4).toNat := fFind_cg (fun j y0 y1 => by
  show σ' 129 (3 + j) = _
  rw [hf]; exact hc.2.2.2.2.1 j y0 (by omega))
theorem cpl_wa {v : Int} (hc : cpl p s σ) (h : 0 ≤ s p 6) (hf : ∀ j : Int, σ' 130 j = σ 130 j) : fFind (fun j => σ' 130 (5 + j)) v (s p 6).toNat = fFind (s (p + 4)) v (s p 6).toNat := fFind_cg (fun j y0 y1 => by
  show σ' 130 (5 + j) = _
  rw [hf]; exact (hc.2.2.2.2.2.1 j y0 (by omega)).1)
abbrev FWk (m a j : Int) : Prop := (a = 124 ∧ ((7 ≤ j ∧ j ≤ 11) ∨ j = 21 ∨ j = 29 ∨ j = 45)) ∨ (130 ≤ a ∧ a ≤ 134 ∧ j = 5 + m)
theorem frx_w {m a j : Int} (hm : 0 ≤ m) (z : (a = 124 ∧ ((7 ≤ j ∧ j ≤ 11) ∨ j = 29 ∨ j = 45)) ∨ (130 ≤ a ∧ a ≤ 133 ∧ j = 5 + m)) : FRx a j := by
  rcases z with z | z
  · exact Or.inl (by omega)
  · refine Or.inr (Or.inl ⟨by omega, by omega, by omega, ?_⟩)
    unfold fHalf
    rw [if_neg (by omega), if_neg (by omega), if_neg (by omega), if_neg (by omega)]
    omega
theorem frx_g {a j : Int} (z : FRg a j) : FRx a j := Or.inl (by unfold FRg at z; omega)
theorem frx_fw {a j : Int} (z : FRw a j) : FRx a j := Or.inl (by unfold FRw at z; omega)
theorem frx_t {a j : Int} (z : FRt a j) : FRx a j := Or.inl (by unfold FRt at z; omega)
set_option maxRecDepth 20000 in
theorem r_walk (hq : rQ σ tx n9 i) (hc : cpl p s σ) (wz : wZ p s) (hF0 : 5 ≤ s p 6 → ∀ (σ' : sx_S), fr FRx σ σ' → rFl σ' 2 (kS tx n9 i) → Q (some (.inl 0)) shM σ') (hF : ∀ (k pl : Int) (σ' : sx_S), s p 6 < 5 → zWalk p s tx n9 i = some (k, pl) → fr FRx σ σ' → rFl σ' k pl → Q (some (.inl 0)) shM σ') (hS : s p 6 < 5 → zWalk p s tx n9 i = none → ∀ σ', fr (FWk (s p 6)) σ σ' → rQ σ' tx n9 (kE tx n9 (kE tx n9 (kE tx n9 (kE tx n9 (kE tx n9 (kE tx n9 (kE tx n9 i))))))) → σ' 124 29 = 1 → σ' 124 21 = s p 6 + 1 → σ' 130 (5 + s p 6) = aV tx n9 (kE tx n9 i) → σ' 131 (5 + s p 6) = fFind (s (p + 3)) (aV tx n9 (kE tx n9 (kE tx n9 i))) (s p 4).toNat → σ' 132 (5 + s p 6) = nV tx n9 1 60 (kE tx n9 (kE tx n9 (kE tx n9 i))) → σ' 133 (5 + s p 6) = nV tx n9 1 3 (kE tx n9 (kE tx n9 (kE tx n9 (kE tx n9 i)))) → σ' 134 (5 + s p 6) = zCell p s tx n9 (kE tx n9 (kE tx n9 (kE tx n9 (kE tx n9 (kE tx n9 i))))) → Q (some (.inl 1)) shM σ') : sx_Run X 198 [.inr (.inr 124)] shM σ Q := by
  have hc0 := hc
  obtain ⟨⟨c18, c19, c20, c21, c22, c51, c23⟩, ⟨c24, c25, c26, c27, c28, c29⟩, ck, cg, cfn, cwn, chl, chb, clw, ckn⟩ := hc
  obtain ⟨z0, z1, z2, z3, z4, z5⟩ := wz
  have wz : wZ p s := ⟨z0, z1, z2, z3, z4, z5⟩
  have ha := hq.tk.2.1
  have zb := zCell_bd (tx := tx) (n9 := n9) (i := (kE tx n9 (kE tx n9 (kE tx n9 (kE tx n9 (kE tx n9 i)))))) wz
  have zc : nV tx n9 0 (s p 1 - 1) (kE tx n9 (kE tx n9 (kE tx n9 (kE tx n9 (kE tx n9 (kE tx n9 i)))))) * s p 0 + nV tx n9 0 (s p 0 - 1) (kE tx n9 (kE tx n9 (kE tx n9 (kE tx n9 (kE tx n9 i))))) = zCell p s tx n9 (kE tx n9 (kE tx n9 (kE tx n9 (kE tx n9 (kE tx n9 i))))) := rfl
  refine sx_rule0 (own := 12) (cd := kX12_walkerLine) (nL := 3) (by decide +kernel) (by decide +kernel) kX12_walkerLine_ok (by decide +kernel) (Nat.le_of_ble_eq_true rfl) 40 ?_
  conv => whnf
  refine ⟨(by first | assumption | rfl), ?_⟩
  try simp (disch := omega) only [Int.cast_ofNat_Int, up_s, up_a, up_i, mp_a, mp_ge]
  try simp only [c21]
  try simp only [w21]
  try simp only [w20]
  try simp only [t33]
  try simp only [t32]
  try simp only [t34]
  try simp only [t35]
  try simp only [t36]
  try simp only [t37]
  try simp only [v6]
  try simp only [v7]
  try simp only [v8]
  try simp only [ev4]
  try simp only [lk_131]
  try simp only [lk_132]
  try simp only [lk_133]
  try simp only [lk_134]
  conv => whnf
  refine ⟨fun g => ?_, fun g => ?_⟩
  · simp only [sx_cc, Classical.not_not] at g
    have h5 : s p 6 < 5 := by omega
    skip
    conv => whnf
    refine ⟨Nat.le_of_ble_eq_true rfl, Nat.le_of_ble_eq_true rfl, (by first | assumption | rfl), ?_⟩
    refine r_tok hq (fun σ3 hf3 hq3 => ?_)
    have hg3 : ∀ j : Int, ¬ (7 ≤ j ∧ j ≤ 10) → σ3 124 j = σ 124 j := fun j z => hf3 _ _ (by unfold FRt; omega)
    have hr3 : ∀ a j : Int, ¬ a = 124 → σ3 a j = σ a j := fun a j z => hf3 _ _ (by unfold FRt; omega)
    have w21 : σ3 124 21 = s p 6 := (hg3 _ (by omega)).trans c21
    have t33 := pt_124_33 hq3.pt
    have ew := cpl_wa (σ' := σ3) (v := aV tx n9 (kE tx n9 i)) hc0 z3.1 (fun j => hr3 130 j (by omega))
    conv => whnf
    refine ⟨(by first | assumption | rfl), ?_⟩
    try simp (disch := omega) only [Int.cast_ofNat_Int, up_s, up_a, up_i, mp_a, mp_ge]
    try simp only [c21]
    try simp only [w21]
    try simp only [w20]
    try simp only [t33]
    try simp only [t32]
    try simp only [t34]
    try simp only [t35]
    try simp only [t36]
    try simp only [t37]
    try simp only [v6]
    try simp only [v7]
    try simp only [v8]
    try simp only [ev4]
    try simp only [lk_131]
    try simp only [lk_132]
    try simp only [lk_133]
    try simp only [lk_134]
    conv => whnf
    refine ⟨⟨by omega, by omega⟩, ?_⟩
    conv => whnf
    refine ⟨(by first | assumption | rfl), ?_⟩
    try simp (disch := omega) only [Int.cast_ofNat_Int, up_s, up_a, up_i, mp_a, mp_ge]
    try simp only [c21]
    try simp only [w21]
    try simp only [w20]
    try simp only [t33]
    try simp only [t32]
    try simp only [t34]
    try simp only [t35]
    try simp only [t36]
    try simp only [t37]
    try simp only [v6]
    try simp only [v7]
    try simp only [v8]
    try simp only [ev4]
    try simp only [lk_131]
    try simp only [lk_132]
    try simp only [lk_133]
    try simp only [lk_134]
    conv => whnf
    refine ⟨(by first | assumption | rfl), ?_⟩
    try simp (disch := omega) only [Int.cast_ofNat_Int, up_s, up_a, up_i, mp_a, mp_ge]
    try simp only [c21]
    try simp only [w21]
    try simp only [w20]
    try simp only [t33]
    try simp only [t32]
    try simp only [t34]
    try simp only [t35]
    try simp only [t36]
    try simp only [t37]
    try simp only [v6]
    try simp only [v7]
    try simp only [v8]
    try simp only [ev4]
    try simp only [lk_131]
    try simp only [lk_132]
    try simp only [lk_133]
    try simp only [lk_134]
    conv => whnf
    refine ⟨Nat.le_of_ble_eq_true rfl, Nat.le_of_ble_eq_true rfl, (by first | assumption | rfl), ?_⟩
    refine r_name hq3 (by decide) lk_130 (by omega) (by decide) (fun k pl σ4 n4 hf4 hl4 => ?_) (fun n4 σ4 hf4 hq4 v4 => ?_)
    · rw [ew] at n4
      conv => whnf
      refine ⟨fun g => ?_, fun g => ?_⟩
      · exact absurd g (by simp [sx_cc])
      · skip
        conv => whnf
        refine ⟨fun q9 => by first | (simp at q9; done) | omega, ?_⟩
        exact hF k pl _ h5 (by unfold zWalk; rw [← Option.or_assoc, n4]; rfl) (fun a j z9 => by rw [hf4 a j (fun z => z9 (frx_fw z)), hf3 a j (fun z => z9 (frx_t z))]) hl4
    · rw [ew] at n4
      have hg4 : ∀ a j : Int, ¬ ((a = 124 ∧ ((7 ≤ j ∧ j ≤ 11) ∨ j = 29 ∨ j = 45)) ∨ (130 ≤ a ∧ a ≤ 133 ∧ j = 5 + s p 6)) → σ4 a j = σ a j := fun a j z => (hf4 a j (by unfold FRg; omega)).trans (hf3 a j (by unfold FRt; omega))
      have w20 : σ4 124 20 = s p 4 := (hg4 _ _ (by omega)).trans c20
      have t32 := pt_124_32 hq4.pt
      have t34 := pt_124_34 hq4.pt
      have hkz := pKz_21 hq4.tk.2.2
      obtain ⟨_, k2, _, kv, _⟩ := hkz
      have ha4 := hq4.tk.2.1
      have ef := cpl_fa (σ' := σ4) (v := aV tx n9 (kE tx n9 (kE tx n9 i))) hc0 z2.1 (fun j => hg4 129 j (by omega))
      obtain ⟨n4a, n4b⟩ := or_n n4
      conv => whnf
      refine ⟨fun g => ?_, fun g => ?_⟩
      · skip
        conv => whnf
        refine ⟨(by first | assumption | rfl), ?_⟩
        try simp (disch := omega) only [Int.cast_ofNat_Int, up_s, up_a, up_i, mp_a, mp_ge]
        try simp only [c21]
        try simp only [w21]
        try simp only [w20]
        try simp only [t33]
        try simp only [t32]
        try simp only [t34]
        try simp only [t35]
        try simp only [t36]
        try simp only [t37]
        try simp only [v6]
        try simp only [v7]
        try simp only [v8]
        try simp only [ev4]
        try simp only [lk_131]
        try simp only [lk_132]
        try simp only [lk_133]
        try simp only [lk_134]
        conv => whnf
        refine ⟨fun g => ?_, fun g => ?_⟩
        · simp only [sx_cc, Classical.not_not] at g
          have t20 := k2.mp g
          have n5 : aF tx n9 (kE tx n9 (kE tx n9 i)) = none := if_pos t20
          have n5v : aV tx n9 (kE tx n9 (kE tx n9 i)) = kV tx n9 (kE tx n9 (kE tx n9 i)) := if_pos t20
          have ev4 : σ4 124 9 = aV tx n9 (kE tx n9 (kE tx n9 i)) := (kv g).trans n5v.symm
          conv => whnf
          refine ⟨(by first | assumption | rfl), ?_⟩
          try simp (disch := omega) only [Int.cast_ofNat_Int, up_s, up_a, up_i, mp_a, mp_ge]
          try simp only [c21]
          try simp only [w21]
          try simp only [w20]
          try simp only [t33]
          try simp only [t32]
          try simp only [t34]
          try simp only [t35]
          try simp only [t36]
          try simp only [t37]
          try simp only [v6]
          try simp only [v7]
          try simp only [v8]
          try simp only [ev4]
          try simp only [lk_131]
          try simp only [lk_132]
          try simp only [lk_133]
          try simp only [lk_134]
          conv => whnf
          refine ⟨(by first | assumption | rfl), ?_⟩
          try simp (disch := omega) only [Int.cast_ofNat_Int, up_s, up_a, up_i, mp_a, mp_ge]
          try simp only [c21]
          try simp only [w21]
          try simp only [w20]
          try simp only [t33]
          try simp only [t32]
          try simp only [t34]
          try simp only [t35]
          try simp only [t36]
          try simp only [t37]
          try simp only [v6]
          try simp only [v7]
          try simp only [v8]
          try simp only [ev4]
          try simp only [lk_131]
          try simp only [lk_132]
          try simp only [lk_133]
          try simp only [lk_134]
          conv => whnf
          refine ⟨(by first | assumption | rfl), ?_⟩
          try simp (disch := omega) only [Int.cast_ofNat_Int, up_s, up_a, up_i, mp_a, mp_ge]
          try simp only [c21]
          try simp only [w21]
          try simp only [w20]
          try simp only [t33]
          try simp only [t32]
          try simp only [t34]
          try simp only [t35]
          try simp only [t36]
          try simp only [t37]
          try simp only [v6]
          try simp only [v7]
          try simp only [v8]
          try simp only [ev4]
          try simp only [lk_131]
          try simp only [lk_132]
          try simp only [lk_133]
          try simp only [lk_134]
          conv => whnf
          refine ⟨Nat.le_of_ble_eq_true rfl, Nat.le_of_ble_eq_true rfl, ?_⟩
          refine r_find lk_129 (by omega) (by decide) ?_
          rw [ef]
          have fl := fFind_lt (s (p + 3)) (aV tx n9 (kE tx n9 (kE tx n9 i))) (s p 4).toNat
          conv => whnf
          refine ⟨fun g => ?_, fun g => ?_⟩
          · simp only [sx_cc, Classical.not_not] at g
            have f2 := fBq_0 (k := 4) (s := kS tx n9 (kE tx n9 (kE tx n9 i))) (b := fFind (s (p + 3)) (aV tx n9 (kE tx n9 (kE tx n9 i))) (s p 4).toNat = -1) (by omega)
            conv => whnf
            refine ⟨(by first | assumption | rfl), ?_⟩
            try simp (disch := omega) only [Int.cast_ofNat_Int, up_s, up_a, up_i, mp_a, mp_ge]
            try simp only [c21]
            try simp only [w21]
            try simp only [w20]
            try simp only [t33]
            try simp only [t32]
            try simp only [t34]
            try simp only [t35]
            try simp only [t36]
            try simp only [t37]
            try simp only [v6]
            try simp only [v7]
            try simp only [v8]
            try simp only [ev4]
            try simp only [lk_131]
            try simp only [lk_132]
            try simp only [lk_133]
            try simp only [lk_134]
            conv => whnf
            refine ⟨sx_ixI (by first | assumption | rfl) (by omega) (by omega), ?_⟩
            conv => whnf
            refine ⟨Nat.le_of_ble_eq_true rfl, Nat.le_of_ble_eq_true rfl, (by first | assumption | rfl), ?_⟩
            refine r_tok (rQ_up hq4 (by unfold FRd; omega)) (fun σ5 hf5 hq5 => ?_)
            have hg5 : ∀ a j : Int, ¬ ((a = 124 ∧ ((7 ≤ j ∧ j ≤ 11) ∨ j = 29 ∨ j = 45)) ∨ (130 ≤ a ∧ a ≤ 133 ∧ j = 5 + s p 6)) → σ5 a j = σ a j := fun a j z => ((hf5 a j (by unfold FRt; omega)).trans (up_n (by omega))).trans (hg4 a j z)
            have t35 := pt_124_35 hq5.pt
            have t36 := pt_124_36 hq5.pt
            have t37 := pt_124_37 hq5.pt
            conv => whnf
            refine ⟨Nat.le_of_ble_eq_true rfl, Nat.le_of_ble_eq_true rfl, (by first | assumption | rfl), ?_⟩
            refine r_num hq5 (by decide) (fun k pl σ6 n6 hf6 hl6 => ?_) (fun n6 σ6 hf6 hq6 v6 => ?_)
            · skip
              conv => whnf
              refine ⟨fun g => ?_, fun g => ?_⟩
              · exact absurd g (by simp [sx_cc])
              · skip
                conv => whnf
                refine ⟨fun q9 => by first | (simp at q9; done) | omega, ?_⟩
                exact hF k pl _ h5 (by unfold zWalk; rw [n4a, n4b, n5, f2, n6]; rfl) (fun a j z9 => by
                     have z8 : ¬ ((a = 124 ∧ ((7 ≤ j ∧ j ≤ 11) ∨ j = 29 ∨ j = 45)) ∨ (130 ≤ a ∧ a ≤ 133 ∧ j = 5 + s p 6)) := fun z => z9 (frx_w z3.1 z)
                     have z7 : ¬ FRw a j := fun y => z9 (frx_fw y)
                     clear z9
                     unfold FRw at z7
                     rw [hf6 a j z7, hg5 a j z8]) hl6
            · have hg6 : ∀ a j : Int, ¬ ((a = 124 ∧ ((7 ≤ j ∧ j ≤ 11) ∨ j = 29 ∨ j = 45)) ∨ (130 ≤ a ∧ a ≤ 133 ∧ j = 5 + s p 6)) → σ6 a j = σ a j := fun a j z => (hf6 a j (by unfold FRg; omega)).trans (hg5 a j z)
              have t35 := pt_124_35 hq6.pt
              have t36 := pt_124_36 hq6.pt
              have t37 := pt_124_37 hq6.pt
              conv => whnf
              refine ⟨fun g => ?_, fun g => ?_⟩
              · skip
                conv => whnf
                refine ⟨(by first | assumption | rfl), ?_⟩
                try simp (disch := omega) only [Int.cast_ofNat_Int, up_s, up_a, up_i, mp_a, mp_ge]
                try simp only [c21]
                try simp only [w21]
                try simp only [w20]
                try simp only [t33]
                try simp only [t32]
                try simp only [t34]
                try simp only [t35]
                try simp only [t36]
                try simp only [t37]
                try simp only [v6]
                try simp only [v7]
                try simp only [v8]
                try simp only [ev4]
                try simp only [lk_131]
                try simp only [lk_132]
                try simp only [lk_133]
                try simp only [lk_134]
                conv => whnf
                refine ⟨(by first | assumption | rfl), ?_⟩
                try simp (disch := omega) only [Int.cast_ofNat_Int, up_s, up_a, up_i, mp_a, mp_ge]
                try simp only [c21]
                try simp only [w21]
                try simp only [w20]
                try simp only [t33]
                try simp only [t32]
                try simp only [t34]
                try simp only [t35]
                try simp only [t36]
                try simp only [t37]
                try simp only [v6]
                try simp only [v7]
                try simp only [v8]
                try simp only [ev4]
                try simp only [lk_131]
                try simp only [lk_132]
                try simp only [lk_133]
                try simp only [lk_134]
                conv => whnf
                refine ⟨sx_ixI (by first | assumption | rfl) (by omega) (by omega), ?_⟩
                conv => whnf
                refine ⟨Nat.le_of_ble_eq_true rfl, Nat.le_of_ble_eq_true rfl, (by first | assumption | rfl), ?_⟩
                refine r_num (rQ_up hq6 (by unfold FRd; omega)) (by decide) (fun k pl σ7 n7 hf7 hl7 => ?_) (fun n7 σ7 hf7 hq7 v7 => ?_)
                · skip
                  conv => whnf
                  refine ⟨fun g => ?_, fun g => ?_⟩
                  · exact absurd g (by simp [sx_cc])
                  · skip
                    conv => whnf
                    refine ⟨fun q9 => by first | (simp at q9; done) | omega, ?_⟩
                    exact hF k pl _ h5 (by unfold zWalk; rw [n4a, n4b, n5, f2, n6, n7]; rfl) (fun a j z9 => by
                         have z8 : ¬ ((a = 124 ∧ ((7 ≤ j ∧ j ≤ 11) ∨ j = 29 ∨ j = 45)) ∨ (130 ≤ a ∧ a ≤ 133 ∧ j = 5 + s p 6)) := fun z => z9 (frx_w z3.1 z)
                         have z7 : ¬ FRw a j := fun y => z9 (frx_fw y)
                         clear z9
                         unfold FRw at z7
                         rw [hf7 a j z7, up_n (by omega), hg6 a j z8]) hl7
                · have hg7 : ∀ a j : Int, ¬ ((a = 124 ∧ ((7 ≤ j ∧ j ≤ 11) ∨ j = 29 ∨ j = 45)) ∨ (130 ≤ a ∧ a ≤ 133 ∧ j = 5 + s p 6)) → σ7 a j = σ a j := fun a j z => ((hf7 a j (by unfold FRg; omega)).trans (up_n (by omega))).trans (hg6 a j z)
                  have t35 := pt_124_35 hq7.pt
                  have t36 := pt_124_36 hq7.pt
                  have t37 := pt_124_37 hq7.pt
                  have w18 : σ7 124 18 = s p 0 := (hg7 _ _ (by omega)).trans c18
                  have w19 : σ7 124 19 = s p 1 := (hg7 _ _ (by omega)).trans c19
                  conv => whnf
                  refine ⟨fun g => ?_, fun g => ?_⟩
                  · skip
                    conv => whnf
                    refine ⟨(by first | assumption | rfl), ?_⟩
                    try simp (disch := omega) only [Int.cast_ofNat_Int, up_s, up_a, up_i, mp_a, mp_ge]
                    try simp only [c21]
                    try simp only [w21]
                    try simp only [w20]
                    try simp only [t33]
                    try simp only [t32]
                    try simp only [t34]
                    try simp only [t35]
                    try simp only [t36]
                    try simp only [t37]
                    try simp only [v6]
                    try simp only [v7]
                    try simp only [v8]
                    try simp only [ev4]
                    try simp only [lk_131]
                    try simp only [lk_132]
                    try simp only [lk_133]
                    try simp only [lk_134]
                    conv => whnf
                    refine ⟨(by first | assumption | rfl), ?_⟩
                    try simp (disch := omega) only [Int.cast_ofNat_Int, up_s, up_a, up_i, mp_a, mp_ge]
                    try simp only [c21]
                    try simp only [w21]
                    try simp only [w20]
                    try simp only [t33]
                    try simp only [t32]
                    try simp only [t34]
                    try simp only [t35]
                    try simp only [t36]
                    try simp only [t37]
                    try simp only [v6]
                    try simp only [v7]
                    try simp only [v8]
                    try simp only [ev4]
                    try simp only [lk_131]
                    try simp only [lk_132]
                    try simp only [lk_133]
                    try simp only [lk_134]
                    conv => whnf
                    refine ⟨sx_ixI (by first | assumption | rfl) (by omega) (by omega), ?_⟩
                    conv => whnf
                    refine ⟨Nat.le_of_ble_eq_true rfl, Nat.le_of_ble_eq_true rfl, (by first | assumption | rfl), ?_⟩
                    refine r_cellr (rQ_up hq7 (by unfold FRd; omega)) (by rw [up_n (by omega), up_n (by omega), w18, w19]; exact ⟨z0, z1⟩) (fun k pl σ8 n8 hf8 hl8 => ?_) (fun n8 σ8 hf8 hq8 v29 v45 v8 => ?_)
                    · rw [up_n (by omega), up_n (by omega), w18, w19] at n8
                      conv => whnf
                      refine ⟨fun g => ?_, fun g => ?_⟩
                      · exact absurd g (by simp [sx_cc])
                      · skip
                        conv => whnf
                        refine ⟨fun q9 => by first | (simp at q9; done) | omega, ?_⟩
                        exact hF k pl _ h5 (by unfold zWalk; rw [n4a, n4b, n5, f2, n6, n7, n8]; rfl) (fun a j z9 => by
                             have z8 : ¬ ((a = 124 ∧ ((7 ≤ j ∧ j ≤ 11) ∨ j = 29 ∨ j = 45)) ∨ (130 ≤ a ∧ a ≤ 133 ∧ j = 5 + s p 6)) := fun z => z9 (frx_w z3.1 z)
                             have z7 : ¬ FRw a j := fun y => z9 (frx_fw y)
                             clear z9
                             unfold FRw at z7
                             rw [hf8 a j (by unfold FRw; omega), up_n (by omega), hg7 a j z8]) hl8
                    · rw [up_n (by omega), up_n (by omega), w18, w19] at n8 v8
                      rw [zc] at v8
                      obtain ⟨n8, n9x⟩ := or_n n8
                      have hg8 : ∀ a j : Int, ¬ ((a = 124 ∧ ((7 ≤ j ∧ j ≤ 11) ∨ j = 29 ∨ j = 45)) ∨ (130 ≤ a ∧ a ≤ 133 ∧ j = 5 + s p 6)) → σ8 a j = σ a j := fun a j z => ((hf8 a j (by unfold FRg; omega)).trans (up_n (by omega))).trans (hg7 a j z)
                      have t35 := pt_124_35 hq8.pt
                      have t36 := pt_124_36 hq8.pt
                      have t37 := pt_124_37 hq8.pt
                      have w21 : σ8 124 21 = s p 6 := (hg8 _ _ (by omega)).trans c21
                      conv => whnf
                      refine ⟨fun g => ?_, fun g => ?_⟩
                      · skip
                        conv => whnf
                        refine ⟨(by first | assumption | rfl), ?_⟩
                        try simp (disch := omega) only [Int.cast_ofNat_Int, up_s, up_a, up_i, mp_a, mp_ge]
                        try simp only [c21]
                        try simp only [w21]
                        try simp only [w20]
                        try simp only [t33]
                        try simp only [t32]
                        try simp only [t34]
                        try simp only [t35]
                        try simp only [t36]
                        try simp only [t37]
                        try simp only [v6]
                        try simp only [v7]
                        try simp only [v8]
                        try simp only [ev4]
                        try simp only [lk_131]
                        try simp only [lk_132]
                        try simp only [lk_133]
                        try simp only [lk_134]
                        conv => whnf
                        refine ⟨(by first | assumption | rfl), ?_⟩
                        try simp (disch := omega) only [Int.cast_ofNat_Int, up_s, up_a, up_i, mp_a, mp_ge]
                        try simp only [c21]
                        try simp only [w21]
                        try simp only [w20]
                        try simp only [t33]
                        try simp only [t32]
                        try simp only [t34]
                        try simp only [t35]
                        try simp only [t36]
                        try simp only [t37]
                        try simp only [v6]
                        try simp only [v7]
                        try simp only [v8]
                        try simp only [ev4]
                        try simp only [lk_131]
                        try simp only [lk_132]
                        try simp only [lk_133]
                        try simp only [lk_134]
                        conv => whnf
                        refine ⟨sx_ixI (by first | assumption | rfl) (by omega) (by omega), ?_⟩
                        conv => whnf
                        refine ⟨(by first | assumption | rfl), ?_⟩
                        try simp (disch := omega) only [Int.cast_ofNat_Int, up_s, up_a, up_i, mp_a, mp_ge]
                        try simp only [c21]
                        try simp only [w21]
                        try simp only [w20]
                        try simp only [t33]
                        try simp only [t32]
                        try simp only [t34]
                        try simp only [t35]
                        try simp only [t36]
                        try simp only [t37]
                        try simp only [v6]
                        try simp only [v7]
                        try simp only [v8]
                        try simp only [ev4]
                        try simp only [lk_131]
                        try simp only [lk_132]
                        try simp only [lk_133]
                        try simp only [lk_134]
                        conv => whnf
                        refine ⟨⟨by omega, by omega⟩, ?_⟩
                        conv => whnf
                        refine ⟨(by first | assumption | rfl), ?_⟩
                        try simp (disch := omega) only [Int.cast_ofNat_Int, up_s, up_a, up_i, mp_a, mp_ge]
                        try simp only [c21]
                        try simp only [w21]
                        try simp only [w20]
                        try simp only [t33]
                        try simp only [t32]
                        try simp only [t34]
                        try simp only [t35]
                        try simp only [t36]
                        try simp only [t37]
                        try simp only [v6]
                        try simp only [v7]
                        try simp only [v8]
                        try simp only [ev4]
                        try simp only [lk_131]
                        try simp only [lk_132]
                        try simp only [lk_133]
                        try simp only [lk_134]
                        conv => whnf
                        refine ⟨fun q9 => by first | (simp at q9; done) | omega, ?_⟩
                        refine hS h5 (by unfold zWalk; rw [n4a, n4b, n5, f2, n6, n7, n8, n9x]; rfl) _ (fun a j z9 => ?_) (rQ_up (rQ_up hq8 (by unfold FRd; omega)) (by unfold FRd; omega)) ?_ ?_ ?_ ?_ ?_ ?_ ?_
                        · unfold FWk at z9; rw [up_n (by omega), up_n (by omega), hg8 a j (by omega)]
                        · rw [up_n (by omega), up_n (by omega)]; exact v29
                        · rw [up_s]
                        · rw [up_n (by omega), up_n (by omega), hf8 _ _ (by unfold FRg; omega), up_n (by omega), hf7 _ _ (by unfold FRg; omega), up_n (by omega), hf6 _ _ (by unfold FRg; omega), hf5 _ _ (by unfold FRt; omega), up_n (by omega)]; exact v4
                        · rw [up_n (by omega), up_n (by omega), hf8 _ _ (by unfold FRg; omega), up_n (by omega), hf7 _ _ (by unfold FRg; omega), up_n (by omega), hf6 _ _ (by unfold FRg; omega), hf5 _ _ (by unfold FRt; omega), up_s]
                        · rw [up_n (by omega), up_n (by omega), hf8 _ _ (by unfold FRg; omega), up_n (by omega), hf7 _ _ (by unfold FRg; omega), up_s]
                        · rw [up_n (by omega), up_n (by omega), hf8 _ _ (by unfold FRg; omega), up_s]
                        · rw [up_n (by omega), up_s]
                      · exact absurd g (by simp [sx_cc])
                  · exact absurd g (by simp [sx_cc])
              · exact absurd g (by simp [sx_cc])
          · simp only [sx_cc, Classical.not_not] at g
            have f2 := fBq_1 (k := 4) (s := kS tx n9 (kE tx n9 (kE tx n9 i))) (b := fFind (s (p + 3)) (aV tx n9 (kE tx n9 (kE tx n9 i))) (s p 4).toNat = -1) (by omega)
            conv => whnf
            refine ⟨Nat.le_of_ble_eq_true rfl, Nat.le_of_ble_eq_true rfl, (by first | assumption | rfl), ?_⟩
            refine r_wrong ?_
            conv => whnf
            refine ⟨fun q9 => by first | (simp at q9; done) | omega, ?_⟩
            exact hF _ _ _ h5 (by unfold zWalk; rw [n4a, n4b, n5, f2]; rfl) (fun a j z9 => by
                 have z8 : ¬ ((a = 124 ∧ ((7 ≤ j ∧ j ≤ 11) ∨ j = 29 ∨ j = 45)) ∨ (130 ≤ a ∧ a ≤ 133 ∧ j = 5 + s p 6)) := fun z => z9 (frx_w z3.1 z)
                 have z7 : ¬ FRw a j := fun y => z9 (frx_fw y)
                 clear z9
                 unfold FRw at z7
                 rw [up_n (by omega), up_n (by omega), hg4 a j z8]) ⟨by rw [up_n (by omega), up_s], by rw [up_s, ha4]⟩
        · simp only [sx_cc, Classical.not_not] at g
          have n5 : aF tx n9 (kE tx n9 (kE tx n9 i)) = some (1, kS tx n9 (kE tx n9 (kE tx n9 i))) := if_neg (fun z => g (k2.mpr z))
          conv => whnf
          refine ⟨Nat.le_of_ble_eq_true rfl, Nat.le_of_ble_eq_true rfl, (by first | assumption | rfl), ?_⟩
          refine r_wrong ?_
          conv => whnf
          refine ⟨fun q9 => by first | (simp at q9; done) | omega, ?_⟩
          exact hF _ _ _ h5 (by unfold zWalk; rw [n4a, n4b, n5]; rfl) (fun a j z9 => by
               have z8 : ¬ ((a = 124 ∧ ((7 ≤ j ∧ j ≤ 11) ∨ j = 29 ∨ j = 45)) ∨ (130 ≤ a ∧ a ≤ 133 ∧ j = 5 + s p 6)) := fun z => z9 (frx_w z3.1 z)
               have z7 : ¬ FRw a j := fun y => z9 (frx_fw y)
               clear z9
               unfold FRw at z7
               rw [up_n (by omega), up_n (by omega), hg4 a j z8]) ⟨by rw [up_n (by omega), up_s], by rw [up_s, ha4]⟩
      · exact absurd g (by simp [sx_cc])
  · simp only [sx_cc, Classical.not_not] at g
    conv => whnf
    refine ⟨Nat.le_of_ble_eq_true rfl, Nat.le_of_ble_eq_true rfl, (by first | assumption | rfl), ?_⟩
    refine r_wrong ?_
    conv => whnf
    refine ⟨fun q9 => by first | (simp at q9; done) | omega, ?_⟩
    exact hF0 (by omega) _ (fun a j z9 => by unfold FRx at z9; rw [up_n (by omega), up_n (by omega)]) ⟨by rw [up_n (by omega), up_s], by rw [up_s, ha]⟩
end SXR3
