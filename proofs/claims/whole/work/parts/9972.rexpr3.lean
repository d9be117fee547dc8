/-! A LAW IS TOLD, reference side: an operand is read (by wip/whole) -/
section SXR7
variable {X : sx_X} {Q : sx_R} {σ σ0 σ' σ1 σ2 s s' s1 r r' : sx_S} {tx : Int → Int} {n9 p i lo : Int}
abbrev FEs (lo a j : Int) : Prop := (a = 124 ∧ ((7 ≤ j ∧ j ≤ 11) ∨ j = 22 ∨ (48 ≤ j ∧ j ≤ 53))) ∨ (139 ≤ a ∧ a ≤ 141 ∧ 64 + lo ≤ j) ∨ a = 142 ∨ a = 143
abbrev FEq (lo a j : Int) : Prop := (a = 124 ∧ (j = 4 ∨ j = 5 ∨ (7 ≤ j ∧ j ≤ 11) ∨ j = 22 ∨ (48 ≤ j ∧ j ≤ 53))) ∨ (139 ≤ a ∧ a ≤ 141 ∧ 64 + lo ≤ j) ∨ a = 142 ∨ a = 143
theorem feq_s {lo a j : Int} (z : FEs lo a j) : FEq lo a j := by
  rcases z with z | z
  · exact Or.inl (by omega)
  · exact Or.inr z
theorem fHdr_push (h : s1 32 11 = s 32 11 + 1) (hn : 0 ≤ s 32 11 ∧ s 32 11 < 72) (h2 : s1 36 (s 32 11) = i) : fHdr s1 = fRk i := by
  unfold fHdr
  rw [h, if_pos (by omega), show s 32 11 + 1 - 1 = s 32 11 by omega, h2]
set_option maxRecDepth 20000 in
theorem r_leaf (hq : rQ σ tx n9 i) (hp : 2 ≤ p ∧ p ≤ 17) (hlo : 0 ≤ lo) (hI : eInv p s) (hk : eStk p s lo) (hc : eC p s σ lo) (h13 : ¬ s 32 13 = 0) (hF : ∀ (k : Int) (σ' : sx_S), zOpdF p s (kT tx n9 i) (kV tx n9 i) k → fr (FEq lo) σ σ' → rFl σ' k (kS tx n9 i) → Q (some (.inl 0)) shM σ') (hS : ∀ (s1 σ' : sx_S), zOpd p s s1 (kT tx n9 i) (kV tx n9 i) → eC p s1 σ' lo → rQ σ' tx n9 (kE tx n9 i) → fr (FEs lo) σ σ' → Q (some (.inl 1)) shM σ') : sx_Run X 211 [.inr (.inr 124)] shM σ Q := by
  have hc0 := hc
  obtain ⟨w48, w142, w50, w51, w52, w22, w49, w143, wko, _⟩ := hc
  have hkz := hq.tk.2.2
  have ha := hq.tk.2.1
  obtain ⟨z0, z1, z2, z3, z4, z5, z6, z7⟩ := hI
  have hI : eInv p s := ⟨z0, z1, z2, z3, z4, z5, z6, z7⟩
  have hbd := eInv_bd hI
  have hob := fOpn_bd (row := s 36) (s 32 11).toNat
  have hdb := (cV_b hk.2.1 (i := s 32 14) ⟨hk.1, Int.le_refl _⟩).1
  have hk0 := hk.1
  refine sx_rule0 (own := 12) (cd := kX12_leafRead) (nL := 2) (by decide +kernel) (by decide +kernel) kX12_leafRead_ok (by decide +kernel) (Nat.le_of_ble_eq_true rfl) 40 ?_
  conv => whnf
  refine ⟨Nat.le_of_ble_eq_true rfl, Nat.le_of_ble_eq_true rfl, (by first | assumption | rfl), ?_⟩
  refine r_issign (fun g40 => ?_) (fun g40 => ?_)
  · skip
    conv => whnf
    refine ⟨fun g => ?_, fun g => ?_⟩
    · exact absurd g (by simp [sx_cc])
    · skip
      conv => whnf
      refine ⟨(by first | assumption | rfl), ?_⟩
      try simp (disch := omega) only [Int.cast_ofNat_Int, up_s, up_a, up_i, mp_a, mp_ge]
      try simp only [w50]
      try simp only [w51]
      try simp only [w48]
      try simp only [w22]
      try simp only [w49]
      try simp only [ern]
      conv => whnf
      refine ⟨fun g => ?_, fun g => ?_⟩
      · simp only [sx_cc, Classical.not_not] at g
        conv => whnf
        refine ⟨(by first | assumption | rfl), ?_⟩
        try simp (disch := omega) only [Int.cast_ofNat_Int, up_s, up_a, up_i, mp_a, mp_ge]
        try simp only [w50]
        try simp only [w51]
        try simp only [w48]
        try simp only [w22]
        try simp only [w49]
        try simp only [ern]
        conv => whnf
        refine ⟨⟨by omega, by omega⟩, ?_⟩
        conv => whnf
        refine ⟨(by first | assumption | rfl), ?_⟩
        try simp (disch := omega) only [Int.cast_ofNat_Int, up_s, up_a, up_i, mp_a, mp_ge]
        try simp only [w50]
        try simp only [w51]
        try simp only [w48]
        try simp only [w22]
        try simp only [w49]
        try simp only [ern]
        conv => whnf
        refine ⟨Nat.le_of_ble_eq_true rfl, Nat.le_of_ble_eq_true rfl, (by first | assumption | rfl), ?_⟩
        refine r_waits (rQ_up hq (by unfold FRd; omega)) (n := s 32 11) (by rw [up_n (by omega)]; exact w48) (by omega) ?_
        conv => whnf
        refine ⟨(by first | assumption | rfl), by omega, ?_⟩
        try simp (disch := omega) only [Int.cast_ofNat_Int, up_s, up_a, up_i, mp_a, mp_ge]
        try simp only [w50]
        try simp only [w51]
        try simp only [w48]
        try simp only [w22]
        try simp only [w49]
        try simp only [ern]
        conv => whnf
        refine ⟨Nat.le_of_ble_eq_true rfl, Nat.le_of_ble_eq_true rfl, (by first | assumption | rfl), ?_⟩
        refine r_tok (tx := tx) (n9 := n9) (i := i) (by repeat (first | exact hq | refine rQ_up ?_ (by unfold FRd; omega))) (fun σ9 hf9 hq9 => ?_)
        conv => whnf
        refine ⟨fun q9 => by first | (simp at q9; done) | omega, ?_⟩
        have t23 := (pKz_e hkz).1.mp g40
        refine hS (sx_up (sx_up (sx_up s 32 12 (s 32 12 + 1)) 36 (s 32 11) 23) 32 11 (s 32 11 + 1)) _ (Or.inr (Or.inr (Or.inl ⟨t23, by omega, rfl⟩))) (eC_push (s := s) (r := σ) (t := 23) hc0 z0 up_s (fun j z => by rw [up_n (by omega), up_n (by omega), up_n (by omega)]) (by rw [up_n (by omega), up_s]) (by rw [up_n (by omega), up_n (by omega), up_n (by omega)]) (funext fun j => by rw [up_n (by omega), up_n (by omega), up_n (by omega)]) (funext fun j => by rw [up_n (by omega), up_n (by omega), up_n (by omega)]) (by rw [hf9 _ _ (by unfold FRt; omega)]; (repeat (first | rw [up_s] | rw [up_n (by omega)])); try omega) (by rw [hf9 142 _ (by unfold FRt; omega)]; (repeat (first | rw [up_s] | rw [up_n (by omega)])); rfl) (fun j z => by rw [hf9 142 j (by unfold FRt; omega)]; repeat (first | rw [up_n (by omega)])) (fun a j z => by rw [hf9 a j (by unfold FRt; omega)]; repeat (first | rw [up_n (by omega)])) ?_ ?_ ?_ ?_) hq9 (fun a j z9 => by unfold FEs at z9; rw [hf9 a j (by unfold FRt; omega)]; repeat (first | rw [up_n (by omega)]))
        · rw [hf9 _ _ (by unfold FRt; omega)]; rw [up_n (by omega) (b := 32) (j := 12)]; (repeat (first | rw [up_s] | rw [up_n (by omega)]))
        · rw [hf9 _ _ (by unfold FRt; omega)]; (repeat (first | rw [up_n (by omega)])); exact w51
        · rw [hf9 _ _ (by unfold FRt; omega)]; (repeat (first | rw [up_n (by omega)])); exact w52
        · intro _; left; refine ⟨by rw [hf9 _ _ (by unfold FRt; omega), up_s], ?_⟩; rw [fHdr_push (s := s) (i := 23) up_s (by omega) (by rw [up_n (by omega), up_s])]; decide
      · simp only [sx_cc, Classical.not_not] at g
        conv => whnf
        refine ⟨Nat.le_of_ble_eq_true rfl, Nat.le_of_ble_eq_true rfl, (by first | assumption | rfl), ?_⟩
        refine r_wrong ?_
        conv => whnf
        refine ⟨fun q9 => by first | (simp at q9; done) | omega, ?_⟩
        exact hF _ _ (Or.inr (Or.inr (Or.inl ⟨(pKz_e hkz).1.mp g40, by omega, rfl⟩))) (fun a j z9 => by unfold FEq at z9; rw [up_n (by omega), up_n (by omega)]) ⟨by rw [up_n (by omega), up_s], by rw [up_s, ha]⟩
  · have n23 : ¬ kT tx n9 i = 23 := fun z => g40 ((pKz_e hkz).1.mpr z)
    conv => whnf
    refine ⟨fun g => ?_, fun g => ?_⟩
    · skip
      conv => whnf
      refine ⟨Nat.le_of_ble_eq_true rfl, Nat.le_of_ble_eq_true rfl, (by first | assumption | rfl), ?_⟩
      refine r_iskey (fun gk => ?_) (fun gk => ?_)
      · have t19 := (pKz_e hkz).2.2.2.2.2.2.2.1.mp gk
        conv => whnf
        refine ⟨fun g => ?_, fun g => ?_⟩
        · exact absurd g (by simp [sx_cc])
        · skip
          conv => whnf
          refine ⟨(by first | assumption | rfl), ?_⟩
          try simp (disch := omega) only [Int.cast_ofNat_Int, up_s, up_a, up_i, mp_a, mp_ge]
          try simp only [w50]
          try simp only [w51]
          try simp only [w48]
          try simp only [w22]
          try simp only [w49]
          try simp only [ern]
          conv => whnf
          refine ⟨fun g => ?_, fun g => ?_⟩
          · simp only [sx_cc, Classical.not_not] at g
            have g530 := g
            conv => whnf
            refine ⟨Nat.le_of_ble_eq_true rfl, Nat.le_of_ble_eq_true rfl, (by first | assumption | rfl), ?_⟩
            refine r_nm ?_ (pKz_w hkz)
            have n19 : ¬ (kT tx n9 i = 19 ∧ fHdr s ≤ 3) := by first | (intro z; exact n19b z.1) | (intro z; have := hc0.2.2.2.2.2.2.2.2.2 h13; omega)
            obtain ⟨nmv, ern⟩ : ∃ v : Int, rNmq (σ 124 8) (σ 124 9) = v := ⟨_, rfl⟩
            have hnm := rNmq_t hkz
            rw [ern]
            rw [ern] at hnm
            have hnm9 : (10 ≤ kT tx n9 i ∧ kT tx n9 i ≤ 16 ∧ nmv = fPn (kT tx n9 i) ∧ 0 ≤ nmv) ∨ (¬ (10 ≤ kT tx n9 i ∧ kT tx n9 i ≤ 16) ∧ nmv = -1) := by omega
            clear hnm
            conv => whnf
            refine ⟨fun g => ?_, fun g => ?_⟩
            · simp only [sx_cc, Classical.not_not] at g
              conv => whnf
              refine ⟨fun g => ?_, fun g => ?_⟩
              · simp only [sx_cc, Classical.not_not] at g
                conv => whnf
                refine ⟨Nat.le_of_ble_eq_true rfl, Nat.le_of_ble_eq_true rfl, (by first | assumption | rfl), ?_⟩
                refine r_cnt w51 z2 (fun hk9 => ?_) (fun hk9 => ?_)
                · have hty : kT tx n9 i = 21 ∨ (10 ≤ kT tx n9 i ∧ kT tx n9 i ≤ 16) := by omega
                  conv => whnf
                  refine ⟨fun g => ?_, fun g => ?_⟩
                  · skip
                    conv => whnf
                    refine ⟨fun g => ?_, fun g => ?_⟩
                    · simp only [sx_cc, Classical.not_not] at g
                      conv => whnf
                      refine ⟨fun g => ?_, fun g => ?_⟩
                      · simp only [sx_cc, Classical.not_not] at g
                        conv => whnf
                        refine ⟨(by first | assumption | rfl), ?_⟩
                        try simp (disch := omega) only [Int.cast_ofNat_Int, up_s, up_a, up_i, mp_a, mp_ge]
                        try simp only [w50]
                        try simp only [w51]
                        try simp only [w48]
                        try simp only [w22]
                        try simp only [w49]
                        try simp only [ern]
                        conv => whnf
                        refine ⟨Nat.le_of_ble_eq_true rfl, Nat.le_of_ble_eq_true rfl, (by first | assumption | rfl), ?_⟩
                        refine r_grown (rQ_up hq (by unfold FRd; omega)) (w := s 32 14) (d := dpF (s (p + 11)) lo (s 32 14)) (by rw [up_n (by omega)]; exact w22) (by rw [up_n (by omega)]; exact w49) (by omega) (by omega) ?_
                        conv => whnf
                        refine ⟨(by first | assumption | rfl), by omega, ?_⟩
                        try simp (disch := omega) only [Int.cast_ofNat_Int, up_s, up_a, up_i, mp_a, mp_ge]
                        try simp only [w50]
                        try simp only [w51]
                        try simp only [w48]
                        try simp only [w22]
                        try simp only [w49]
                        try simp only [ern]
                        conv => whnf
                        refine ⟨Nat.le_of_ble_eq_true rfl, Nat.le_of_ble_eq_true rfl, (by first | assumption | rfl), ?_⟩
                        refine r_tok (tx := tx) (n9 := n9) (i := i) (by repeat (first | exact hq | refine rQ_up ?_ (by unfold FRd; omega))) (fun σ9 hf9 hq9 => ?_)
                        conv => whnf
                        refine ⟨fun q9 => by first | (simp at q9; done) | omega, ?_⟩
                        first
                        | (have ht : kT tx n9 i = 21 := by omega
                           have hkv := (pKz_21 hkz).2.2.2.2 ((pKz_21 hkz).1.mpr ht)
                           have ev9 : σ 124 9 = kV tx n9 i := by omega
                           refine hS (sx_up (sx_up (sx_up (sx_up (sx_up s p 14 (s p 14 + 1)) (p + 11) (s 32 14) (21)) (p + 12) (s 32 14) (kV tx n9 i)) 32 14 (s 32 14 + 1)) 32 13 0) _ (Or.inl ⟨ht, by omega, by omega, rfl⟩) (eC_leaf (s := s) (r := σ) (c := 21) (v := kV tx n9 i) (k := 0) (a := σ 124 9) hp hk hc0 (Or.inl rfl) (Or.inl ⟨rfl, rfl, ev9⟩) (by rw [up_n (by omega), up_n (by omega), up_n (by omega), up_n (by omega), up_n (by omega)]) (funext fun j => by rw [up_n (by omega), up_n (by omega), up_n (by omega), up_n (by omega), up_n (by omega)]) up_s (by rw [up_n (by omega), up_s]) (fun j => by
                              rw [up_n (by omega), up_n (by omega), up_n (by omega)]
                              by_cases e9 : j = s 32 14
                              · rw [if_pos e9, e9, up_s]
                              · rw [if_neg e9, up_n (by omega), up_n (by omega)]) (fun j => by
                              rw [up_n (by omega), up_n (by omega)]
                              by_cases e9 : j = s 32 14
                              · rw [if_pos e9, e9, up_s]
                              · rw [if_neg e9, up_n (by omega), up_n (by omega), up_n (by omega)]) (by rw [hf9 139 _ (by unfold FRt; omega)]; (repeat (first | rw [up_s] | rw [up_n (by omega)])); try omega) (by rw [hf9 140 _ (by unfold FRt; omega)]; (repeat (first | rw [up_s] | rw [up_n (by omega)])); try omega) (fun x j z => by rw [hf9 x j (by unfold FRt; omega)]; repeat (first | rw [up_n (by omega)])) (by rw [hf9 143 _ (by unfold FRt; omega)]; (repeat (first | rw [up_s] | rw [up_n (by omega)])); try omega) (fun d z => by rw [hf9 143 d (by unfold FRt; omega)]; repeat (first | rw [up_n (by omega)])) (by rw [hf9 _ _ (by unfold FRt; omega)]; (repeat (first | rw [up_s] | rw [up_n (by omega)])); try omega) (by rw [hf9 _ _ (by unfold FRt; omega)]; (repeat (first | rw [up_s] | rw [up_n (by omega)])); try omega) ?_ ?_ ?_) hq9 (fun a j z9 => by unfold FEs at z9; rw [hf9 a j (by unfold FRt; omega)]; repeat (first | rw [up_n (by omega)]))
                           · rw [hf9 _ _ (by unfold FRt; omega)]; (repeat (first | rw [up_n (by omega)])); exact w50
                           · rw [hf9 _ _ (by unfold FRt; omega)]; (repeat (first | rw [up_s] | rw [up_n (by omega)]))
                           · rw [hf9 _ _ (by unfold FRt; omega)]; (repeat (first | rw [up_s] | rw [up_n (by omega)])))
                        | (have ht : 10 ≤ kT tx n9 i ∧ kT tx n9 i ≤ 16 := by omega
                           refine hS (sx_up (sx_up (sx_up (sx_up (sx_up s p 14 (s p 14 + 1)) (p + 11) (s 32 14) (kT tx n9 i)) (p + 12) (s 32 14) (0)) 32 14 (s 32 14 + 1)) 32 13 0) _ (Or.inr (Or.inl ⟨ht.1, ht.2, by omega, rfl⟩)) (eC_leaf (s := s) (r := σ) (c := kT tx n9 i) (v := 0) (k := 1) (a := fPn (kT tx n9 i)) hp hk hc0 (Or.inr ht) (Or.inr ⟨by omega, rfl, rfl⟩) (by rw [up_n (by omega), up_n (by omega), up_n (by omega), up_n (by omega), up_n (by omega)]) (funext fun j => by rw [up_n (by omega), up_n (by omega), up_n (by omega), up_n (by omega), up_n (by omega)]) up_s (by rw [up_n (by omega), up_s]) (fun j => by
                              rw [up_n (by omega), up_n (by omega), up_n (by omega)]
                              by_cases e9 : j = s 32 14
                              · rw [if_pos e9, e9, up_s]
                              · rw [if_neg e9, up_n (by omega), up_n (by omega)]) (fun j => by
                              rw [up_n (by omega), up_n (by omega)]
                              by_cases e9 : j = s 32 14
                              · rw [if_pos e9, e9, up_s]
                              · rw [if_neg e9, up_n (by omega), up_n (by omega), up_n (by omega)]) (by rw [hf9 139 _ (by unfold FRt; omega)]; (repeat (first | rw [up_s] | rw [up_n (by omega)])); try omega) (by rw [hf9 140 _ (by unfold FRt; omega)]; (repeat (first | rw [up_s] | rw [up_n (by omega)])); try omega) (fun x j z => by rw [hf9 x j (by unfold FRt; omega)]; repeat (first | rw [up_n (by omega)])) (by rw [hf9 143 _ (by unfold FRt; omega)]; (repeat (first | rw [up_s] | rw [up_n (by omega)])); try omega) (fun d z => by rw [hf9 143 d (by unfold FRt; omega)]; repeat (first | rw [up_n (by omega)])) (by rw [hf9 _ _ (by unfold FRt; omega)]; (repeat (first | rw [up_s] | rw [up_n (by omega)])); try omega) (by rw [hf9 _ _ (by unfold FRt; omega)]; (repeat (first | rw [up_s] | rw [up_n (by omega)])); try omega) ?_ ?_ ?_) hq9 (fun a j z9 => by unfold FEs at z9; rw [hf9 a j (by unfold FRt; omega)]; repeat (first | rw [up_n (by omega)]))
                           · rw [hf9 _ _ (by unfold FRt; omega)]; (repeat (first | rw [up_n (by omega)])); exact w50
                           · rw [hf9 _ _ (by unfold FRt; omega)]; (repeat (first | rw [up_s] | rw [up_n (by omega)]))
                           · rw [hf9 _ _ (by unfold FRt; omega)]; (repeat (first | rw [up_s] | rw [up_n (by omega)])))
                      · simp only [sx_cc, Classical.not_not] at g
                        conv => whnf
                        refine ⟨Nat.le_of_ble_eq_true rfl, Nat.le_of_ble_eq_true rfl, (by first | assumption | rfl), ?_⟩
                        refine r_grown (rQ_up hq (by unfold FRd; omega)) (w := s 32 14) (d := dpF (s (p + 11)) lo (s 32 14)) (by rw [up_n (by omega)]; exact w22) (by rw [up_n (by omega)]; exact w49) (by omega) (by omega) ?_
                        conv => whnf
                        refine ⟨(by first | assumption | rfl), by omega, ?_⟩
                        try simp (disch := omega) only [Int.cast_ofNat_Int, up_s, up_a, up_i, mp_a, mp_ge]
                        try simp only [w50]
                        try simp only [w51]
                        try simp only [w48]
                        try simp only [w22]
                        try simp only [w49]
                        try simp only [ern]
                        conv => whnf
                        refine ⟨Nat.le_of_ble_eq_true rfl, Nat.le_of_ble_eq_true rfl, (by first | assumption | rfl), ?_⟩
                        refine r_tok (tx := tx) (n9 := n9) (i := i) (by repeat (first | exact hq | refine rQ_up ?_ (by unfold FRd; omega))) (fun σ9 hf9 hq9 => ?_)
                        conv => whnf
                        refine ⟨fun q9 => by first | (simp at q9; done) | omega, ?_⟩
                        first
                        | (have ht : kT tx n9 i = 21 := by omega
                           have hkv := (pKz_21 hkz).2.2.2.2 ((pKz_21 hkz).1.mpr ht)
                           have ev9 : σ 124 9 = kV tx n9 i := by omega
                           refine hS (sx_up (sx_up (sx_up (sx_up (sx_up s p 14 (s p 14 + 1)) (p + 11) (s 32 14) (21)) (p + 12) (s 32 14) (kV tx n9 i)) 32 14 (s 32 14 + 1)) 32 13 0) _ (Or.inl ⟨ht, by omega, by omega, rfl⟩) (eC_leaf (s := s) (r := σ) (c := 21) (v := kV tx n9 i) (k := 0) (a := σ 124 9) hp hk hc0 (Or.inl rfl) (Or.inl ⟨rfl, rfl, ev9⟩) (by rw [up_n (by omega), up_n (by omega), up_n (by omega), up_n (by omega), up_n (by omega)]) (funext fun j => by rw [up_n (by omega), up_n (by omega), up_n (by omega), up_n (by omega), up_n (by omega)]) up_s (by rw [up_n (by omega), up_s]) (fun j => by
                              rw [up_n (by omega), up_n (by omega), up_n (by omega)]
                              by_cases e9 : j = s 32 14
                              · rw [if_pos e9, e9, up_s]
                              · rw [if_neg e9, up_n (by omega), up_n (by omega)]) (fun j => by
                              rw [up_n (by omega), up_n (by omega)]
                              by_cases e9 : j = s 32 14
                              · rw [if_pos e9, e9, up_s]
                              · rw [if_neg e9, up_n (by omega), up_n (by omega), up_n (by omega)]) (by rw [hf9 139 _ (by unfold FRt; omega)]; (repeat (first | rw [up_s] | rw [up_n (by omega)])); try omega) (by rw [hf9 140 _ (by unfold FRt; omega)]; (repeat (first | rw [up_s] | rw [up_n (by omega)])); try omega) (fun x j z => by rw [hf9 x j (by unfold FRt; omega)]; repeat (first | rw [up_n (by omega)])) (by rw [hf9 143 _ (by unfold FRt; omega)]; (repeat (first | rw [up_s] | rw [up_n (by omega)])); try omega) (fun d z => by rw [hf9 143 d (by unfold FRt; omega)]; repeat (first | rw [up_n (by omega)])) (by rw [hf9 _ _ (by unfold FRt; omega)]; (repeat (first | rw [up_s] | rw [up_n (by omega)])); try omega) (by rw [hf9 _ _ (by unfold FRt; omega)]; (repeat (first | rw [up_s] | rw [up_n (by omega)])); try omega) ?_ ?_ ?_) hq9 (fun a j z9 => by unfold FEs at z9; rw [hf9 a j (by unfold FRt; omega)]; repeat (first | rw [up_n (by omega)]))
                           · rw [hf9 _ _ (by unfold FRt; omega)]; (repeat (first | rw [up_n (by omega)])); exact w50
                           · rw [hf9 _ _ (by unfold FRt; omega)]; (repeat (first | rw [up_s] | rw [up_n (by omega)]))
                           · rw [hf9 _ _ (by unfold FRt; omega)]; (repeat (first | rw [up_s] | rw [up_n (by omega)])))
                        | (have ht : 10 ≤ kT tx n9 i ∧ kT tx n9 i ≤ 16 := by omega
                           refine hS (sx_up (sx_up (sx_up (sx_up (sx_up s p 14 (s p 14 + 1)) (p + 11) (s 32 14) (kT tx n9 i)) (p + 12) (s 32 14) (0)) 32 14 (s 32 14 + 1)) 32 13 0) _ (Or.inr (Or.inl ⟨ht.1, ht.2, by omega, rfl⟩)) (eC_leaf (s := s) (r := σ) (c := kT tx n9 i) (v := 0) (k := 1) (a := fPn (kT tx n9 i)) hp hk hc0 (Or.inr ht) (Or.inr ⟨by omega, rfl, rfl⟩) (by rw [up_n (by omega), up_n (by omega), up_n (by omega), up_n (by omega), up_n (by omega)]) (funext fun j => by rw [up_n (by omega), up_n (by omega), up_n (by omega), up_n (by omega), up_n (by omega)]) up_s (by rw [up_n (by omega), up_s]) (fun j => by
                              rw [up_n (by omega), up_n (by omega), up_n (by omega)]
                              by_cases e9 : j = s 32 14
                              · rw [if_pos e9, e9, up_s]
                              · rw [if_neg e9, up_n (by omega), up_n (by omega)]) (fun j => by
                              rw [up_n (by omega), up_n (by omega)]
                              by_cases e9 : j = s 32 14
                              · rw [if_pos e9, e9, up_s]
                              · rw [if_neg e9, up_n (by omega), up_n (by omega), up_n (by omega)]) (by rw [hf9 139 _ (by unfold FRt; omega)]; (repeat (first | rw [up_s] | rw [up_n (by omega)])); try omega) (by rw [hf9 140 _ (by unfold FRt; omega)]; (repeat (first | rw [up_s] | rw [up_n (by omega)])); try omega) (fun x j z => by rw [hf9 x j (by unfold FRt; omega)]; repeat (first | rw [up_n (by omega)])) (by rw [hf9 143 _ (by unfold FRt; omega)]; (repeat (first | rw [up_s] | rw [up_n (by omega)])); try omega) (fun d z => by rw [hf9 143 d (by unfold FRt; omega)]; repeat (first | rw [up_n (by omega)])) (by rw [hf9 _ _ (by unfold FRt; omega)]; (repeat (first | rw [up_s] | rw [up_n (by omega)])); try omega) (by rw [hf9 _ _ (by unfold FRt; omega)]; (repeat (first | rw [up_s] | rw [up_n (by omega)])); try omega) ?_ ?_ ?_) hq9 (fun a j z9 => by unfold FEs at z9; rw [hf9 a j (by unfold FRt; omega)]; repeat (first | rw [up_n (by omega)]))
                           · rw [hf9 _ _ (by unfold FRt; omega)]; (repeat (first | rw [up_n (by omega)])); exact w50
                           · rw [hf9 _ _ (by unfold FRt; omega)]; (repeat (first | rw [up_s] | rw [up_n (by omega)]))
                           · rw [hf9 _ _ (by unfold FRt; omega)]; (repeat (first | rw [up_s] | rw [up_n (by omega)])))
                    · simp only [sx_cc, Classical.not_not] at g
                      conv => whnf
                      refine ⟨fun g => ?_, fun g => ?_⟩
                      · simp only [sx_cc, Classical.not_not] at g
                        conv => whnf
                        refine ⟨(by first | assumption | rfl), ?_⟩
                        try simp (disch := omega) only [Int.cast_ofNat_Int, up_s, up_a, up_i, mp_a, mp_ge]
                        try simp only [w50]
                        try simp only [w51]
                        try simp only [w48]
                        try simp only [w22]
                        try simp only [w49]
                        try simp only [ern]
                        conv => whnf
                        refine ⟨Nat.le_of_ble_eq_true rfl, Nat.le_of_ble_eq_true rfl, (by first | assumption | rfl), ?_⟩
                        refine r_grown (rQ_up hq (by unfold FRd; omega)) (w := s 32 14) (d := dpF (s (p + 11)) lo (s 32 14)) (by rw [up_n (by omega)]; exact w22) (by rw [up_n (by omega)]; exact w49) (by omega) (by omega) ?_
                        conv => whnf
                        refine ⟨(by first | assumption | rfl), by omega, ?_⟩
                        try simp (disch := omega) only [Int.cast_ofNat_Int, up_s, up_a, up_i, mp_a, mp_ge]
                        try simp only [w50]
                        try simp only [w51]
                        try simp only [w48]
                        try simp only [w22]
                        try simp only [w49]
                        try simp only [ern]
                        conv => whnf
                        refine ⟨Nat.le_of_ble_eq_true rfl, Nat.le_of_ble_eq_true rfl, (by first | assumption | rfl), ?_⟩
                        refine r_tok (tx := tx) (n9 := n9) (i := i) (by repeat (first | exact hq | refine rQ_up ?_ (by unfold FRd; omega))) (fun σ9 hf9 hq9 => ?_)
                        conv => whnf
                        refine ⟨fun q9 => by first | (simp at q9; done) | omega, ?_⟩
                        first
                        | (have ht : kT tx n9 i = 21 := by omega
                           have hkv := (pKz_21 hkz).2.2.2.2 ((pKz_21 hkz).1.mpr ht)
                           have ev9 : σ 124 9 = kV tx n9 i := by omega
                           refine hS (sx_up (sx_up (sx_up (sx_up (sx_up s p 14 (s p 14 + 1)) (p + 11) (s 32 14) (21)) (p + 12) (s 32 14) (kV tx n9 i)) 32 14 (s 32 14 + 1)) 32 13 0) _ (Or.inl ⟨ht, by omega, by omega, rfl⟩) (eC_leaf (s := s) (r := σ) (c := 21) (v := kV tx n9 i) (k := 0) (a := σ 124 9) hp hk hc0 (Or.inl rfl) (Or.inl ⟨rfl, rfl, ev9⟩) (by rw [up_n (by omega), up_n (by omega), up_n (by omega), up_n (by omega), up_n (by omega)]) (funext fun j => by rw [up_n (by omega), up_n (by omega), up_n (by omega), up_n (by omega), up_n (by omega)]) up_s (by rw [up_n (by omega), up_s]) (fun j => by
                              rw [up_n (by omega), up_n (by omega), up_n (by omega)]
                              by_cases e9 : j = s 32 14
                              · rw [if_pos e9, e9, up_s]
                              · rw [if_neg e9, up_n (by omega), up_n (by omega)]) (fun j => by
                              rw [up_n (by omega), up_n (by omega)]
                              by_cases e9 : j = s 32 14
                              · rw [if_pos e9, e9, up_s]
                              · rw [if_neg e9, up_n (by omega), up_n (by omega), up_n (by omega)]) (by rw [hf9 139 _ (by unfold FRt; omega)]; (repeat (first | rw [up_s] | rw [up_n (by omega)])); try omega) (by rw [hf9 140 _ (by unfold FRt; omega)]; (repeat (first | rw [up_s] | rw [up_n (by omega)])); try omega) (fun x j z => by rw [hf9 x j (by unfold FRt; omega)]; repeat (first | rw [up_n (by omega)])) (by rw [hf9 143 _ (by unfold FRt; omega)]; (repeat (first | rw [up_s] | rw [up_n (by omega)])); try omega) (fun d z => by rw [hf9 143 d (by unfold FRt; omega)]; repeat (first | rw [up_n (by omega)])) (by rw [hf9 _ _ (by unfold FRt; omega)]; (repeat (first | rw [up_s] | rw [up_n (by omega)])); try omega) (by rw [hf9 _ _ (by unfold FRt; omega)]; (repeat (first | rw [up_s] | rw [up_n (by omega)])); try omega) ?_ ?_ ?_) hq9 (fun a j z9 => by unfold FEs at z9; rw [hf9 a j (by unfold FRt; omega)]; repeat (first | rw [up_n (by omega)]))
                           · rw [hf9 _ _ (by unfold FRt; omega)]; (repeat (first | rw [up_n (by omega)])); exact w50
                           · rw [hf9 _ _ (by unfold FRt; omega)]; (repeat (first | rw [up_s] | rw [up_n (by omega)]))
                           · rw [hf9 _ _ (by unfold FRt; omega)]; (repeat (first | rw [up_s] | rw [up_n (by omega)])))
                        | (have ht : 10 ≤ kT tx n9 i ∧ kT tx n9 i ≤ 16 := by omega
                           refine hS (sx_up (sx_up (sx_up (sx_up (sx_up s p 14 (s p 14 + 1)) (p + 11) (s 32 14) (kT tx n9 i)) (p + 12) (s 32 14) (0)) 32 14 (s 32 14 + 1)) 32 13 0) _ (Or.inr (Or.inl ⟨ht.1, ht.2, by omega, rfl⟩)) (eC_leaf (s := s) (r := σ) (c := kT tx n9 i) (v := 0) (k := 1) (a := fPn (kT tx n9 i)) hp hk hc0 (Or.inr ht) (Or.inr ⟨by omega, rfl, rfl⟩) (by rw [up_n (by omega), up_n (by omega), up_n (by omega), up_n (by omega), up_n (by omega)]) (funext fun j => by rw [up_n (by omega), up_n (by omega), up_n (by omega), up_n (by omega), up_n (by omega)]) up_s (by rw [up_n (by omega), up_s]) (fun j => by
                              rw [up_n (by omega), up_n (by omega), up_n (by omega)]
                              by_cases e9 : j = s 32 14
                              · rw [if_pos e9, e9, up_s]
                              · rw [if_neg e9, up_n (by omega), up_n (by omega)]) (fun j => by
                              rw [up_n (by omega), up_n (by omega)]
                              by_cases e9 : j = s 32 14
                              · rw [if_pos e9, e9, up_s]
                              · rw [if_neg e9, up_n (by omega), up_n (by omega), up_n (by omega)]) (by rw [hf9 139 _ (by unfold FRt; omega)]; (repeat (first | rw [up_s] | rw [up_n (by omega)])); try omega) (by rw [hf9 140 _ (by unfold FRt; omega)]; (repeat (first | rw [up_s] | rw [up_n (by omega)])); try omega) (fun x j z => by rw [hf9 x j (by unfold FRt; omega)]; repeat (first | rw [up_n (by omega)])) (by rw [hf9 143 _ (by unfold FRt; omega)]; (repeat (first | rw [up_s] | rw [up_n (by omega)])); try omega) (fun d z => by rw [hf9 143 d (by unfold FRt; omega)]; repeat (first | rw [up_n (by omega)])) (by rw [hf9 _ _ (by unfold FRt; omega)]; (repeat (first | rw [up_s] | rw [up_n (by omega)])); try omega) (by rw [hf9 _ _ (by unfold FRt; omega)]; (repeat (first | rw [up_s] | rw [up_n (by omega)])); try omega) ?_ ?_ ?_) hq9 (fun a j z9 => by unfold FEs at z9; rw [hf9 a j (by unfold FRt; omega)]; repeat (first | rw [up_n (by omega)]))
                           · rw [hf9 _ _ (by unfold FRt; omega)]; (repeat (first | rw [up_n (by omega)])); exact w50
                           · rw [hf9 _ _ (by unfold FRt; omega)]; (repeat (first | rw [up_s] | rw [up_n (by omega)]))
                           · rw [hf9 _ _ (by unfold FRt; omega)]; (repeat (first | rw [up_s] | rw [up_n (by omega)])))
                      · simp only [sx_cc, Classical.not_not] at g
                        conv => whnf
                        refine ⟨Nat.le_of_ble_eq_true rfl, Nat.le_of_ble_eq_true rfl, (by first | assumption | rfl), ?_⟩
                        refine r_grown (rQ_up hq (by unfold FRd; omega)) (w := s 32 14) (d := dpF (s (p + 11)) lo (s 32 14)) (by rw [up_n (by omega)]; exact w22) (by rw [up_n (by omega)]; exact w49) (by omega) (by omega) ?_
                        conv => whnf
                        refine ⟨(by first | assumption | rfl), by omega, ?_⟩
                        try simp (disch := omega) only [Int.cast_ofNat_Int, up_s, up_a, up_i, mp_a, mp_ge]
                        try simp only [w50]
                        try simp only [w51]
                        try simp only [w48]
                        try simp only [w22]
                        try simp only [w49]
                        try simp only [ern]
                        conv => whnf
                        refine ⟨Nat.le_of_ble_eq_true rfl, Nat.le_of_ble_eq_true rfl, (by first | assumption | rfl), ?_⟩
                        refine r_tok (tx := tx) (n9 := n9) (i := i) (by repeat (first | exact hq | refine rQ_up ?_ (by unfold FRd; omega))) (fun σ9 hf9 hq9 => ?_)
                        conv => whnf
                        refine ⟨fun q9 => by first | (simp at q9; done) | omega, ?_⟩
                        first
                        | (have ht : kT tx n9 i = 21 := by omega
                           have hkv := (pKz_21 hkz).2.2.2.2 ((pKz_21 hkz).1.mpr ht)
                           have ev9 : σ 124 9 = kV tx n9 i := by omega
                           refine hS (sx_up (sx_up (sx_up (sx_up (sx_up s p 14 (s p 14 + 1)) (p + 11) (s 32 14) (21)) (p + 12) (s 32 14) (kV tx n9 i)) 32 14 (s 32 14 + 1)) 32 13 0) _ (Or.inl ⟨ht, by omega, by omega, rfl⟩) (eC_leaf (s := s) (r := σ) (c := 21) (v := kV tx n9 i) (k := 0) (a := σ 124 9) hp hk hc0 (Or.inl rfl) (Or.inl ⟨rfl, rfl, ev9⟩) (by rw [up_n (by omega), up_n (by omega), up_n (by omega), up_n (by omega), up_n (by omega)]) (funext fun j => by rw [up_n (by omega), up_n (by omega), up_n (by omega), up_n (by omega), up_n (by omega)]) up_s (by rw [up_n (by omega), up_s]) (fun j => by
                              rw [up_n (by omega), up_n (by omega), up_n (by omega)]
                              by_cases e9 : j = s 32 14
                              · rw [if_pos e9, e9, up_s]
                              · rw [if_neg e9, up_n (by omega), up_n (by omega)]) (fun j => by
                              rw [up_n (by omega), up_n (by omega)]
                              by_cases e9 : j = s 32 14
                              · rw [if_pos e9, e9, up_s]
                              · rw [if_neg e9, up_n (by omega), up_n (by omega), up_n (by omega)]) (by rw [hf9 139 _ (by unfold FRt; omega)]; (repeat (first | rw [up_s] | rw [up_n (by omega)])); try omega) (by rw [hf9 140 _ (by unfold FRt; omega)]; (repeat (first | rw [up_s] | rw [up_n (by omega)])); try omega) (fun x j z => by rw [hf9 x j (by unfold FRt; omega)]; repeat (first | rw [up_n (by omega)])) (by rw [hf9 143 _ (by unfold FRt; omega)]; (repeat (first | rw [up_s] | rw [up_n (by omega)])); try omega) (fun d z => by rw [hf9 143 d (by unfold FRt; omega)]; repeat (first | rw [up_n (by omega)])) (by rw [hf9 _ _ (by unfold FRt; omega)]; (repeat (first | rw [up_s] | rw [up_n (by omega)])); try omega) (by rw [hf9 _ _ (by unfold FRt; omega)]; (repeat (first | rw [up_s] | rw [up_n (by omega)])); try omega) ?_ ?_ ?_) hq9 (fun a j z9 => by unfold FEs at z9; rw [hf9 a j (by unfold FRt; omega)]; repeat (first | rw [up_n (by omega)]))
                           · rw [hf9 _ _ (by unfold FRt; omega)]; (repeat (first | rw [up_n (by omega)])); exact w50
                           · rw [hf9 _ _ (by unfold FRt; omega)]; (repeat (first | rw [up_s] | rw [up_n (by omega)]))
                           · rw [hf9 _ _ (by unfold FRt; omega)]; (repeat (first | rw [up_s] | rw [up_n (by omega)])))
                        | (have ht : 10 ≤ kT tx n9 i ∧ kT tx n9 i ≤ 16 := by omega
                           refine hS (sx_up (sx_up (sx_up (sx_up (sx_up s p 14 (s p 14 + 1)) (p + 11) (s 32 14) (kT tx n9 i)) (p + 12) (s 32 14) (0)) 32 14 (s 32 14 + 1)) 32 13 0) _ (Or.inr (Or.inl ⟨ht.1, ht.2, by omega, rfl⟩)) (eC_leaf (s := s) (r := σ) (c := kT tx n9 i) (v := 0) (k := 1) (a := fPn (kT tx n9 i)) hp hk hc0 (Or.inr ht) (Or.inr ⟨by omega, rfl, rfl⟩) (by rw [up_n (by omega), up_n (by omega), up_n (by omega), up_n (by omega), up_n (by omega)]) (funext fun j => by rw [up_n (by omega), up_n (by omega), up_n (by omega), up_n (by omega), up_n (by omega)]) up_s (by rw [up_n (by omega), up_s]) (fun j => by
                              rw [up_n (by omega), up_n (by omega), up_n (by omega)]
                              by_cases e9 : j = s 32 14
                              · rw [if_pos e9, e9, up_s]
                              · rw [if_neg e9, up_n (by omega), up_n (by omega)]) (fun j => by
                              rw [up_n (by omega), up_n (by omega)]
                              by_cases e9 : j = s 32 14
                              · rw [if_pos e9, e9, up_s]
                              · rw [if_neg e9, up_n (by omega), up_n (by omega), up_n (by omega)]) (by rw [hf9 139 _ (by unfold FRt; omega)]; (repeat (first | rw [up_s] | rw [up_n (by omega)])); try omega) (by rw [hf9 140 _ (by unfold FRt; omega)]; (repeat (first | rw [up_s] | rw [up_n (by omega)])); try omega) (fun x j z => by rw [hf9 x j (by unfold FRt; omega)]; repeat (first | rw [up_n (by omega)])) (by rw [hf9 143 _ (by unfold FRt; omega)]; (repeat (first | rw [up_s] | rw [up_n (by omega)])); try omega) (fun d z => by rw [hf9 143 d (by unfold FRt; omega)]; repeat (first | rw [up_n (by omega)])) (by rw [hf9 _ _ (by unfold FRt; omega)]; (repeat (first | rw [up_s] | rw [up_n (by omega)])); try omega) (by rw [hf9 _ _ (by unfold FRt; omega)]; (repeat (first | rw [up_s] | rw [up_n (by omega)])); try omega) ?_ ?_ ?_) hq9 (fun a j z9 => by unfold FEs at z9; rw [hf9 a j (by unfold FRt; omega)]; repeat (first | rw [up_n (by omega)]))
                           · rw [hf9 _ _ (by unfold FRt; omega)]; (repeat (first | rw [up_n (by omega)])); exact w50
                           · rw [hf9 _ _ (by unfold FRt; omega)]; (repeat (first | rw [up_s] | rw [up_n (by omega)]))
                           · rw [hf9 _ _ (by unfold FRt; omega)]; (repeat (first | rw [up_s] | rw [up_n (by omega)])))
                  · exact absurd g (by simp [sx_cc])
                · have hty : kT tx n9 i = 21 ∨ (10 ≤ kT tx n9 i ∧ kT tx n9 i ≤ 16) := by omega
                  conv => whnf
                  refine ⟨fun g => ?_, fun g => ?_⟩
                  · exact absurd g (by simp [sx_cc])
                  · skip
                    conv => whnf
                    refine ⟨fun q9 => by first | (simp at q9; done) | omega, ?_⟩
                    rcases hty with ht | ht
                    · exact hF _ _ (Or.inl ⟨ht, by omega, rfl⟩) (fun a j z9 => by unfold FEq at z9; rw [up_n (by omega), up_n (by omega)]) ⟨by rw [up_n (by omega), up_s], by rw [up_s, ha]⟩
                    · exact hF _ _ (Or.inr (Or.inl ⟨ht.1, ht.2, by omega, rfl⟩)) (fun a j z9 => by unfold FEq at z9; rw [up_n (by omega), up_n (by omega)]) ⟨by rw [up_n (by omega), up_s], by rw [up_s, ha]⟩
              · simp only [sx_cc, Classical.not_not] at g
                conv => whnf
                refine ⟨(by first | assumption | rfl), ?_⟩
                try simp (disch := omega) only [Int.cast_ofNat_Int, up_s, up_a, up_i, mp_a, mp_ge]
                try simp only [w50]
                try simp only [w51]
                try simp only [w48]
                try simp only [w22]
                try simp only [w49]
                try simp only [ern]
                conv => whnf
                refine ⟨fun g => ?_, fun g => ?_⟩
                · simp only [sx_cc, Classical.not_not] at g
                  conv => whnf
                  refine ⟨Nat.le_of_ble_eq_true rfl, Nat.le_of_ble_eq_true rfl, (by first | assumption | rfl), ?_⟩
                  refine r_cnt w51 z2 (fun hk9 => ?_) (fun hk9 => ?_)
                  · have hty : kT tx n9 i = 21 ∨ (10 ≤ kT tx n9 i ∧ kT tx n9 i ≤ 16) := by omega
                    conv => whnf
                    refine ⟨fun g => ?_, fun g => ?_⟩
                    · skip
                      conv => whnf
                      refine ⟨fun g => ?_, fun g => ?_⟩
                      · simp only [sx_cc, Classical.not_not] at g
                        conv => whnf
                        refine ⟨fun g => ?_, fun g => ?_⟩
                        · simp only [sx_cc, Classical.not_not] at g
                          conv => whnf
                          refine ⟨(by first | assumption | rfl), ?_⟩
                          try simp (disch := omega) only [Int.cast_ofNat_Int, up_s, up_a, up_i, mp_a, mp_ge]
                          try simp only [w50]
                          try simp only [w51]
                          try simp only [w48]
                          try simp only [w22]
                          try simp only [w49]
                          try simp only [ern]
                          conv => whnf
                          refine ⟨Nat.le_of_ble_eq_true rfl, Nat.le_of_ble_eq_true rfl, (by first | assumption | rfl), ?_⟩
                          refine r_grown (rQ_up hq (by unfold FRd; omega)) (w := s 32 14) (d := dpF (s (p + 11)) lo (s 32 14)) (by rw [up_n (by omega)]; exact w22) (by rw [up_n (by omega)]; exact w49) (by omega) (by omega) ?_
                          conv => whnf
                          refine ⟨(by first | assumption | rfl), by omega, ?_⟩
                          try simp (disch := omega) only [Int.cast_ofNat_Int, up_s, up_a, up_i, mp_a, mp_ge]
                          try simp only [w50]
                          try simp only [w51]
                          try simp only [w48]
                          try simp only [w22]
                          try simp only [w49]
                          try simp only [ern]
                          conv => whnf
                          refine ⟨Nat.le_of_ble_eq_true rfl, Nat.le_of_ble_eq_true rfl, (by first | assumption | rfl), ?_⟩
                          refine r_tok (tx := tx) (n9 := n9) (i := i) (by repeat (first | exact hq | refine rQ_up ?_ (by unfold FRd; omega))) (fun σ9 hf9 hq9 => ?_)
                          conv => whnf
                          refine ⟨fun q9 => by first | (simp at q9; done) | omega, ?_⟩
                          first
                          | (have ht : kT tx n9 i = 21 := by omega
                             have hkv := (pKz_21 hkz).2.2.2.2 ((pKz_21 hkz).1.mpr ht)
                             have ev9 : σ 124 9 = kV tx n9 i := by omega
                             refine hS (sx_up (sx_up (sx_up (sx_up (sx_up s p 14 (s p 14 + 1)) (p + 11) (s 32 14) (21)) (p + 12) (s 32 14) (kV tx n9 i)) 32 14 (s 32 14 + 1)) 32 13 0) _ (Or.inl ⟨ht, by omega, by omega, rfl⟩) (eC_leaf (s := s) (r := σ) (c := 21) (v := kV tx n9 i) (k := 0) (a := σ 124 9) hp hk hc0 (Or.inl rfl) (Or.inl ⟨rfl, rfl, ev9⟩) (by rw [up_n (by omega), up_n (by omega), up_n (by omega), up_n (by omega), up_n (by omega)]) (funext fun j => by rw [up_n (by omega), up_n (by omega), up_n (by omega), up_n (by omega), up_n (by omega)]) up_s (by rw [up_n (by omega), up_s]) (fun j => by
                                rw [up_n (by omega), up_n (by omega), up_n (by omega)]
                                by_cases e9 : j = s 32 14
                                · rw [if_pos e9, e9, up_s]
                                · rw [if_neg e9, up_n (by omega), up_n (by omega)]) (fun j => by
                                rw [up_n (by omega), up_n (by omega)]
                                by_cases e9 : j = s 32 14
                                · rw [if_pos e9, e9, up_s]
                                · rw [if_neg e9, up_n (by omega), up_n (by omega), up_n (by omega)]) (by rw [hf9 139 _ (by unfold FRt; omega)]; (repeat (first | rw [up_s] | rw [up_n (by omega)])); try omega) (by rw [hf9 140 _ (by unfold FRt; omega)]; (repeat (first | rw [up_s] | rw [up_n (by omega)])); try omega) (fun x j z => by rw [hf9 x j (by unfold FRt; omega)]; repeat (first | rw [up_n (by omega)])) (by rw [hf9 143 _ (by unfold FRt; omega)]; (repeat (first | rw [up_s] | rw [up_n (by omega)])); try omega) (fun d z => by rw [hf9 143 d (by unfold FRt; omega)]; repeat (first | rw [up_n (by omega)])) (by rw [hf9 _ _ (by unfold FRt; omega)]; (repeat (first | rw [up_s] | rw [up_n (by omega)])); try omega) (by rw [hf9 _ _ (by unfold FRt; omega)]; (repeat (first | rw [up_s] | rw [up_n (by omega)])); try omega) ?_ ?_ ?_) hq9 (fun a j z9 => by unfold FEs at z9; rw [hf9 a j (by unfold FRt; omega)]; repeat (first | rw [up_n (by omega)]))
                             · rw [hf9 _ _ (by unfold FRt; omega)]; (repeat (first | rw [up_n (by omega)])); exact w50
                             · rw [hf9 _ _ (by unfold FRt; omega)]; (repeat (first | rw [up_s] | rw [up_n (by omega)]))
                             · rw [hf9 _ _ (by unfold FRt; omega)]; (repeat (first | rw [up_s] | rw [up_n (by omega)])))
                          | (have ht : 10 ≤ kT tx n9 i ∧ kT tx n9 i ≤ 16 := by omega
                             refine hS (sx_up (sx_up (sx_up (sx_up (sx_up s p 14 (s p 14 + 1)) (p + 11) (s 32 14) (kT tx n9 i)) (p + 12) (s 32 14) (0)) 32 14 (s 32 14 + 1)) 32 13 0) _ (Or.inr (Or.inl ⟨ht.1, ht.2, by omega, rfl⟩)) (eC_leaf (s := s) (r := σ) (c := kT tx n9 i) (v := 0) (k := 1) (a := fPn (kT tx n9 i)) hp hk hc0 (Or.inr ht) (Or.inr ⟨by omega, rfl, rfl⟩) (by rw [up_n (by omega), up_n (by omega), up_n (by omega), up_n (by omega), up_n (by omega)]) (funext fun j => by rw [up_n (by omega), up_n (by omega), up_n (by omega), up_n (by omega), up_n (by omega)]) up_s (by rw [up_n (by omega), up_s]) (fun j => by
                                rw [up_n (by omega), up_n (by omega), up_n (by omega)]
                                by_cases e9 : j = s 32 14
                                · rw [if_pos e9, e9, up_s]
                                · rw [if_neg e9, up_n (by omega), up_n (by omega)]) (fun j => by
                                rw [up_n (by omega), up_n (by omega)]
                                by_cases e9 : j = s 32 14
                                · rw [if_pos e9, e9, up_s]
                                · rw [if_neg e9, up_n (by omega), up_n (by omega), up_n (by omega)]) (by rw [hf9 139 _ (by unfold FRt; omega)]; (repeat (first | rw [up_s] | rw [up_n (by omega)])); try omega) (by rw [hf9 140 _ (by unfold FRt; omega)]; (repeat (first | rw [up_s] | rw [up_n (by omega)])); try omega) (fun x j z => by rw [hf9 x j (by unfold FRt; omega)]; repeat (first | rw [up_n (by omega)])) (by rw [hf9 143 _ (by unfold FRt; omega)]; (repeat (first | rw [up_s] | rw [up_n (by omega)])); try omega) (fun d z => by rw [hf9 143 d (by unfold FRt; omega)]; repeat (first | rw [up_n (by omega)])) (by rw [hf9 _ _ (by unfold FRt; omega)]; (repeat (first | rw [up_s] | rw [up_n (by omega)])); try omega) (by rw [hf9 _ _ (by unfold FRt; omega)]; (repeat (first | rw [up_s] | rw [up_n (by omega)])); try omega) ?_ ?_ ?_) hq9 (fun a j z9 => by unfold FEs at z9; rw [hf9 a j (by unfold FRt; omega)]; repeat (first | rw [up_n (by omega)]))
                             · rw [hf9 _ _ (by unfold FRt; omega)]; (repeat (first | rw [up_n (by omega)])); exact w50
                             · rw [hf9 _ _ (by unfold FRt; omega)]; (repeat (first | rw [up_s] | rw [up_n (by omega)]))
                             · rw [hf9 _ _ (by unfold FRt; omega)]; (repeat (first | rw [up_s] | rw [up_n (by omega)])))
                        · simp only [sx_cc, Classical.not_not] at g
                          conv => whnf
                          refine ⟨Nat.le_of_ble_eq_true rfl, Nat.le_of_ble_eq_true rfl, (by first | assumption | rfl), ?_⟩
                          refine r_grown (rQ_up hq (by unfold FRd; omega)) (w := s 32 14) (d := dpF (s (p + 11)) lo (s 32 14)) (by rw [up_n (by omega)]; exact w22) (by rw [up_n (by omega)]; exact w49) (by omega) (by omega) ?_
                          conv => whnf
                          refine ⟨(by first | assumption | rfl), by omega, ?_⟩
                          try simp (disch := omega) only [Int.cast_ofNat_Int, up_s, up_a, up_i, mp_a, mp_ge]
                          try simp only [w50]
                          try simp only [w51]
                          try simp only [w48]
                          try simp only [w22]
                          try simp only [w49]
                          try simp only [ern]
                          conv => whnf
                          refine ⟨Nat.le_of_ble_eq_true rfl, Nat.le_of_ble_eq_true rfl, (by first | assumption | rfl), ?_⟩
                          refine r_tok (tx := tx) (n9 := n9) (i := i) (by repeat (first | exact hq | refine rQ_up ?_ (by unfold FRd; omega))) (fun σ9 hf9 hq9 => ?_)
                          conv => whnf
                          refine ⟨fun q9 => by first | (simp at q9; done) | omega, ?_⟩
                          first
                          | (have ht : kT tx n9 i = 21 := by omega
                             have hkv := (pKz_21 hkz).2.2.2.2 ((pKz_21 hkz).1.mpr ht)
                             have ev9 : σ 124 9 = kV tx n9 i := by omega
                             refine hS (sx_up (sx_up (sx_up (sx_up (sx_up s p 14 (s p 14 + 1)) (p + 11) (s 32 14) (21)) (p + 12) (s 32 14) (kV tx n9 i)) 32 14 (s 32 14 + 1)) 32 13 0) _ (Or.inl ⟨ht, by omega, by omega, rfl⟩) (eC_leaf (s := s) (r := σ) (c := 21) (v := kV tx n9 i) (k := 0) (a := σ 124 9) hp hk hc0 (Or.inl rfl) (Or.inl ⟨rfl, rfl, ev9⟩) (by rw [up_n (by omega), up_n (by omega), up_n (by omega), up_n (by omega), up_n (by omega)]) (funext fun j => by rw [up_n (by omega), up_n (by omega), up_n (by omega), up_n (by omega), up_n (by omega)]) up_s (by rw [up_n (by omega), up_s]) (fun j => by
                                rw [up_n (by omega), up_n (by omega), up_n (by omega)]
                                by_cases e9 : j = s 32 14
                                · rw [if_pos e9, e9, up_s]
                                · rw [if_neg e9, up_n (by omega), up_n (by omega)]) (fun j => by
                                rw [up_n (by omega), up_n (by omega)]
                                by_cases e9 : j = s 32 14
                                · rw [if_pos e9, e9, up_s]
                                · rw [if_neg e9, up_n (by omega), up_n (by omega), up_n (by omega)]) (by rw [hf9 139 _ (by unfold FRt; omega)]; (repeat (first | rw [up_s] | rw [up_n (by omega)])); try omega) (by rw [hf9 140 _ (by unfold FRt; omega)]; (repeat (first | rw [up_s] | rw [up_n (by omega)])); try omega) (fun x j z => by rw [hf9 x j (by unfold FRt; omega)]; repeat (first | rw [up_n (by omega)])) (by rw [hf9 143 _ (by unfold FRt; omega)]; (repeat (first | rw [up_s] | rw [up_n (by omega)])); try omega) (fun d z => by rw [hf9 143 d (by unfold FRt; omega)]; repeat (first | rw [up_n (by omega)])) (by rw [hf9 _ _ (by unfold FRt; omega)]; (repeat (first | rw [up_s] | rw [up_n (by omega)])); try omega) (by rw [hf9 _ _ (by unfold FRt; omega)]; (repeat (first | rw [up_s] | rw [up_n (by omega)])); try omega) ?_ ?_ ?_) hq9 (fun a j z9 => by unfold FEs at z9; rw [hf9 a j (by unfold FRt; omega)]; repeat (first | rw [up_n (by omega)]))
                             · rw [hf9 _ _ (by unfold FRt; omega)]; (repeat (first | rw [up_n (by omega)])); exact w50
                             · rw [hf9 _ _ (by unfold FRt; omega)]; (repeat (first | rw [up_s] | rw [up_n (by omega)]))
                             · rw [hf9 _ _ (by unfold FRt; omega)]; (repeat (first | rw [up_s] | rw [up_n (by omega)])))
                          | (have ht : 10 ≤ kT tx n9 i ∧ kT tx n9 i ≤ 16 := by omega
                             refine hS (sx_up (sx_up (sx_up (sx_up (sx_up s p 14 (s p 14 + 1)) (p + 11) (s 32 14) (kT tx n9 i)) (p + 12) (s 32 14) (0)) 32 14 (s 32 14 + 1)) 32 13 0) _ (Or.inr (Or.inl ⟨ht.1, ht.2, by omega, rfl⟩)) (eC_leaf (s := s) (r := σ) (c := kT tx n9 i) (v := 0) (k := 1) (a := fPn (kT tx n9 i)) hp hk hc0 (Or.inr ht) (Or.inr ⟨by omega, rfl, rfl⟩) (by rw [up_n (by omega), up_n (by omega), up_n (by omega), up_n (by omega), up_n (by omega)]) (funext fun j => by rw [up_n (by omega), up_n (by omega), up_n (by omega), up_n (by omega), up_n (by omega)]) up_s (by rw [up_n (by omega), up_s]) (fun j => by
                                rw [up_n (by omega), up_n (by omega), up_n (by omega)]
                                by_cases e9 : j = s 32 14
                                · rw [if_pos e9, e9, up_s]
                                · rw [if_neg e9, up_n (by omega), up_n (by omega)]) (fun j => by
                                rw [up_n (by omega), up_n (by omega)]
                                by_cases e9 : j = s 32 14
                                · rw [if_pos e9, e9, up_s]
                                · rw [if_neg e9, up_n (by omega), up_n (by omega), up_n (by omega)]) (by rw [hf9 139 _ (by unfold FRt; omega)]; (repeat (first | rw [up_s] | rw [up_n (by omega)])); try omega) (by rw [hf9 140 _ (by unfold FRt; omega)]; (repeat (first | rw [up_s] | rw [up_n (by omega)])); try omega) (fun x j z => by rw [hf9 x j (by unfold FRt; omega)]; repeat (first | rw [up_n (by omega)])) (by rw [hf9 143 _ (by unfold FRt; omega)]; (repeat (first | rw [up_s] | rw [up_n (by omega)])); try omega) (fun d z => by rw [hf9 143 d (by unfold FRt; omega)]; repeat (first | rw [up_n (by omega)])) (by rw [hf9 _ _ (by unfold FRt; omega)]; (repeat (first | rw [up_s] | rw [up_n (by omega)])); try omega) (by rw [hf9 _ _ (by unfold FRt; omega)]; (repeat (first | rw [up_s] | rw [up_n (by omega)])); try omega) ?_ ?_ ?_) hq9 (fun a j z9 => by unfold FEs at z9; rw [hf9 a j (by unfold FRt; omega)]; repeat (first | rw [up_n (by omega)]))
                             · rw [hf9 _ _ (by unfold FRt; omega)]; (repeat (first | rw [up_n (by omega)])); exact w50
                             · rw [hf9 _ _ (by unfold FRt; omega)]; (repeat (first | rw [up_s] | rw [up_n (by omega)]))
                             · rw [hf9 _ _ (by unfold FRt; omega)]; (repeat (first | rw [up_s] | rw [up_n (by omega)])))
                      · simp only [sx_cc, Classical.not_not] at g
                        conv => whnf
                        refine ⟨fun g => ?_, fun g => ?_⟩
                        · simp only [sx_cc, Classical.not_not] at g
                          conv => whnf
                          refine ⟨(by first | assumption | rfl), ?_⟩
                          try simp (disch := omega) only [Int.cast_ofNat_Int, up_s, up_a, up_i, mp_a, mp_ge]
                          try simp only [w50]
                          try simp only [w51]
                          try simp only [w48]
                          try simp only [w22]
                          try simp only [w49]
                          try simp only [ern]
                          conv => whnf
                          refine ⟨Nat.le_of_ble_eq_true rfl, Nat.le_of_ble_eq_true rfl, (by first | assumption | rfl), ?_⟩
                          refine r_grown (rQ_up hq (by unfold FRd; omega)) (w := s 32 14) (d := dpF (s (p + 11)) lo (s 32 14)) (by rw [up_n (by omega)]; exact w22) (by rw [up_n (by omega)]; exact w49) (by omega) (by omega) ?_
                          conv => whnf
                          refine ⟨(by first | assumption | rfl), by omega, ?_⟩
                          try simp (disch := omega) only [Int.cast_ofNat_Int, up_s, up_a, up_i, mp_a, mp_ge]
                          try simp only [w50]
                          try simp only [w51]
                          try simp only [w48]
                          try simp only [w22]
                          try simp only [w49]
                          try simp only [ern]
                          conv => whnf
                          refine ⟨Nat.le_of_ble_eq_true rfl, Nat.le_of_ble_eq_true rfl, (by first | assumption | rfl), ?_⟩
                          refine r_tok (tx := tx) (n9 := n9) (i := i) (by repeat (first | exact hq | refine rQ_up ?_ (by unfold FRd; omega))) (fun σ9 hf9 hq9 => ?_)
                          conv => whnf
                          refine ⟨fun q9 => by first | (simp at q9; done) | omega, ?_⟩
                          first
                          | (have ht : kT tx n9 i = 21 := by omega
                             have hkv := (pKz_21 hkz).2.2.2.2 ((pKz_21 hkz).1.mpr ht)
                             have ev9 : σ 124 9 = kV tx n9 i := by omega
                             refine hS (sx_up (sx_up (sx_up (sx_up (sx_up s p 14 (s p 14 + 1)) (p + 11) (s 32 14) (21)) (p + 12) (s 32 14) (kV tx n9 i)) 32 14 (s 32 14 + 1)) 32 13 0) _ (Or.inl ⟨ht, by omega, by omega, rfl⟩) (eC_leaf (s := s) (r := σ) (c := 21) (v := kV tx n9 i) (k := 0) (a := σ 124 9) hp hk hc0 (Or.inl rfl) (Or.inl ⟨rfl, rfl, ev9⟩) (by rw [up_n (by omega), up_n (by omega), up_n (by omega), up_n (by omega), up_n (by omega)]) (funext fun j => by rw [up_n (by omega), up_n (by omega), up_n (by omega), up_n (by omega), up_n (by omega)]) up_s (by rw [up_n (by omega), up_s]) (fun j => by
                                rw [up_n (by omega), up_n (by omega), up_n (by omega)]
                                by_cases e9 : j = s 32 14
                                · rw [if_pos e9, e9, up_s]
                                · rw [if_neg e9, up_n (by omega), up_n (by omega)]) (fun j => by
                                rw [up_n (by omega), up_n (by omega)]
                                by_cases e9 : j = s 32 14
                                · rw [if_pos e9, e9, up_s]
                                · rw [if_neg e9, up_n (by omega), up_n (by omega), up_n (by omega)]) (by rw [hf9 139 _ (by unfold FRt; omega)]; (repeat (first | rw [up_s] | rw [up_n (by omega)])); try omega) (by rw [hf9 140 _ (by unfold FRt; omega)]; (repeat (first | rw [up_s] | rw [up_n (by omega)])); try omega) (fun x j z => by rw [hf9 x j (by unfold FRt; omega)]; repeat (first | rw [up_n (by omega)])) (by rw [hf9 143 _ (by unfold FRt; omega)]; (repeat (first | rw [up_s] | rw [up_n (by omega)])); try omega) (fun d z => by rw [hf9 143 d (by unfold FRt; omega)]; repeat (first | rw [up_n (by omega)])) (by rw [hf9 _ _ (by unfold FRt; omega)]; (repeat (first | rw [up_s] | rw [up_n (by omega)])); try omega) (by rw [hf9 _ _ (by unfold FRt; omega)]; (repeat (first | rw [up_s] | rw [up_n (by omega)])); try omega) ?_ ?_ ?_) hq9 (fun a j z9 => by unfold FEs at z9; rw [hf9 a j (by unfold FRt; omega)]; repeat (first | rw [up_n (by omega)]))
                             · rw [hf9 _ _ (by unfold FRt; omega)]; (repeat (first | rw [up_n (by omega)])); exact w50
                             · rw [hf9 _ _ (by unfold FRt; omega)]; (repeat (first | rw [up_s] | rw [up_n (by omega)]))
                             · rw [hf9 _ _ (by unfold FRt; omega)]; (repeat (first | rw [up_s] | rw [up_n (by omega)])))
                          | (have ht : 10 ≤ kT tx n9 i ∧ kT tx n9 i ≤ 16 := by omega
                             refine hS (sx_up (sx_up (sx_up (sx_up (sx_up s p 14 (s p 14 + 1)) (p + 11) (s 32 14) (kT tx n9 i)) (p + 12) (s 32 14) (0)) 32 14 (s 32 14 + 1)) 32 13 0) _ (Or.inr (Or.inl ⟨ht.1, ht.2, by omega, rfl⟩)) (eC_leaf (s := s) (r := σ) (c := kT tx n9 i) (v := 0) (k := 1) (a := fPn (kT tx n9 i)) hp hk hc0 (Or.inr ht) (Or.inr ⟨by omega, rfl, rfl⟩) (by rw [up_n (by omega), up_n (by omega), up_n (by omega), up_n (by omega), up_n (by omega)]) (funext fun j => by rw [up_n (by omega), up_n (by omega), up_n (by omega), up_n (by omega), up_n (by omega)]) up_s (by rw [up_n (by omega), up_s]) (fun j => by
                                rw [up_n (by omega), up_n (by omega), up_n (by omega)]
                                by_cases e9 : j = s 32 14
                                · rw [if_pos e9, e9, up_s]
                                · rw [if_neg e9, up_n (by omega), up_n (by omega)]) (fun j => by
                                rw [up_n (by omega), up_n (by omega)]
                                by_cases e9 : j = s 32 14
                                · rw [if_pos e9, e9, up_s]
                                · rw [if_neg e9, up_n (by omega), up_n (by omega), up_n (by omega)]) (by rw [hf9 139 _ (by unfold FRt; omega)]; (repeat (first | rw [up_s] | rw [up_n (by omega)])); try omega) (by rw [hf9 140 _ (by unfold FRt; omega)]; (repeat (first | rw [up_s] | rw [up_n (by omega)])); try omega) (fun x j z => by rw [hf9 x j (by unfold FRt; omega)]; repeat (first | rw [up_n (by omega)])) (by rw [hf9 143 _ (by unfold FRt; omega)]; (repeat (first | rw [up_s] | rw [up_n (by omega)])); try omega) (fun d z => by rw [hf9 143 d (by unfold FRt; omega)]; repeat (first | rw [up_n (by omega)])) (by rw [hf9 _ _ (by unfold FRt; omega)]; (repeat (first | rw [up_s] | rw [up_n (by omega)])); try omega) (by rw [hf9 _ _ (by unfold FRt; omega)]; (repeat (first | rw [up_s] | rw [up_n (by omega)])); try omega) ?_ ?_ ?_) hq9 (fun a j z9 => by unfold FEs at z9; rw [hf9 a j (by unfold FRt; omega)]; repeat (first | rw [up_n (by omega)]))
                             · rw [hf9 _ _ (by unfold FRt; omega)]; (repeat (first | rw [up_n (by omega)])); exact w50
                             · rw [hf9 _ _ (by unfold FRt; omega)]; (repeat (first | rw [up_s] | rw [up_n (by omega)]))
                             · rw [hf9 _ _ (by unfold FRt; omega)]; (repeat (first | rw [up_s] | rw [up_n (by omega)])))
                        · simp only [sx_cc, Classical.not_not] at g
                          conv => whnf
                          refine ⟨Nat.le_of_ble_eq_true rfl, Nat.le_of_ble_eq_true rfl, (by first | assumption | rfl), ?_⟩
                          refine r_grown (rQ_up hq (by unfold FRd; omega)) (w := s 32 14) (d := dpF (s (p + 11)) lo (s 32 14)) (by rw [up_n (by omega)]; exact w22) (by rw [up_n (by omega)]; exact w49) (by omega) (by omega) ?_
                          conv => whnf
                          refine ⟨(by first | assumption | rfl), by omega, ?_⟩
                          try simp (disch := omega) only [Int.cast_ofNat_Int, up_s, up_a, up_i, mp_a, mp_ge]
                          try simp only [w50]
                          try simp only [w51]
                          try simp only [w48]
                          try simp only [w22]
                          try simp only [w49]
                          try simp only [ern]
                          conv => whnf
                          refine ⟨Nat.le_of_ble_eq_true rfl, Nat.le_of_ble_eq_true rfl, (by first | assumption | rfl), ?_⟩
                          refine r_tok (tx := tx) (n9 := n9) (i := i) (by repeat (first | exact hq | refine rQ_up ?_ (by unfold FRd; omega))) (fun σ9 hf9 hq9 => ?_)
                          conv => whnf
                          refine ⟨fun q9 => by first | (simp at q9; done) | omega, ?_⟩
                          first
                          | (have ht : kT tx n9 i = 21 := by omega
                             have hkv := (pKz_21 hkz).2.2.2.2 ((pKz_21 hkz).1.mpr ht)
                             have ev9 : σ 124 9 = kV tx n9 i := by omega
                             refine hS (sx_up (sx_up (sx_up (sx_up (sx_up s p 14 (s p 14 + 1)) (p + 11) (s 32 14) (21)) (p + 12) (s 32 14) (kV tx n9 i)) 32 14 (s 32 14 + 1)) 32 13 0) _ (Or.inl ⟨ht, by omega, by omega, rfl⟩) (eC_leaf (s := s) (r := σ) (c := 21) (v := kV tx n9 i) (k := 0) (a := σ 124 9) hp hk hc0 (Or.inl rfl) (Or.inl ⟨rfl, rfl, ev9⟩) (by rw [up_n (by omega), up_n (by omega), up_n (by omega), up_n (by omega), up_n (by omega)]) (funext fun j => by rw [up_n (by omega), up_n (by omega), up_n (by omega), up_n (by omega), up_n (by omega)]) up_s (by rw [up_n (by omega), up_s]) (fun j => by
                                rw [up_n (by omega), up_n (by omega), up_n (by omega)]
                                by_cases e9 : j = s 32 14
                                · rw [if_pos e9, e9, up_s]
                                · rw [if_neg e9, up_n (by omega), up_n (by omega)]) (fun j => by
                                rw [up_n (by omega), up_n (by omega)]
                                by_cases e9 : j = s 32 14
                                · rw [if_pos e9, e9, up_s]
                                · rw [if_neg e9, up_n (by omega), up_n (by omega), up_n (by omega)]) (by rw [hf9 139 _ (by unfold FRt; omega)]; (repeat (first | rw [up_s] | rw [up_n (by omega)])); try omega) (by rw [hf9 140 _ (by unfold FRt; omega)]; (repeat (first | rw [up_s] | rw [up_n (by omega)])); try omega) (fun x j z => by rw [hf9 x j (by unfold FRt; omega)]; repeat (first | rw [up_n (by omega)])) (by rw [hf9 143 _ (by unfold FRt; omega)]; (repeat (first | rw [up_s] | rw [up_n (by omega)])); try omega) (fun d z => by rw [hf9 143 d (by unfold FRt; omega)]; repeat (first | rw [up_n (by omega)])) (by rw [hf9 _ _ (by unfold FRt; omega)]; (repeat (first | rw [up_s] | rw [up_n (by omega)])); try omega) (by rw [hf9 _ _ (by unfold FRt; omega)]; (repeat (first | rw [up_s] | rw [up_n (by omega)])); try omega) ?_ ?_ ?_) hq9 (fun a j z9 => by unfold FEs at z9; rw [hf9 a j (by unfold FRt; omega)]; repeat (first | rw [up_n (by omega)]))
                             · rw [hf9 _ _ (by unfold FRt; omega)]; (repeat (first | rw [up_n (by omega)])); exact w50
                             · rw [hf9 _ _ (by unfold FRt; omega)]; (repeat (first | rw [up_s] | rw [up_n (by omega)]))
                             · rw [hf9 _ _ (by unfold FRt; omega)]; (repeat (first | rw [up_s] | rw [up_n (by omega)])))
                          | (have ht : 10 ≤ kT tx n9 i ∧ kT tx n9 i ≤ 16 := by omega
                             refine hS (sx_up (sx_up (sx_up (sx_up (sx_up s p 14 (s p 14 + 1)) (p + 11) (s 32 14) (kT tx n9 i)) (p + 12) (s 32 14) (0)) 32 14 (s 32 14 + 1)) 32 13 0) _ (Or.inr (Or.inl ⟨ht.1, ht.2, by omega, rfl⟩)) (eC_leaf (s := s) (r := σ) (c := kT tx n9 i) (v := 0) (k := 1) (a := fPn (kT tx n9 i)) hp hk hc0 (Or.inr ht) (Or.inr ⟨by omega, rfl, rfl⟩) (by rw [up_n (by omega), up_n (by omega), up_n (by omega), up_n (by omega), up_n (by omega)]) (funext fun j => by rw [up_n (by omega), up_n (by omega), up_n (by omega), up_n (by omega), up_n (by omega)]) up_s (by rw [up_n (by omega), up_s]) (fun j => by
                                rw [up_n (by omega), up_n (by omega), up_n (by omega)]
                                by_cases e9 : j = s 32 14
                                · rw [if_pos e9, e9, up_s]
                                · rw [if_neg e9, up_n (by omega), up_n (by omega)]) (fun j => by
                                rw [up_n (by omega), up_n (by omega)]
                                by_cases e9 : j = s 32 14
                                · rw [if_pos e9, e9, up_s]
                                · rw [if_neg e9, up_n (by omega), up_n (by omega), up_n (by omega)]) (by rw [hf9 139 _ (by unfold FRt; omega)]; (repeat (first | rw [up_s] | rw [up_n (by omega)])); try omega) (by rw [hf9 140 _ (by unfold FRt; omega)]; (repeat (first | rw [up_s] | rw [up_n (by omega)])); try omega) (fun x j z => by rw [hf9 x j (by unfold FRt; omega)]; repeat (first | rw [up_n (by omega)])) (by rw [hf9 143 _ (by unfold FRt; omega)]; (repeat (first | rw [up_s] | rw [up_n (by omega)])); try omega) (fun d z => by rw [hf9 143 d (by unfold FRt; omega)]; repeat (first | rw [up_n (by omega)])) (by rw [hf9 _ _ (by unfold FRt; omega)]; (repeat (first | rw [up_s] | rw [up_n (by omega)])); try omega) (by rw [hf9 _ _ (by unfold FRt; omega)]; (repeat (first | rw [up_s] | rw [up_n (by omega)])); try omega) ?_ ?_ ?_) hq9 (fun a j z9 => by unfold FEs at z9; rw [hf9 a j (by unfold FRt; omega)]; repeat (first | rw [up_n (by omega)]))
                             · rw [hf9 _ _ (by unfold FRt; omega)]; (repeat (first | rw [up_n (by omega)])); exact w50
                             · rw [hf9 _ _ (by unfold FRt; omega)]; (repeat (first | rw [up_s] | rw [up_n (by omega)]))
                             · rw [hf9 _ _ (by unfold FRt; omega)]; (repeat (first | rw [up_s] | rw [up_n (by omega)])))
                    · exact absurd g (by simp [sx_cc])
                  · have hty : kT tx n9 i = 21 ∨ (10 ≤ kT tx n9 i ∧ kT tx n9 i ≤ 16) := by omega
                    conv => whnf
                    refine ⟨fun g => ?_, fun g => ?_⟩
                    · exact absurd g (by simp [sx_cc])
                    · skip
                      conv => whnf
                      refine ⟨fun q9 => by first | (simp at q9; done) | omega, ?_⟩
                      rcases hty with ht | ht
                      · exact hF _ _ (Or.inl ⟨ht, by omega, rfl⟩) (fun a j z9 => by unfold FEq at z9; rw [up_n (by omega), up_n (by omega)]) ⟨by rw [up_n (by omega), up_s], by rw [up_s, ha]⟩
                      · exact hF _ _ (Or.inr (Or.inl ⟨ht.1, ht.2, by omega, rfl⟩)) (fun a j z9 => by unfold FEq at z9; rw [up_n (by omega), up_n (by omega)]) ⟨by rw [up_n (by omega), up_s], by rw [up_s, ha]⟩
                · simp only [sx_cc, Classical.not_not] at g
                  conv => whnf
                  refine ⟨Nat.le_of_ble_eq_true rfl, Nat.le_of_ble_eq_true rfl, (by first | assumption | rfl), ?_⟩
                  refine r_wrong ?_
                  conv => whnf
                  refine ⟨fun q9 => by first | (simp at q9; done) | omega, ?_⟩
                  exact hF _ _ (Or.inl ⟨by omega, by omega, rfl⟩) (fun a j z9 => by unfold FEq at z9; rw [up_n (by omega), up_n (by omega)]) ⟨by rw [up_n (by omega), up_s], by rw [up_s, ha]⟩
            · simp only [sx_cc, Classical.not_not] at g
              conv => whnf
              refine ⟨(by first | assumption | rfl), ?_⟩
              try simp (disch := omega) only [Int.cast_ofNat_Int, up_s, up_a, up_i, mp_a, mp_ge]
              try simp only [w50]
              try simp only [w51]
              try simp only [w48]
              try simp only [w22]
              try simp only [w49]
              try simp only [ern]
              conv => whnf
              refine ⟨fun g => ?_, fun g => ?_⟩
              · simp only [sx_cc, Classical.not_not] at g
                have g3 := g
                have t21 := (pKz_21 hkz).1.mp g3
                have kv9 := (pKz_21 hkz).2.2.2.2 g3
                conv => whnf
                refine ⟨fun g => ?_, fun g => ?_⟩
                · simp only [sx_cc, Classical.not_not] at g
                  conv => whnf
                  refine ⟨Nat.le_of_ble_eq_true rfl, Nat.le_of_ble_eq_true rfl, (by first | assumption | rfl), ?_⟩
                  refine r_cnt w51 z2 (fun hk9 => ?_) (fun hk9 => ?_)
                  · have hty : kT tx n9 i = 21 ∨ (10 ≤ kT tx n9 i ∧ kT tx n9 i ≤ 16) := by omega
                    conv => whnf
                    refine ⟨fun g => ?_, fun g => ?_⟩
                    · skip
                      conv => whnf
                      refine ⟨fun g => ?_, fun g => ?_⟩
                      · simp only [sx_cc, Classical.not_not] at g
                        conv => whnf
                        refine ⟨fun g => ?_, fun g => ?_⟩
                        · simp only [sx_cc, Classical.not_not] at g
                          conv => whnf
                          refine ⟨(by first | assumption | rfl), ?_⟩
                          try simp (disch := omega) only [Int.cast_ofNat_Int, up_s, up_a, up_i, mp_a, mp_ge]
                          try simp only [w50]
                          try simp only [w51]
                          try simp only [w48]
                          try simp only [w22]
                          try simp only [w49]
                          try simp only [ern]
                          conv => whnf
                          refine ⟨Nat.le_of_ble_eq_true rfl, Nat.le_of_ble_eq_true rfl, (by first | assumption | rfl), ?_⟩
                          refine r_grown (rQ_up hq (by unfold FRd; omega)) (w := s 32 14) (d := dpF (s (p + 11)) lo (s 32 14)) (by rw [up_n (by omega)]; exact w22) (by rw [up_n (by omega)]; exact w49) (by omega) (by omega) ?_
                          conv => whnf
                          refine ⟨(by first | assumption | rfl), by omega, ?_⟩
                          try simp (disch := omega) only [Int.cast_ofNat_Int, up_s, up_a, up_i, mp_a, mp_ge]
                          try simp only [w50]
                          try simp only [w51]
                          try simp only [w48]
                          try simp only [w22]
                          try simp only [w49]
                          try simp only [ern]
                          conv => whnf
                          refine ⟨Nat.le_of_ble_eq_true rfl, Nat.le_of_ble_eq_true rfl, (by first | assumption | rfl), ?_⟩
                          refine r_tok (tx := tx) (n9 := n9) (i := i) (by repeat (first | exact hq | refine rQ_up ?_ (by unfold FRd; omega))) (fun σ9 hf9 hq9 => ?_)
                          conv => whnf
                          refine ⟨fun q9 => by first | (simp at q9; done) | omega, ?_⟩
                          first
                          | (have ht : kT tx n9 i = 21 := by omega
                             have hkv := (pKz_21 hkz).2.2.2.2 ((pKz_21 hkz).1.mpr ht)
                             have ev9 : σ 124 9 = kV tx n9 i := by omega
                             refine hS (sx_up (sx_up (sx_up (sx_up (sx_up s p 14 (s p 14 + 1)) (p + 11) (s 32 14) (21)) (p + 12) (s 32 14) (kV tx n9 i)) 32 14 (s 32 14 + 1)) 32 13 0) _ (Or.inl ⟨ht, by omega, by omega, rfl⟩) (eC_leaf (s := s) (r := σ) (c := 21) (v := kV tx n9 i) (k := 0) (a := σ 124 9) hp hk hc0 (Or.inl rfl) (Or.inl ⟨rfl, rfl, ev9⟩) (by rw [up_n (by omega), up_n (by omega), up_n (by omega), up_n (by omega), up_n (by omega)]) (funext fun j => by rw [up_n (by omega), up_n (by omega), up_n (by omega), up_n (by omega), up_n (by omega)]) up_s (by rw [up_n (by omega), up_s]) (fun j => by
                                rw [up_n (by omega), up_n (by omega), up_n (by omega)]
                                by_cases e9 : j = s 32 14
                                · rw [if_pos e9, e9, up_s]
                                · rw [if_neg e9, up_n (by omega), up_n (by omega)]) (fun j => by
                                rw [up_n (by omega), up_n (by omega)]
                                by_cases e9 : j = s 32 14
                                · rw [if_pos e9, e9, up_s]
                                · rw [if_neg e9, up_n (by omega), up_n (by omega), up_n (by omega)]) (by rw [hf9 139 _ (by unfold FRt; omega)]; (repeat (first | rw [up_s] | rw [up_n (by omega)])); try omega) (by rw [hf9 140 _ (by unfold FRt; omega)]; (repeat (first | rw [up_s] | rw [up_n (by omega)])); try omega) (fun x j z => by rw [hf9 x j (by unfold FRt; omega)]; repeat (first | rw [up_n (by omega)])) (by rw [hf9 143 _ (by unfold FRt; omega)]; (repeat (first | rw [up_s] | rw [up_n (by omega)])); try omega) (fun d z => by rw [hf9 143 d (by unfold FRt; omega)]; repeat (first | rw [up_n (by omega)])) (by rw [hf9 _ _ (by unfold FRt; omega)]; (repeat (first | rw [up_s] | rw [up_n (by omega)])); try omega) (by rw [hf9 _ _ (by unfold FRt; omega)]; (repeat (first | rw [up_s] | rw [up_n (by omega)])); try omega) ?_ ?_ ?_) hq9 (fun a j z9 => by unfold FEs at z9; rw [hf9 a j (by unfold FRt; omega)]; repeat (first | rw [up_n (by omega)]))
                             · rw [hf9 _ _ (by unfold FRt; omega)]; (repeat (first | rw [up_n (by omega)])); exact w50
                             · rw [hf9 _ _ (by unfold FRt; omega)]; (repeat (first | rw [up_s] | rw [up_n (by omega)]))
                             · rw [hf9 _ _ (by unfold FRt; omega)]; (repeat (first | rw [up_s] | rw [up_n (by omega)])))
                          | (have ht : 10 ≤ kT tx n9 i ∧ kT tx n9 i ≤ 16 := by omega
                             refine hS (sx_up (sx_up (sx_up (sx_up (sx_up s p 14 (s p 14 + 1)) (p + 11) (s 32 14) (kT tx n9 i)) (p + 12) (s 32 14) (0)) 32 14 (s 32 14 + 1)) 32 13 0) _ (Or.inr (Or.inl ⟨ht.1, ht.2, by omega, rfl⟩)) (eC_leaf (s := s) (r := σ) (c := kT tx n9 i) (v := 0) (k := 1) (a := fPn (kT tx n9 i)) hp hk hc0 (Or.inr ht) (Or.inr ⟨by omega, rfl, rfl⟩) (by rw [up_n (by omega), up_n (by omega), up_n (by omega), up_n (by omega), up_n (by omega)]) (funext fun j => by rw [up_n (by omega), up_n (by omega), up_n (by omega), up_n (by omega), up_n (by omega)]) up_s (by rw [up_n (by omega), up_s]) (fun j => by
                                rw [up_n (by omega), up_n (by omega), up_n (by omega)]
                                by_cases e9 : j = s 32 14
                                · rw [if_pos e9, e9, up_s]
                                · rw [if_neg e9, up_n (by omega), up_n (by omega)]) (fun j => by
                                rw [up_n (by omega), up_n (by omega)]
                                by_cases e9 : j = s 32 14
                                · rw [if_pos e9, e9, up_s]
                                · rw [if_neg e9, up_n (by omega), up_n (by omega), up_n (by omega)]) (by rw [hf9 139 _ (by unfold FRt; omega)]; (repeat (first | rw [up_s] | rw [up_n (by omega)])); try omega) (by rw [hf9 140 _ (by unfold FRt; omega)]; (repeat (first | rw [up_s] | rw [up_n (by omega)])); try omega) (fun x j z => by rw [hf9 x j (by unfold FRt; omega)]; repeat (first | rw [up_n (by omega)])) (by rw [hf9 143 _ (by unfold FRt; omega)]; (repeat (first | rw [up_s] | rw [up_n (by omega)])); try omega) (fun d z => by rw [hf9 143 d (by unfold FRt; omega)]; repeat (first | rw [up_n (by omega)])) (by rw [hf9 _ _ (by unfold FRt; omega)]; (repeat (first | rw [up_s] | rw [up_n (by omega)])); try omega) (by rw [hf9 _ _ (by unfold FRt; omega)]; (repeat (first | rw [up_s] | rw [up_n (by omega)])); try omega) ?_ ?_ ?_) hq9 (fun a j z9 => by unfold FEs at z9; rw [hf9 a j (by unfold FRt; omega)]; repeat (first | rw [up_n (by omega)]))
                             · rw [hf9 _ _ (by unfold FRt; omega)]; (repeat (first | rw [up_n (by omega)])); exact w50
                             · rw [hf9 _ _ (by unfold FRt; omega)]; (repeat (first | rw [up_s] | rw [up_n (by omega)]))
                             · rw [hf9 _ _ (by unfold FRt; omega)]; (repeat (first | rw [up_s] | rw [up_n (by omega)])))
                        · simp only [sx_cc, Classical.not_not] at g
                          conv => whnf
                          refine ⟨Nat.le_of_ble_eq_true rfl, Nat.le_of_ble_eq_true rfl, (by first | assumption | rfl), ?_⟩
                          refine r_grown (rQ_up hq (by unfold FRd; omega)) (w := s 32 14) (d := dpF (s (p + 11)) lo (s 32 14)) (by rw [up_n (by omega)]; exact w22) (by rw [up_n (by omega)]; exact w49) (by omega) (by omega) ?_
                          conv => whnf
                          refine ⟨(by first | assumption | rfl), by omega, ?_⟩
                          try simp (disch := omega) only [Int.cast_ofNat_Int, up_s, up_a, up_i, mp_a, mp_ge]
                          try simp only [w50]
                          try simp only [w51]
                          try simp only [w48]
                          try simp only [w22]
                          try simp only [w49]
                          try simp only [ern]
                          conv => whnf
                          refine ⟨Nat.le_of_ble_eq_true rfl, Nat.le_of_ble_eq_true rfl, (by first | assumption | rfl), ?_⟩
                          refine r_tok (tx := tx) (n9 := n9) (i := i) (by repeat (first | exact hq | refine rQ_up ?_ (by unfold FRd; omega))) (fun σ9 hf9 hq9 => ?_)
                          conv => whnf
                          refine ⟨fun q9 => by first | (simp at q9; done) | omega, ?_⟩
                          first
                          | (have ht : kT tx n9 i = 21 := by omega
                             have hkv := (pKz_21 hkz).2.2.2.2 ((pKz_21 hkz).1.mpr ht)
                             have ev9 : σ 124 9 = kV tx n9 i := by omega
                             refine hS (sx_up (sx_up (sx_up (sx_up (sx_up s p 14 (s p 14 + 1)) (p + 11) (s 32 14) (21)) (p + 12) (s 32 14) (kV tx n9 i)) 32 14 (s 32 14 + 1)) 32 13 0) _ (Or.inl ⟨ht, by omega, by omega, rfl⟩) (eC_leaf (s := s) (r := σ) (c := 21) (v := kV tx n9 i) (k := 0) (a := σ 124 9) hp hk hc0 (Or.inl rfl) (Or.inl ⟨rfl, rfl, ev9⟩) (by rw [up_n (by omega), up_n (by omega), up_n (by omega), up_n (by omega), up_n (by omega)]) (funext fun j => by rw [up_n (by omega), up_n (by omega), up_n (by omega), up_n (by omega), up_n (by omega)]) up_s (by rw [up_n (by omega), up_s]) (fun j => by
                                rw [up_n (by omega), up_n (by omega), up_n (by omega)]
                                by_cases e9 : j = s 32 14
                                · rw [if_pos e9, e9, up_s]
                                · rw [if_neg e9, up_n (by omega), up_n (by omega)]) (fun j => by
                                rw [up_n (by omega), up_n (by omega)]
                                by_cases e9 : j = s 32 14
                                · rw [if_pos e9, e9, up_s]
                                · rw [if_neg e9, up_n (by omega), up_n (by omega), up_n (by omega)]) (by rw [hf9 139 _ (by unfold FRt; omega)]; (repeat (first | rw [up_s] | rw [up_n (by omega)])); try omega) (by rw [hf9 140 _ (by unfold FRt; omega)]; (repeat (first | rw [up_s] | rw [up_n (by omega)])); try omega) (fun x j z => by rw [hf9 x j (by unfold FRt; omega)]; repeat (first | rw [up_n (by omega)])) (by rw [hf9 143 _ (by unfold FRt; omega)]; (repeat (first | rw [up_s] | rw [up_n (by omega)])); try omega) (fun d z => by rw [hf9 143 d (by unfold FRt; omega)]; repeat (first | rw [up_n (by omega)])) (by rw [hf9 _ _ (by unfold FRt; omega)]; (repeat (first | rw [up_s] | rw [up_n (by omega)])); try omega) (by rw [hf9 _ _ (by unfold FRt; omega)]; (repeat (first | rw [up_s] | rw [up_n (by omega)])); try omega) ?_ ?_ ?_) hq9 (fun a j z9 => by unfold FEs at z9; rw [hf9 a j (by unfold FRt; omega)]; repeat (first | rw [up_n (by omega)]))
                             · rw [hf9 _ _ (by unfold FRt; omega)]; (repeat (first | rw [up_n (by omega)])); exact w50
                             · rw [hf9 _ _ (by unfold FRt; omega)]; (repeat (first | rw [up_s] | rw [up_n (by omega)]))
                             · rw [hf9 _ _ (by unfold FRt; omega)]; (repeat (first | rw [up_s] | rw [up_n (by omega)])))
                          | (have ht : 10 ≤ kT tx n9 i ∧ kT tx n9 i ≤ 16 := by omega
                             refine hS (sx_up (sx_up (sx_up (sx_up (sx_up s p 14 (s p 14 + 1)) (p + 11) (s 32 14) (kT tx n9 i)) (p + 12) (s 32 14) (0)) 32 14 (s 32 14 + 1)) 32 13 0) _ (Or.inr (Or.inl ⟨ht.1, ht.2, by omega, rfl⟩)) (eC_leaf (s := s) (r := σ) (c := kT tx n9 i) (v := 0) (k := 1) (a := fPn (kT tx n9 i)) hp hk hc0 (Or.inr ht) (Or.inr ⟨by omega, rfl, rfl⟩) (by rw [up_n (by omega), up_n (by omega), up_n (by omega), up_n (by omega), up_n (by omega)]) (funext fun j => by rw [up_n (by omega), up_n (by omega), up_n (by omega), up_n (by omega), up_n (by omega)]) up_s (by rw [up_n (by omega), up_s]) (fun j => by
                                rw [up_n (by omega), up_n (by omega), up_n (by omega)]
                                by_cases e9 : j = s 32 14
                                · rw [if_pos e9, e9, up_s]
                                · rw [if_neg e9, up_n (by omega), up_n (by omega)]) (fun j => by
                                rw [up_n (by omega), up_n (by omega)]
                                by_cases e9 : j = s 32 14
                                · rw [if_pos e9, e9, up_s]
                                · rw [if_neg e9, up_n (by omega), up_n (by omega), up_n (by omega)]) (by rw [hf9 139 _ (by unfold FRt; omega)]; (repeat (first | rw [up_s] | rw [up_n (by omega)])); try omega) (by rw [hf9 140 _ (by unfold FRt; omega)]; (repeat (first | rw [up_s] | rw [up_n (by omega)])); try omega) (fun x j z => by rw [hf9 x j (by unfold FRt; omega)]; repeat (first | rw [up_n (by omega)])) (by rw [hf9 143 _ (by unfold FRt; omega)]; (repeat (first | rw [up_s] | rw [up_n (by omega)])); try omega) (fun d z => by rw [hf9 143 d (by unfold FRt; omega)]; repeat (first | rw [up_n (by omega)])) (by rw [hf9 _ _ (by unfold FRt; omega)]; (repeat (first | rw [up_s] | rw [up_n (by omega)])); try omega) (by rw [hf9 _ _ (by unfold FRt; omega)]; (repeat (first | rw [up_s] | rw [up_n (by omega)])); try omega) ?_ ?_ ?_) hq9 (fun a j z9 => by unfold FEs at z9; rw [hf9 a j (by unfold FRt; omega)]; repeat (first | rw [up_n (by omega)]))
                             · rw [hf9 _ _ (by unfold FRt; omega)]; (repeat (first | rw [up_n (by omega)])); exact w50
                             · rw [hf9 _ _ (by unfold FRt; omega)]; (repeat (first | rw [up_s] | rw [up_n (by omega)]))
                             · rw [hf9 _ _ (by unfold FRt; omega)]; (repeat (first | rw [up_s] | rw [up_n (by omega)])))
                      · simp only [sx_cc, Classical.not_not] at g
                        conv => whnf
                        refine ⟨fun g => ?_, fun g => ?_⟩
                        · simp only [sx_cc, Classical.not_not] at g
                          conv => whnf
                          refine ⟨(by first | assumption | rfl), ?_⟩
                          try simp (disch := omega) only [Int.cast_ofNat_Int, up_s, up_a, up_i, mp_a, mp_ge]
                          try simp only [w50]
                          try simp only [w51]
                          try simp only [w48]
                          try simp only [w22]
                          try simp only [w49]
                          try simp only [ern]
                          conv => whnf
                          refine ⟨Nat.le_of_ble_eq_true rfl, Nat.le_of_ble_eq_true rfl, (by first | assumption | rfl), ?_⟩
                          refine r_grown (rQ_up hq (by unfold FRd; omega)) (w := s 32 14) (d := dpF (s (p + 11)) lo (s 32 14)) (by rw [up_n (by omega)]; exact w22) (by rw [up_n (by omega)]; exact w49) (by omega) (by omega) ?_
                          conv => whnf
                          refine ⟨(by first | assumption | rfl), by omega, ?_⟩
                          try simp (disch := omega) only [Int.cast_ofNat_Int, up_s, up_a, up_i, mp_a, mp_ge]
                          try simp only [w50]
                          try simp only [w51]
                          try simp only [w48]
                          try simp only [w22]
                          try simp only [w49]
                          try simp only [ern]
                          conv => whnf
                          refine ⟨Nat.le_of_ble_eq_true rfl, Nat.le_of_ble_eq_true rfl, (by first | assumption | rfl), ?_⟩
                          refine r_tok (tx := tx) (n9 := n9) (i := i) (by repeat (first | exact hq | refine rQ_up ?_ (by unfold FRd; omega))) (fun σ9 hf9 hq9 => ?_)
                          conv => whnf
                          refine ⟨fun q9 => by first | (simp at q9; done) | omega, ?_⟩
                          first
                          | (have ht : kT tx n9 i = 21 := by omega
                             have hkv := (pKz_21 hkz).2.2.2.2 ((pKz_21 hkz).1.mpr ht)
                             have ev9 : σ 124 9 = kV tx n9 i := by omega
                             refine hS (sx_up (sx_up (sx_up (sx_up (sx_up s p 14 (s p 14 + 1)) (p + 11) (s 32 14) (21)) (p + 12) (s 32 14) (kV tx n9 i)) 32 14 (s 32 14 + 1)) 32 13 0) _ (Or.inl ⟨ht, by omega, by omega, rfl⟩) (eC_leaf (s := s) (r := σ) (c := 21) (v := kV tx n9 i) (k := 0) (a := σ 124 9) hp hk hc0 (Or.inl rfl) (Or.inl ⟨rfl, rfl, ev9⟩) (by rw [up_n (by omega), up_n (by omega), up_n (by omega), up_n (by omega), up_n (by omega)]) (funext fun j => by rw [up_n (by omega), up_n (by omega), up_n (by omega), up_n (by omega), up_n (by omega)]) up_s (by rw [up_n (by omega), up_s]) (fun j => by
                                rw [up_n (by omega), up_n (by omega), up_n (by omega)]
                                by_cases e9 : j = s 32 14
                                · rw [if_pos e9, e9, up_s]
                                · rw [if_neg e9, up_n (by omega), up_n (by omega)]) (fun j => by
                                rw [up_n (by omega), up_n (by omega)]
                                by_cases e9 : j = s 32 14
                                · rw [if_pos e9, e9, up_s]
                                · rw [if_neg e9, up_n (by omega), up_n (by omega), up_n (by omega)]) (by rw [hf9 139 _ (by unfold FRt; omega)]; (repeat (first | rw [up_s] | rw [up_n (by omega)])); try omega) (by rw [hf9 140 _ (by unfold FRt; omega)]; (repeat (first | rw [up_s] | rw [up_n (by omega)])); try omega) (fun x j z => by rw [hf9 x j (by unfold FRt; omega)]; repeat (first | rw [up_n (by omega)])) (by rw [hf9 143 _ (by unfold FRt; omega)]; (repeat (first | rw [up_s] | rw [up_n (by omega)])); try omega) (fun d z => by rw [hf9 143 d (by unfold FRt; omega)]; repeat (first | rw [up_n (by omega)])) (by rw [hf9 _ _ (by unfold FRt; omega)]; (repeat (first | rw [up_s] | rw [up_n (by omega)])); try omega) (by rw [hf9 _ _ (by unfold FRt; omega)]; (repeat (first | rw [up_s] | rw [up_n (by omega)])); try omega) ?_ ?_ ?_) hq9 (fun a j z9 => by unfold FEs at z9; rw [hf9 a j (by unfold FRt; omega)]; repeat (first | rw [up_n (by omega)]))
                             · rw [hf9 _ _ (by unfold FRt; omega)]; (repeat (first | rw [up_n (by omega)])); exact w50
                             · rw [hf9 _ _ (by unfold FRt; omega)]; (repeat (first | rw [up_s] | rw [up_n (by omega)]))
                             · rw [hf9 _ _ (by unfold FRt; omega)]; (repeat (first | rw [up_s] | rw [up_n (by omega)])))
                          | (have ht : 10 ≤ kT tx n9 i ∧ kT tx n9 i ≤ 16 := by omega
                             refine hS (sx_up (sx_up (sx_up (sx_up (sx_up s p 14 (s p 14 + 1)) (p + 11) (s 32 14) (kT tx n9 i)) (p + 12) (s 32 14) (0)) 32 14 (s 32 14 + 1)) 32 13 0) _ (Or.inr (Or.inl ⟨ht.1, ht.2, by omega, rfl⟩)) (eC_leaf (s := s) (r := σ) (c := kT tx n9 i) (v := 0) (k := 1) (a := fPn (kT tx n9 i)) hp hk hc0 (Or.inr ht) (Or.inr ⟨by omega, rfl, rfl⟩) (by rw [up_n (by omega), up_n (by omega), up_n (by omega), up_n (by omega), up_n (by omega)]) (funext fun j => by rw [up_n (by omega), up_n (by omega), up_n (by omega), up_n (by omega), up_n (by omega)]) up_s (by rw [up_n (by omega), up_s]) (fun j => by
                                rw [up_n (by omega), up_n (by omega), up_n (by omega)]
                                by_cases e9 : j = s 32 14
                                · rw [if_pos e9, e9, up_s]
                                · rw [if_neg e9, up_n (by omega), up_n (by omega)]) (fun j => by
                                rw [up_n (by omega), up_n (by omega)]
                                by_cases e9 : j = s 32 14
                                · rw [if_pos e9, e9, up_s]
                                · rw [if_neg e9, up_n (by omega), up_n (by omega), up_n (by omega)]) (by rw [hf9 139 _ (by unfold FRt; omega)]; (repeat (first | rw [up_s] | rw [up_n (by omega)])); try omega) (by rw [hf9 140 _ (by unfold FRt; omega)]; (repeat (first | rw [up_s] | rw [up_n (by omega)])); try omega) (fun x j z => by rw [hf9 x j (by unfold FRt; omega)]; repeat (first | rw [up_n (by omega)])) (by rw [hf9 143 _ (by unfold FRt; omega)]; (repeat (first | rw [up_s] | rw [up_n (by omega)])); try omega) (fun d z => by rw [hf9 143 d (by unfold FRt; omega)]; repeat (first | rw [up_n (by omega)])) (by rw [hf9 _ _ (by unfold FRt; omega)]; (repeat (first | rw [up_s] | rw [up_n (by omega)])); try omega) (by rw [hf9 _ _ (by unfold FRt; omega)]; (repeat (first | rw [up_s] | rw [up_n (by omega)])); try omega) ?_ ?_ ?_) hq9 (fun a j z9 => by unfold FEs at z9; rw [hf9 a j (by unfold FRt; omega)]; repeat (first | rw [up_n (by omega)]))
                             · rw [hf9 _ _ (by unfold FRt; omega)]; (repeat (first | rw [up_n (by omega)])); exact w50
                             · rw [hf9 _ _ (by unfold FRt; omega)]; (repeat (first | rw [up_s] | rw [up_n (by omega)]))
                             · rw [hf9 _ _ (by unfold FRt; omega)]; (repeat (first | rw [up_s] | rw [up_n (by omega)])))
                        · simp only [sx_cc, Classical.not_not] at g
                          conv => whnf
                          refine ⟨Nat.le_of_ble_eq_true rfl, Nat.le_of_ble_eq_true rfl, (by first | assumption | rfl), ?_⟩
                          refine r_grown (rQ_up hq (by unfold FRd; omega)) (w := s 32 14) (d := dpF (s (p + 11)) lo (s 32 14)) (by rw [up_n (by omega)]; exact w22) (by rw [up_n (by omega)]; exact w49) (by omega) (by omega) ?_
                          conv => whnf
                          refine ⟨(by first | assumption | rfl), by omega, ?_⟩
                          try simp (disch := omega) only [Int.cast_ofNat_Int, up_s, up_a, up_i, mp_a, mp_ge]
                          try simp only [w50]
                          try simp only [w51]
                          try simp only [w48]
                          try simp only [w22]
                          try simp only [w49]
                          try simp only [ern]
                          conv => whnf
                          refine ⟨Nat.le_of_ble_eq_true rfl, Nat.le_of_ble_eq_true rfl, (by first | assumption | rfl), ?_⟩
                          refine r_tok (tx := tx) (n9 := n9) (i := i) (by repeat (first | exact hq | refine rQ_up ?_ (by unfold FRd; omega))) (fun σ9 hf9 hq9 => ?_)
                          conv => whnf
                          refine ⟨fun q9 => by first | (simp at q9; done) | omega, ?_⟩
                          first
                          | (have ht : kT tx n9 i = 21 := by omega
                             have hkv := (pKz_21 hkz).2.2.2.2 ((pKz_21 hkz).1.mpr ht)
                             have ev9 : σ 124 9 = kV tx n9 i := by omega
                             refine hS (sx_up (sx_up (sx_up (sx_up (sx_up s p 14 (s p 14 + 1)) (p + 11) (s 32 14) (21)) (p + 12) (s 32 14) (kV tx n9 i)) 32 14 (s 32 14 + 1)) 32 13 0) _ (Or.inl ⟨ht, by omega, by omega, rfl⟩) (eC_leaf (s := s) (r := σ) (c := 21) (v := kV tx n9 i) (k := 0) (a := σ 124 9) hp hk hc0 (Or.inl rfl) (Or.inl ⟨rfl, rfl, ev9⟩) (by rw [up_n (by omega), up_n (by omega), up_n (by omega), up_n (by omega), up_n (by omega)]) (funext fun j => by rw [up_n (by omega), up_n (by omega), up_n (by omega), up_n (by omega), up_n (by omega)]) up_s (by rw [up_n (by omega), up_s]) (fun j => by
                                rw [up_n (by omega), up_n (by omega), up_n (by omega)]
                                by_cases e9 : j = s 32 14
                                · rw [if_pos e9, e9, up_s]
                                · rw [if_neg e9, up_n (by omega), up_n (by omega)]) (fun j => by
                                rw [up_n (by omega), up_n (by omega)]
                                by_cases e9 : j = s 32 14
                                · rw [if_pos e9, e9, up_s]
                                · rw [if_neg e9, up_n (by omega), up_n (by omega), up_n (by omega)]) (by rw [hf9 139 _ (by unfold FRt; omega)]; (repeat (first | rw [up_s] | rw [up_n (by omega)])); try omega) (by rw [hf9 140 _ (by unfold FRt; omega)]; (repeat (first | rw [up_s] | rw [up_n (by omega)])); try omega) (fun x j z => by rw [hf9 x j (by unfold FRt; omega)]; repeat (first | rw [up_n (by omega)])) (by rw [hf9 143 _ (by unfold FRt; omega)]; (repeat (first | rw [up_s] | rw [up_n (by omega)])); try omega) (fun d z => by rw [hf9 143 d (by unfold FRt; omega)]; repeat (first | rw [up_n (by omega)])) (by rw [hf9 _ _ (by unfold FRt; omega)]; (repeat (first | rw [up_s] | rw [up_n (by omega)])); try omega) (by rw [hf9 _ _ (by unfold FRt; omega)]; (repeat (first | rw [up_s] | rw [up_n (by omega)])); try omega) ?_ ?_ ?_) hq9 (fun a j z9 => by unfold FEs at z9; rw [hf9 a j (by unfold FRt; omega)]; repeat (first | rw [up_n (by omega)]))
                             · rw [hf9 _ _ (by unfold FRt; omega)]; (repeat (first | rw [up_n (by omega)])); exact w50
                             · rw [hf9 _ _ (by unfold FRt; omega)]; (repeat (first | rw [up_s] | rw [up_n (by omega)]))
                             · rw [hf9 _ _ (by unfold FRt; omega)]; (repeat (first | rw [up_s] | rw [up_n (by omega)])))
                          | (have ht : 10 ≤ kT tx n9 i ∧ kT tx n9 i ≤ 16 := by omega
                             refine hS (sx_up (sx_up (sx_up (sx_up (sx_up s p 14 (s p 14 + 1)) (p + 11) (s 32 14) (kT tx n9 i)) (p + 12) (s 32 14) (0)) 32 14 (s 32 14 + 1)) 32 13 0) _ (Or.inr (Or.inl ⟨ht.1, ht.2, by omega, rfl⟩)) (eC_leaf (s := s) (r := σ) (c := kT tx n9 i) (v := 0) (k := 1) (a := fPn (kT tx n9 i)) hp hk hc0 (Or.inr ht) (Or.inr ⟨by omega, rfl, rfl⟩) (by rw [up_n (by omega), up_n (by omega), up_n (by omega), up_n (by omega), up_n (by omega)]) (funext fun j => by rw [up_n (by omega), up_n (by omega), up_n (by omega), up_n (by omega), up_n (by omega)]) up_s (by rw [up_n (by omega), up_s]) (fun j => by
                                rw [up_n (by omega), up_n (by omega), up_n (by omega)]
                                by_cases e9 : j = s 32 14
                                · rw [if_pos e9, e9, up_s]
                                · rw [if_neg e9, up_n (by omega), up_n (by omega)]) (fun j => by
                                rw [up_n (by omega), up_n (by omega)]
                                by_cases e9 : j = s 32 14
                                · rw [if_pos e9, e9, up_s]
                                · rw [if_neg e9, up_n (by omega), up_n (by omega), up_n (by omega)]) (by rw [hf9 139 _ (by unfold FRt; omega)]; (repeat (first | rw [up_s] | rw [up_n (by omega)])); try omega) (by rw [hf9 140 _ (by unfold FRt; omega)]; (repeat (first | rw [up_s] | rw [up_n (by omega)])); try omega) (fun x j z => by rw [hf9 x j (by unfold FRt; omega)]; repeat (first | rw [up_n (by omega)])) (by rw [hf9 143 _ (by unfold FRt; omega)]; (repeat (first | rw [up_s] | rw [up_n (by omega)])); try omega) (fun d z => by rw [hf9 143 d (by unfold FRt; omega)]; repeat (first | rw [up_n (by omega)])) (by rw [hf9 _ _ (by unfold FRt; omega)]; (repeat (first | rw [up_s] | rw [up_n (by omega)])); try omega) (by rw [hf9 _ _ (by unfold FRt; omega)]; (repeat (first | rw [up_s] | rw [up_n (by omega)])); try omega) ?_ ?_ ?_) hq9 (fun a j z9 => by unfold FEs at z9; rw [hf9 a j (by unfold FRt; omega)]; repeat (first | rw [up_n (by omega)]))
                             · rw [hf9 _ _ (by unfold FRt; omega)]; (repeat (first | rw [up_n (by omega)])); exact w50
                             · rw [hf9 _ _ (by unfold FRt; omega)]; (repeat (first | rw [up_s] | rw [up_n (by omega)]))
                             · rw [hf9 _ _ (by unfold FRt; omega)]; (repeat (first | rw [up_s] | rw [up_n (by omega)])))
                    · exact absurd g (by simp [sx_cc])
                  · have hty : kT tx n9 i = 21 ∨ (10 ≤ kT tx n9 i ∧ kT tx n9 i ≤ 16) := by omega
                    conv => whnf
                    refine ⟨fun g => ?_, fun g => ?_⟩
                    · exact absurd g (by simp [sx_cc])
                    · skip
                      conv => whnf
                      refine ⟨fun q9 => by first | (simp at q9; done) | omega, ?_⟩
                      rcases hty with ht | ht
                      · exact hF _ _ (Or.inl ⟨ht, by omega, rfl⟩) (fun a j z9 => by unfold FEq at z9; rw [up_n (by omega), up_n (by omega)]) ⟨by rw [up_n (by omega), up_s], by rw [up_s, ha]⟩
                      · exact hF _ _ (Or.inr (Or.inl ⟨ht.1, ht.2, by omega, rfl⟩)) (fun a j z9 => by unfold FEq at z9; rw [up_n (by omega), up_n (by omega)]) ⟨by rw [up_n (by omega), up_s], by rw [up_s, ha]⟩
                · simp only [sx_cc, Classical.not_not] at g
                  conv => whnf
                  refine ⟨(by first | assumption | rfl), ?_⟩
                  try simp (disch := omega) only [Int.cast_ofNat_Int, up_s, up_a, up_i, mp_a, mp_ge]
                  try simp only [w50]
                  try simp only [w51]
                  try simp only [w48]
                  try simp only [w22]
                  try simp only [w49]
                  try simp only [ern]
                  conv => whnf
                  refine ⟨fun g => ?_, fun g => ?_⟩
                  · simp only [sx_cc, Classical.not_not] at g
                    conv => whnf
                    refine ⟨Nat.le_of_ble_eq_true rfl, Nat.le_of_ble_eq_true rfl, (by first | assumption | rfl), ?_⟩
                    refine r_cnt w51 z2 (fun hk9 => ?_) (fun hk9 => ?_)
                    · have hty : kT tx n9 i = 21 ∨ (10 ≤ kT tx n9 i ∧ kT tx n9 i ≤ 16) := by omega
                      conv => whnf
                      refine ⟨fun g => ?_, fun g => ?_⟩
                      · skip
                        conv => whnf
                        refine ⟨fun g => ?_, fun g => ?_⟩
                        · simp only [sx_cc, Classical.not_not] at g
                          conv => whnf
                          refine ⟨fun g => ?_, fun g => ?_⟩
                          · simp only [sx_cc, Classical.not_not] at g
                            conv => whnf
                            refine ⟨(by first | assumption | rfl), ?_⟩
                            try simp (disch := omega) only [Int.cast_ofNat_Int, up_s, up_a, up_i, mp_a, mp_ge]
                            try simp only [w50]
                            try simp only [w51]
                            try simp only [w48]
                            try simp only [w22]
                            try simp only [w49]
                            try simp only [ern]
                            conv => whnf
                            refine ⟨Nat.le_of_ble_eq_true rfl, Nat.le_of_ble_eq_true rfl, (by first | assumption | rfl), ?_⟩
                            refine r_grown (rQ_up hq (by unfold FRd; omega)) (w := s 32 14) (d := dpF (s (p + 11)) lo (s 32 14)) (by rw [up_n (by omega)]; exact w22) (by rw [up_n (by omega)]; exact w49) (by omega) (by omega) ?_
                            conv => whnf
                            refine ⟨(by first | assumption | rfl), by omega, ?_⟩
                            try simp (disch := omega) only [Int.cast_ofNat_Int, up_s, up_a, up_i, mp_a, mp_ge]
                            try simp only [w50]
                            try simp only [w51]
                            try simp only [w48]
                            try simp only [w22]
                            try simp only [w49]
                            try simp only [ern]
                            conv => whnf
                            refine ⟨Nat.le_of_ble_eq_true rfl, Nat.le_of_ble_eq_true rfl, (by first | assumption | rfl), ?_⟩
                            refine r_tok (tx := tx) (n9 := n9) (i := i) (by repeat (first | exact hq | refine rQ_up ?_ (by unfold FRd; omega))) (fun σ9 hf9 hq9 => ?_)
                            conv => whnf
                            refine ⟨fun q9 => by first | (simp at q9; done) | omega, ?_⟩
                            first
                            | (have ht : kT tx n9 i = 21 := by omega
                               have hkv := (pKz_21 hkz).2.2.2.2 ((pKz_21 hkz).1.mpr ht)
                               have ev9 : σ 124 9 = kV tx n9 i := by omega
                               refine hS (sx_up (sx_up (sx_up (sx_up (sx_up s p 14 (s p 14 + 1)) (p + 11) (s 32 14) (21)) (p + 12) (s 32 14) (kV tx n9 i)) 32 14 (s 32 14 + 1)) 32 13 0) _ (Or.inl ⟨ht, by omega, by omega, rfl⟩) (eC_leaf (s := s) (r := σ) (c := 21) (v := kV tx n9 i) (k := 0) (a := σ 124 9) hp hk hc0 (Or.inl rfl) (Or.inl ⟨rfl, rfl, ev9⟩) (by rw [up_n (by omega), up_n (by omega), up_n (by omega), up_n (by omega), up_n (by omega)]) (funext fun j => by rw [up_n (by omega), up_n (by omega), up_n (by omega), up_n (by omega), up_n (by omega)]) up_s (by rw [up_n (by omega), up_s]) (fun j => by
                                  rw [up_n (by omega), up_n (by omega), up_n (by omega)]
                                  by_cases e9 : j = s 32 14
                                  · rw [if_pos e9, e9, up_s]
                                  · rw [if_neg e9, up_n (by omega), up_n (by omega)]) (fun j => by
                                  rw [up_n (by omega), up_n (by omega)]
                                  by_cases e9 : j = s 32 14
                                  · rw [if_pos e9, e9, up_s]
                                  · rw [if_neg e9, up_n (by omega), up_n (by omega), up_n (by omega)]) (by rw [hf9 139 _ (by unfold FRt; omega)]; (repeat (first | rw [up_s] | rw [up_n (by omega)])); try omega) (by rw [hf9 140 _ (by unfold FRt; omega)]; (repeat (first | rw [up_s] | rw [up_n (by omega)])); try omega) (fun x j z => by rw [hf9 x j (by unfold FRt; omega)]; repeat (first | rw [up_n (by omega)])) (by rw [hf9 143 _ (by unfold FRt; omega)]; (repeat (first | rw [up_s] | rw [up_n (by omega)])); try omega) (fun d z => by rw [hf9 143 d (by unfold FRt; omega)]; repeat (first | rw [up_n (by omega)])) (by rw [hf9 _ _ (by unfold FRt; omega)]; (repeat (first | rw [up_s] | rw [up_n (by omega)])); try omega) (by rw [hf9 _ _ (by unfold FRt; omega)]; (repeat (first | rw [up_s] | rw [up_n (by omega)])); try omega) ?_ ?_ ?_) hq9 (fun a j z9 => by unfold FEs at z9; rw [hf9 a j (by unfold FRt; omega)]; repeat (first | rw [up_n (by omega)]))
                               · rw [hf9 _ _ (by unfold FRt; omega)]; (repeat (first | rw [up_n (by omega)])); exact w50
                               · rw [hf9 _ _ (by unfold FRt; omega)]; (repeat (first | rw [up_s] | rw [up_n (by omega)]))
                               · rw [hf9 _ _ (by unfold FRt; omega)]; (repeat (first | rw [up_s] | rw [up_n (by omega)])))
                            | (have ht : 10 ≤ kT tx n9 i ∧ kT tx n9 i ≤ 16 := by omega
                               refine hS (sx_up (sx_up (sx_up (sx_up (sx_up s p 14 (s p 14 + 1)) (p + 11) (s 32 14) (kT tx n9 i)) (p + 12) (s 32 14) (0)) 32 14 (s 32 14 + 1)) 32 13 0) _ (Or.inr (Or.inl ⟨ht.1, ht.2, by omega, rfl⟩)) (eC_leaf (s := s) (r := σ) (c := kT tx n9 i) (v := 0) (k := 1) (a := fPn (kT tx n9 i)) hp hk hc0 (Or.inr ht) (Or.inr ⟨by omega, rfl, rfl⟩) (by rw [up_n (by omega), up_n (by omega), up_n (by omega), up_n (by omega), up_n (by omega)]) (funext fun j => by rw [up_n (by omega), up_n (by omega), up_n (by omega), up_n (by omega), up_n (by omega)]) up_s (by rw [up_n (by omega), up_s]) (fun j => by
                                  rw [up_n (by omega), up_n (by omega), up_n (by omega)]
                                  by_cases e9 : j = s 32 14
                                  · rw [if_pos e9, e9, up_s]
                                  · rw [if_neg e9, up_n (by omega), up_n (by omega)]) (fun j => by
                                  rw [up_n (by omega), up_n (by omega)]
                                  by_cases e9 : j = s 32 14
                                  · rw [if_pos e9, e9, up_s]
                                  · rw [if_neg e9, up_n (by omega), up_n (by omega), up_n (by omega)]) (by rw [hf9 139 _ (by unfold FRt; omega)]; (repeat (first | rw [up_s] | rw [up_n (by omega)])); try omega) (by rw [hf9 140 _ (by unfold FRt; omega)]; (repeat (first | rw [up_s] | rw [up_n (by omega)])); try omega) (fun x j z => by rw [hf9 x j (by unfold FRt; omega)]; repeat (first | rw [up_n (by omega)])) (by rw [hf9 143 _ (by unfold FRt; omega)]; (repeat (first | rw [up_s] | rw [up_n (by omega)])); try omega) (fun d z => by rw [hf9 143 d (by unfold FRt; omega)]; repeat (first | rw [up_n (by omega)])) (by rw [hf9 _ _ (by unfold FRt; omega)]; (repeat (first | rw [up_s] | rw [up_n (by omega)])); try omega) (by rw [hf9 _ _ (by unfold FRt; omega)]; (repeat (first | rw [up_s] | rw [up_n (by omega)])); try omega) ?_ ?_ ?_) hq9 (fun a j z9 => by unfold FEs at z9; rw [hf9 a j (by unfold FRt; omega)]; repeat (first | rw [up_n (by omega)]))
                               · rw [hf9 _ _ (by unfold FRt; omega)]; (repeat (first | rw [up_n (by omega)])); exact w50
                               · rw [hf9 _ _ (by unfold FRt; omega)]; (repeat (first | rw [up_s] | rw [up_n (by omega)]))
                               · rw [hf9 _ _ (by unfold FRt; omega)]; (repeat (first | rw [up_s] | rw [up_n (by omega)])))
                          · simp only [sx_cc, Classical.not_not] at g
                            conv => whnf
                            refine ⟨Nat.le_of_ble_eq_true rfl, Nat.le_of_ble_eq_true rfl, (by first | assumption | rfl), ?_⟩
                            refine r_grown (rQ_up hq (by unfold FRd; omega)) (w := s 32 14) (d := dpF (s (p + 11)) lo (s 32 14)) (by rw [up_n (by omega)]; exact w22) (by rw [up_n (by omega)]; exact w49) (by omega) (by omega) ?_
                            conv => whnf
                            refine ⟨(by first | assumption | rfl), by omega, ?_⟩
                            try simp (disch := omega) only [Int.cast_ofNat_Int, up_s, up_a, up_i, mp_a, mp_ge]
                            try simp only [w50]
                            try simp only [w51]
                            try simp only [w48]
                            try simp only [w22]
                            try simp only [w49]
                            try simp only [ern]
                            conv => whnf
                            refine ⟨Nat.le_of_ble_eq_true rfl, Nat.le_of_ble_eq_true rfl, (by first | assumption | rfl), ?_⟩
                            refine r_tok (tx := tx) (n9 := n9) (i := i) (by repeat (first | exact hq | refine rQ_up ?_ (by unfold FRd; omega))) (fun σ9 hf9 hq9 => ?_)
                            conv => whnf
                            refine ⟨fun q9 => by first | (simp at q9; done) | omega, ?_⟩
                            first
                            | (have ht : kT tx n9 i = 21 := by omega
                               have hkv := (pKz_21 hkz).2.2.2.2 ((pKz_21 hkz).1.mpr ht)
                               have ev9 : σ 124 9 = kV tx n9 i := by omega
                               refine hS (sx_up (sx_up (sx_up (sx_up (sx_up s p 14 (s p 14 + 1)) (p + 11) (s 32 14) (21)) (p + 12) (s 32 14) (kV tx n9 i)) 32 14 (s 32 14 + 1)) 32 13 0) _ (Or.inl ⟨ht, by omega, by omega, rfl⟩) (eC_leaf (s := s) (r := σ) (c := 21) (v := kV tx n9 i) (k := 0) (a := σ 124 9) hp hk hc0 (Or.inl rfl) (Or.inl ⟨rfl, rfl, ev9⟩) (by rw [up_n (by omega), up_n (by omega), up_n (by omega), up_n (by omega), up_n (by omega)]) (funext fun j => by rw [up_n (by omega), up_n (by omega), up_n (by omega), up_n (by omega), up_n (by omega)]) up_s (by rw [up_n (by omega), up_s]) (fun j => by
                                  rw [up_n (by omega), up_n (by omega), up_n (by omega)]
                                  by_cases e9 : j = s 32 14
                                  · rw [if_pos e9, e9, up_s]
                                  · rw [if_neg e9, up_n (by omega), up_n (by omega)]) (fun j => by
                                  rw [up_n (by omega), up_n (by omega)]
                                  by_cases e9 : j = s 32 14
                                  · rw [if_pos e9, e9, up_s]
                                  · rw [if_neg e9, up_n (by omega), up_n (by omega), up_n (by omega)]) (by rw [hf9 139 _ (by unfold FRt; omega)]; (repeat (first | rw [up_s] | rw [up_n (by omega)])); try omega) (by rw [hf9 140 _ (by unfold FRt; omega)]; (repeat (first | rw [up_s] | rw [up_n (by omega)])); try omega) (fun x j z => by rw [hf9 x j (by unfold FRt; omega)]; repeat (first | rw [up_n (by omega)])) (by rw [hf9 143 _ (by unfold FRt; omega)]; (repeat (first | rw [up_s] | rw [up_n (by omega)])); try omega) (fun d z => by rw [hf9 143 d (by unfold FRt; omega)]; repeat (first | rw [up_n (by omega)])) (by rw [hf9 _ _ (by unfold FRt; omega)]; (repeat (first | rw [up_s] | rw [up_n (by omega)])); try omega) (by rw [hf9 _ _ (by unfold FRt; omega)]; (repeat (first | rw [up_s] | rw [up_n (by omega)])); try omega) ?_ ?_ ?_) hq9 (fun a j z9 => by unfold FEs at z9; rw [hf9 a j (by unfold FRt; omega)]; repeat (first | rw [up_n (by omega)]))
                               · rw [hf9 _ _ (by unfold FRt; omega)]; (repeat (first | rw [up_n (by omega)])); exact w50
                               · rw [hf9 _ _ (by unfold FRt; omega)]; (repeat (first | rw [up_s] | rw [up_n (by omega)]))
                               · rw [hf9 _ _ (by unfold FRt; omega)]; (repeat (first | rw [up_s] | rw [up_n (by omega)])))
                            | (have ht : 10 ≤ kT tx n9 i ∧ kT tx n9 i ≤ 16 := by omega
                               refine hS (sx_up (sx_up (sx_up (sx_up (sx_up s p 14 (s p 14 + 1)) (p + 11) (s 32 14) (kT tx n9 i)) (p + 12) (s 32 14) (0)) 32 14 (s 32 14 + 1)) 32 13 0) _ (Or.inr (Or.inl ⟨ht.1, ht.2, by omega, rfl⟩)) (eC_leaf (s := s) (r := σ) (c := kT tx n9 i) (v := 0) (k := 1) (a := fPn (kT tx n9 i)) hp hk hc0 (Or.inr ht) (Or.inr ⟨by omega, rfl, rfl⟩) (by rw [up_n (by omega), up_n (by omega), up_n (by omega), up_n (by omega), up_n (by omega)]) (funext fun j => by rw [up_n (by omega), up_n (by omega), up_n (by omega), up_n (by omega), up_n (by omega)]) up_s (by rw [up_n (by omega), up_s]) (fun j => by
                                  rw [up_n (by omega), up_n (by omega), up_n (by omega)]
                                  by_cases e9 : j = s 32 14
                                  · rw [if_pos e9, e9, up_s]
                                  · rw [if_neg e9, up_n (by omega), up_n (by omega)]) (fun j => by
                                  rw [up_n (by omega), up_n (by omega)]
                                  by_cases e9 : j = s 32 14
                                  · rw [if_pos e9, e9, up_s]
                                  · rw [if_neg e9, up_n (by omega), up_n (by omega), up_n (by omega)]) (by rw [hf9 139 _ (by unfold FRt; omega)]; (repeat (first | rw [up_s] | rw [up_n (by omega)])); try omega) (by rw [hf9 140 _ (by unfold FRt; omega)]; (repeat (first | rw [up_s] | rw [up_n (by omega)])); try omega) (fun x j z => by rw [hf9 x j (by unfold FRt; omega)]; repeat (first | rw [up_n (by omega)])) (by rw [hf9 143 _ (by unfold FRt; omega)]; (repeat (first | rw [up_s] | rw [up_n (by omega)])); try omega) (fun d z => by rw [hf9 143 d (by unfold FRt; omega)]; repeat (first | rw [up_n (by omega)])) (by rw [hf9 _ _ (by unfold FRt; omega)]; (repeat (first | rw [up_s] | rw [up_n (by omega)])); try omega) (by rw [hf9 _ _ (by unfold FRt; omega)]; (repeat (first | rw [up_s] | rw [up_n (by omega)])); try omega) ?_ ?_ ?_) hq9 (fun a j z9 => by unfold FEs at z9; rw [hf9 a j (by unfold FRt; omega)]; repeat (first | rw [up_n (by omega)]))
                               · rw [hf9 _ _ (by unfold FRt; omega)]; (repeat (first | rw [up_n (by omega)])); exact w50
                               · rw [hf9 _ _ (by unfold FRt; omega)]; (repeat (first | rw [up_s] | rw [up_n (by omega)]))
                               · rw [hf9 _ _ (by unfold FRt; omega)]; (repeat (first | rw [up_s] | rw [up_n (by omega)])))
                        · simp only [sx_cc, Classical.not_not] at g
                          conv => whnf
                          refine ⟨fun g => ?_, fun g => ?_⟩
                          · simp only [sx_cc, Classical.not_not] at g
                            conv => whnf
                            refine ⟨(by first | assumption | rfl), ?_⟩
                            try simp (disch := omega) only [Int.cast_ofNat_Int, up_s, up_a, up_i, mp_a, mp_ge]
                            try simp only [w50]
                            try simp only [w51]
                            try simp only [w48]
                            try simp only [w22]
                            try simp only [w49]
                            try simp only [ern]
                            conv => whnf
                            refine ⟨Nat.le_of_ble_eq_true rfl, Nat.le_of_ble_eq_true rfl, (by first | assumption | rfl), ?_⟩
                            refine r_grown (rQ_up hq (by unfold FRd; omega)) (w := s 32 14) (d := dpF (s (p + 11)) lo (s 32 14)) (by rw [up_n (by omega)]; exact w22) (by rw [up_n (by omega)]; exact w49) (by omega) (by omega) ?_
                            conv => whnf
                            refine ⟨(by first | assumption | rfl), by omega, ?_⟩
                            try simp (disch := omega) only [Int.cast_ofNat_Int, up_s, up_a, up_i, mp_a, mp_ge]
                            try simp only [w50]
                            try simp only [w51]
                            try simp only [w48]
                            try simp only [w22]
                            try simp only [w49]
                            try simp only [ern]
                            conv => whnf
                            refine ⟨Nat.le_of_ble_eq_true rfl, Nat.le_of_ble_eq_true rfl, (by first | assumption | rfl), ?_⟩
                            refine r_tok (tx := tx) (n9 := n9) (i := i) (by repeat (first | exact hq | refine rQ_up ?_ (by unfold FRd; omega))) (fun σ9 hf9 hq9 => ?_)
                            conv => whnf
                            refine ⟨fun q9 => by first | (simp at q9; done) | omega, ?_⟩
                            first
                            | (have ht : kT tx n9 i = 21 := by omega
                               have hkv := (pKz_21 hkz).2.2.2.2 ((pKz_21 hkz).1.mpr ht)
                               have ev9 : σ 124 9 = kV tx n9 i := by omega
                               refine hS (sx_up (sx_up (sx_up (sx_up (sx_up s p 14 (s p 14 + 1)) (p + 11) (s 32 14) (21)) (p + 12) (s 32 14) (kV tx n9 i)) 32 14 (s 32 14 + 1)) 32 13 0) _ (Or.inl ⟨ht, by omega, by omega, rfl⟩) (eC_leaf (s := s) (r := σ) (c := 21) (v := kV tx n9 i) (k := 0) (a := σ 124 9) hp hk hc0 (Or.inl rfl) (Or.inl ⟨rfl, rfl, ev9⟩) (by rw [up_n (by omega), up_n (by omega), up_n (by omega), up_n (by omega), up_n (by omega)]) (funext fun j => by rw [up_n (by omega), up_n (by omega), up_n (by omega), up_n (by omega), up_n (by omega)]) up_s (by rw [up_n (by omega), up_s]) (fun j => by
                                  rw [up_n (by omega), up_n (by omega), up_n (by omega)]
                                  by_cases e9 : j = s 32 14
                                  · rw [if_pos e9, e9, up_s]
                                  · rw [if_neg e9, up_n (by omega), up_n (by omega)]) (fun j => by
                                  rw [up_n (by omega), up_n (by omega)]
                                  by_cases e9 : j = s 32 14
                                  · rw [if_pos e9, e9, up_s]
                                  · rw [if_neg e9, up_n (by omega), up_n (by omega), up_n (by omega)]) (by rw [hf9 139 _ (by unfold FRt; omega)]; (repeat (first | rw [up_s] | rw [up_n (by omega)])); try omega) (by rw [hf9 140 _ (by unfold FRt; omega)]; (repeat (first | rw [up_s] | rw [up_n (by omega)])); try omega) (fun x j z => by rw [hf9 x j (by unfold FRt; omega)]; repeat (first | rw [up_n (by omega)])) (by rw [hf9 143 _ (by unfold FRt; omega)]; (repeat (first | rw [up_s] | rw [up_n (by omega)])); try omega) (fun d z => by rw [hf9 143 d (by unfold FRt; omega)]; repeat (first | rw [up_n (by omega)])) (by rw [hf9 _ _ (by unfold FRt; omega)]; (repeat (first | rw [up_s] | rw [up_n (by omega)])); try omega) (by rw [hf9 _ _ (by unfold FRt; omega)]; (repeat (first | rw [up_s] | rw [up_n (by omega)])); try omega) ?_ ?_ ?_) hq9 (fun a j z9 => by unfold FEs at z9; rw [hf9 a j (by unfold FRt; omega)]; repeat (first | rw [up_n (by omega)]))
                               · rw [hf9 _ _ (by unfold FRt; omega)]; (repeat (first | rw [up_n (by omega)])); exact w50
                               · rw [hf9 _ _ (by unfold FRt; omega)]; (repeat (first | rw [up_s] | rw [up_n (by omega)]))
                               · rw [hf9 _ _ (by unfold FRt; omega)]; (repeat (first | rw [up_s] | rw [up_n (by omega)])))
                            | (have ht : 10 ≤ kT tx n9 i ∧ kT tx n9 i ≤ 16 := by omega
                               refine hS (sx_up (sx_up (sx_up (sx_up (sx_up s p 14 (s p 14 + 1)) (p + 11) (s 32 14) (kT tx n9 i)) (p + 12) (s 32 14) (0)) 32 14 (s 32 14 + 1)) 32 13 0) _ (Or.inr (Or.inl ⟨ht.1, ht.2, by omega, rfl⟩)) (eC_leaf (s := s) (r := σ) (c := kT tx n9 i) (v := 0) (k := 1) (a := fPn (kT tx n9 i)) hp hk hc0 (Or.inr ht) (Or.inr ⟨by omega, rfl, rfl⟩) (by rw [up_n (by omega), up_n (by omega), up_n (by omega), up_n (by omega), up_n (by omega)]) (funext fun j => by rw [up_n (by omega), up_n (by omega), up_n (by omega), up_n (by omega), up_n (by omega)]) up_s (by rw [up_n (by omega), up_s]) (fun j => by
                                  rw [up_n (by omega), up_n (by omega), up_n (by omega)]
                                  by_cases e9 : j = s 32 14
                                  · rw [if_pos e9, e9, up_s]
                                  · rw [if_neg e9, up_n (by omega), up_n (by omega)]) (fun j => by
                                  rw [up_n (by omega), up_n (by omega)]
                                  by_cases e9 : j = s 32 14
                                  · rw [if_pos e9, e9, up_s]
                                  · rw [if_neg e9, up_n (by omega), up_n (by omega), up_n (by omega)]) (by rw [hf9 139 _ (by unfold FRt; omega)]; (repeat (first | rw [up_s] | rw [up_n (by omega)])); try omega) (by rw [hf9 140 _ (by unfold FRt; omega)]; (repeat (first | rw [up_s] | rw [up_n (by omega)])); try omega) (fun x j z => by rw [hf9 x j (by unfold FRt; omega)]; repeat (first | rw [up_n (by omega)])) (by rw [hf9 143 _ (by unfold FRt; omega)]; (repeat (first | rw [up_s] | rw [up_n (by omega)])); try omega) (fun d z => by rw [hf9 143 d (by unfold FRt; omega)]; repeat (first | rw [up_n (by omega)])) (by rw [hf9 _ _ (by unfold FRt; omega)]; (repeat (first | rw [up_s] | rw [up_n (by omega)])); try omega) (by rw [hf9 _ _ (by unfold FRt; omega)]; (repeat (first | rw [up_s] | rw [up_n (by omega)])); try omega) ?_ ?_ ?_) hq9 (fun a j z9 => by unfold FEs at z9; rw [hf9 a j (by unfold FRt; omega)]; repeat (first | rw [up_n (by omega)]))
                               · rw [hf9 _ _ (by unfold FRt; omega)]; (repeat (first | rw [up_n (by omega)])); exact w50
                               · rw [hf9 _ _ (by unfold FRt; omega)]; (repeat (first | rw [up_s] | rw [up_n (by omega)]))
                               · rw [hf9 _ _ (by unfold FRt; omega)]; (repeat (first | rw [up_s] | rw [up_n (by omega)])))
                          · simp only [sx_cc, Classical.not_not] at g
                            conv => whnf
                            refine ⟨Nat.le_of_ble_eq_true rfl, Nat.le_of_ble_eq_true rfl, (by first | assumption | rfl), ?_⟩
                            refine r_grown (rQ_up hq (by unfold FRd; omega)) (w := s 32 14) (d := dpF (s (p + 11)) lo (s 32 14)) (by rw [up_n (by omega)]; exact w22) (by rw [up_n (by omega)]; exact w49) (by omega) (by omega) ?_
                            conv => whnf
                            refine ⟨(by first | assumption | rfl), by omega, ?_⟩
                            try simp (disch := omega) only [Int.cast_ofNat_Int, up_s, up_a, up_i, mp_a, mp_ge]
                            try simp only [w50]
                            try simp only [w51]
                            try simp only [w48]
                            try simp only [w22]
                            try simp only [w49]
                            try simp only [ern]
                            conv => whnf
                            refine ⟨Nat.le_of_ble_eq_true rfl, Nat.le_of_ble_eq_true rfl, (by first | assumption | rfl), ?_⟩
                            refine r_tok (tx := tx) (n9 := n9) (i := i) (by repeat (first | exact hq | refine rQ_up ?_ (by unfold FRd; omega))) (fun σ9 hf9 hq9 => ?_)
                            conv => whnf
                            refine ⟨fun q9 => by first | (simp at q9; done) | omega, ?_⟩
                            first
                            | (have ht : kT tx n9 i = 21 := by omega
                               have hkv := (pKz_21 hkz).2.2.2.2 ((pKz_21 hkz).1.mpr ht)
                               have ev9 : σ 124 9 = kV tx n9 i := by omega
                               refine hS (sx_up (sx_up (sx_up (sx_up (sx_up s p 14 (s p 14 + 1)) (p + 11) (s 32 14) (21)) (p + 12) (s 32 14) (kV tx n9 i)) 32 14 (s 32 14 + 1)) 32 13 0) _ (Or.inl ⟨ht, by omega, by omega, rfl⟩) (eC_leaf (s := s) (r := σ) (c := 21) (v := kV tx n9 i) (k := 0) (a := σ 124 9) hp hk hc0 (Or.inl rfl) (Or.inl ⟨rfl, rfl, ev9⟩) (by rw [up_n (by omega), up_n (by omega), up_n (by omega), up_n (by omega), up_n (by omega)]) (funext fun j => by rw [up_n (by omega), up_n (by omega), up_n (by omega), up_n (by omega), up_n (by omega)]) up_s (by rw [up_n (by omega), up_s]) (fun j => by
                                  rw [up_n (by omega), up_n (by omega), up_n (by omega)]
                                  by_cases e9 : j = s 32 14
                                  · rw [if_pos e9, e9, up_s]
                                  · rw [if_neg e9, up_n (by omega), up_n (by omega)]) (fun j => by
                                  rw [up_n (by omega), up_n (by omega)]
                                  by_cases e9 : j = s 32 14
                                  · rw [if_pos e9, e9, up_s]
                                  · rw [if_neg e9, up_n (by omega), up_n (by omega), up_n (by omega)]) (by rw [hf9 139 _ (by unfold FRt; omega)]; (repeat (first | rw [up_s] | rw [up_n (by omega)])); try omega) (by rw [hf9 140 _ (by unfold FRt; omega)]; (repeat (first | rw [up_s] | rw [up_n (by omega)])); try omega) (fun x j z => by rw [hf9 x j (by unfold FRt; omega)]; repeat (first | rw [up_n (by omega)])) (by rw [hf9 143 _ (by unfold FRt; omega)]; (repeat (first | rw [up_s] | rw [up_n (by omega)])); try omega) (fun d z => by rw [hf9 143 d (by unfold FRt; omega)]; repeat (first | rw [up_n (by omega)])) (by rw [hf9 _ _ (by unfold FRt; omega)]; (repeat (first | rw [up_s] | rw [up_n (by omega)])); try omega) (by rw [hf9 _ _ (by unfold FRt; omega)]; (repeat (first | rw [up_s] | rw [up_n (by omega)])); try omega) ?_ ?_ ?_) hq9 (fun a j z9 => by unfold FEs at z9; rw [hf9 a j (by unfold FRt; omega)]; repeat (first | rw [up_n (by omega)]))
                               · rw [hf9 _ _ (by unfold FRt; omega)]; (repeat (first | rw [up_n (by omega)])); exact w50
                               · rw [hf9 _ _ (by unfold FRt; omega)]; (repeat (first | rw [up_s] | rw [up_n (by omega)]))
                               · rw [hf9 _ _ (by unfold FRt; omega)]; (repeat (first | rw [up_s] | rw [up_n (by omega)])))
                            | (have ht : 10 ≤ kT tx n9 i ∧ kT tx n9 i ≤ 16 := by omega
                               refine hS (sx_up (sx_up (sx_up (sx_up (sx_up s p 14 (s p 14 + 1)) (p + 11) (s 32 14) (kT tx n9 i)) (p + 12) (s 32 14) (0)) 32 14 (s 32 14 + 1)) 32 13 0) _ (Or.inr (Or.inl ⟨ht.1, ht.2, by omega, rfl⟩)) (eC_leaf (s := s) (r := σ) (c := kT tx n9 i) (v := 0) (k := 1) (a := fPn (kT tx n9 i)) hp hk hc0 (Or.inr ht) (Or.inr ⟨by omega, rfl, rfl⟩) (by rw [up_n (by omega), up_n (by omega), up_n (by omega), up_n (by omega), up_n (by omega)]) (funext fun j => by rw [up_n (by omega), up_n (by omega), up_n (by omega), up_n (by omega), up_n (by omega)]) up_s (by rw [up_n (by omega), up_s]) (fun j => by
                                  rw [up_n (by omega), up_n (by omega), up_n (by omega)]
                                  by_cases e9 : j = s 32 14
                                  · rw [if_pos e9, e9, up_s]
                                  · rw [if_neg e9, up_n (by omega), up_n (by omega)]) (fun j => by
                                  rw [up_n (by omega), up_n (by omega)]
                                  by_cases e9 : j = s 32 14
                                  · rw [if_pos e9, e9, up_s]
                                  · rw [if_neg e9, up_n (by omega), up_n (by omega), up_n (by omega)]) (by rw [hf9 139 _ (by unfold FRt; omega)]; (repeat (first | rw [up_s] | rw [up_n (by omega)])); try omega) (by rw [hf9 140 _ (by unfold FRt; omega)]; (repeat (first | rw [up_s] | rw [up_n (by omega)])); try omega) (fun x j z => by rw [hf9 x j (by unfold FRt; omega)]; repeat (first | rw [up_n (by omega)])) (by rw [hf9 143 _ (by unfold FRt; omega)]; (repeat (first | rw [up_s] | rw [up_n (by omega)])); try omega) (fun d z => by rw [hf9 143 d (by unfold FRt; omega)]; repeat (first | rw [up_n (by omega)])) (by rw [hf9 _ _ (by unfold FRt; omega)]; (repeat (first | rw [up_s] | rw [up_n (by omega)])); try omega) (by rw [hf9 _ _ (by unfold FRt; omega)]; (repeat (first | rw [up_s] | rw [up_n (by omega)])); try omega) ?_ ?_ ?_) hq9 (fun a j z9 => by unfold FEs at z9; rw [hf9 a j (by unfold FRt; omega)]; repeat (first | rw [up_n (by omega)]))
                               · rw [hf9 _ _ (by unfold FRt; omega)]; (repeat (first | rw [up_n (by omega)])); exact w50
                               · rw [hf9 _ _ (by unfold FRt; omega)]; (repeat (first | rw [up_s] | rw [up_n (by omega)]))
                               · rw [hf9 _ _ (by unfold FRt; omega)]; (repeat (first | rw [up_s] | rw [up_n (by omega)])))
                      · exact absurd g (by simp [sx_cc])
                    · have hty : kT tx n9 i = 21 ∨ (10 ≤ kT tx n9 i ∧ kT tx n9 i ≤ 16) := by omega
                      conv => whnf
                      refine ⟨fun g => ?_, fun g => ?_⟩
                      · exact absurd g (by simp [sx_cc])
                      · skip
                        conv => whnf
                        refine ⟨fun q9 => by first | (simp at q9; done) | omega, ?_⟩
                        rcases hty with ht | ht
                        · exact hF _ _ (Or.inl ⟨ht, by omega, rfl⟩) (fun a j z9 => by unfold FEq at z9; rw [up_n (by omega), up_n (by omega)]) ⟨by rw [up_n (by omega), up_s], by rw [up_s, ha]⟩
                        · exact hF _ _ (Or.inr (Or.inl ⟨ht.1, ht.2, by omega, rfl⟩)) (fun a j z9 => by unfold FEq at z9; rw [up_n (by omega), up_n (by omega)]) ⟨by rw [up_n (by omega), up_s], by rw [up_s, ha]⟩
                  · simp only [sx_cc, Classical.not_not] at g
                    conv => whnf
                    refine ⟨Nat.le_of_ble_eq_true rfl, Nat.le_of_ble_eq_true rfl, (by first | assumption | rfl), ?_⟩
                    refine r_wrong ?_
                    conv => whnf
                    refine ⟨fun q9 => by first | (simp at q9; done) | omega, ?_⟩
                    exact hF _ _ (Or.inl ⟨by omega, by omega, rfl⟩) (fun a j z9 => by unfold FEq at z9; rw [up_n (by omega), up_n (by omega)]) ⟨by rw [up_n (by omega), up_s], by rw [up_s, ha]⟩
              · simp only [sx_cc, Classical.not_not] at g
                have g3 := g
                have hnn : ¬ (10 ≤ kT tx n9 i ∧ kT tx n9 i ≤ 16) := by omega
                skip
                conv => whnf
                refine ⟨Nat.le_of_ble_eq_true rfl, Nat.le_of_ble_eq_true rfl, (by first | assumption | rfl), ?_⟩
                refine r_wrong ?_
                conv => whnf
                refine ⟨fun q9 => by first | (simp at q9; done) | omega, ?_⟩
                exact hF _ _ (Or.inr (Or.inr (Or.inr (Or.inr (⟨fun z => g3 ((pKz_21 hkz).1.mpr z), hnn, n23, n19, rfl⟩))))) (fun a j z9 => by unfold FEq at z9; rw [up_n (by omega), up_n (by omega)]) ⟨by rw [up_n (by omega), up_s], by rw [up_s, ha]⟩
          · simp only [sx_cc, Classical.not_not] at g
            have hh3 : fHdr s ≤ 3 := by have := hc0.2.2.2.2.2.2.2.2.2 h13; omega
            have g53 : σ 124 53 = 1 := by have := hc0.2.2.2.2.2.2.2.2.2 h13; omega
            skip
            conv => whnf
            refine ⟨Nat.le_of_ble_eq_true rfl, Nat.le_of_ble_eq_true rfl, (by first | assumption | rfl), ?_⟩
            refine r_cnt w51 z2 (fun hk9 => ?_) (fun hk9 => ?_)
            · skip
              conv => whnf
              refine ⟨fun g => ?_, fun g => ?_⟩
              · skip
                conv => whnf
                refine ⟨Nat.le_of_ble_eq_true rfl, Nat.le_of_ble_eq_true rfl, (by first | assumption | rfl), ?_⟩
                refine r_waits (rQ_up hq (by unfold FRd; omega)) (n := s 32 11) (by rw [up_n (by omega)]; exact w48) (by omega) ?_
                conv => whnf
                refine ⟨Nat.le_of_ble_eq_true rfl, Nat.le_of_ble_eq_true rfl, (by first | assumption | rfl), ?_⟩
                refine r_tok (tx := tx) (n9 := n9) (i := i) (by repeat (first | exact hq | refine rQ_up ?_ (by unfold FRd; omega))) (fun σ9 hf9 hq9 => ?_)
                conv => whnf
                refine ⟨fun q9 => by first | (simp at q9; done) | omega, ?_⟩
                refine hS (sx_up (sx_up (sx_up s p 14 (s p 14 + 1)) 36 (s 32 11) 19) 32 11 (s 32 11 + 1)) _ (Or.inr (Or.inr (Or.inr (⟨t19, hh3, by omega, rfl⟩)))) (eC_push (s := s) (r := σ) (t := 19) hc0 z0 up_s (fun j z => by rw [up_n (by omega), up_n (by omega), up_n (by omega)]) (by rw [up_n (by omega), up_s]) (by rw [up_n (by omega), up_n (by omega), up_n (by omega)]) (funext fun j => by rw [up_n (by omega), up_n (by omega), up_n (by omega)]) (funext fun j => by rw [up_n (by omega), up_n (by omega), up_n (by omega)]) (by rw [hf9 _ _ (by unfold FRt; omega)]; (repeat (first | rw [up_s] | rw [up_n (by omega)])); try omega) (by rw [hf9 142 _ (by unfold FRt; omega)]; (repeat (first | rw [up_s] | rw [up_n (by omega)])); rfl) (fun j z => by rw [hf9 142 j (by unfold FRt; omega)]; repeat (first | rw [up_n (by omega)])) (fun a j z => by rw [hf9 a j (by unfold FRt; omega)]; repeat (first | rw [up_n (by omega)])) ?_ ?_ ?_ ?_) hq9 (fun a j z9 => by unfold FEs at z9; rw [hf9 a j (by unfold FRt; omega)]; repeat (first | rw [up_n (by omega)]))
                · rw [hf9 _ _ (by unfold FRt; omega)]; (repeat (first | rw [up_n (by omega)])); exact w50
                · rw [hf9 _ _ (by unfold FRt; omega)]; (repeat (first | rw [up_s] | rw [up_n (by omega)]))
                · rw [hf9 _ _ (by unfold FRt; omega)]; (repeat (first | rw [up_n (by omega)])); exact w52
                · intro _; left; refine ⟨by rw [hf9 _ _ (by unfold FRt; omega)]; (repeat (first | rw [up_n (by omega)])); exact g53, ?_⟩; rw [fHdr_push (s := s) (i := 19) up_s (by omega) (by rw [up_n (by omega), up_s])]; decide
              · exact absurd g (by simp [sx_cc])
            · skip
              conv => whnf
              refine ⟨fun g => ?_, fun g => ?_⟩
              · exact absurd g (by simp [sx_cc])
              · skip
                conv => whnf
                refine ⟨fun q9 => by first | (simp at q9; done) | omega, ?_⟩
                exact hF _ _ (Or.inr (Or.inr (Or.inr (Or.inl ⟨t19, hh3, by omega, rfl⟩)))) (fun a j z9 => by unfold FEq at z9; rw [up_n (by omega), up_n (by omega)]) ⟨by rw [up_n (by omega), up_s], by rw [up_s, ha]⟩
      · have n19b : ¬ kT tx n9 i = 19 := fun z => gk ((pKz_e hkz).2.2.2.2.2.2.2.1.mpr z)
        conv => whnf
        refine ⟨fun g => ?_, fun g => ?_⟩
        · skip
          conv => whnf
          refine ⟨Nat.le_of_ble_eq_true rfl, Nat.le_of_ble_eq_true rfl, (by first | assumption | rfl), ?_⟩
          refine r_nm ?_ (pKz_w hkz)
          have n19 : ¬ (kT tx n9 i = 19 ∧ fHdr s ≤ 3) := by first | (intro z; exact n19b z.1) | (intro z; have := hc0.2.2.2.2.2.2.2.2.2 h13; omega)
          obtain ⟨nmv, ern⟩ : ∃ v : Int, rNmq (σ 124 8) (σ 124 9) = v := ⟨_, rfl⟩
          have hnm := rNmq_t hkz
          rw [ern]
          rw [ern] at hnm
          have hnm9 : (10 ≤ kT tx n9 i ∧ kT tx n9 i ≤ 16 ∧ nmv = fPn (kT tx n9 i) ∧ 0 ≤ nmv) ∨ (¬ (10 ≤ kT tx n9 i ∧ kT tx n9 i ≤ 16) ∧ nmv = -1) := by omega
          clear hnm
          conv => whnf
          refine ⟨fun g => ?_, fun g => ?_⟩
          · simp only [sx_cc, Classical.not_not] at g
            conv => whnf
            refine ⟨fun g => ?_, fun g => ?_⟩
            · simp only [sx_cc, Classical.not_not] at g
              conv => whnf
              refine ⟨Nat.le_of_ble_eq_true rfl, Nat.le_of_ble_eq_true rfl, (by first | assumption | rfl), ?_⟩
              refine r_cnt w51 z2 (fun hk9 => ?_) (fun hk9 => ?_)
              · have hty : kT tx n9 i = 21 ∨ (10 ≤ kT tx n9 i ∧ kT tx n9 i ≤ 16) := by omega
                conv => whnf
                refine ⟨fun g => ?_, fun g => ?_⟩
                · skip
                  conv => whnf
                  refine ⟨fun g => ?_, fun g => ?_⟩
                  · simp only [sx_cc, Classical.not_not] at g
                    conv => whnf
                    refine ⟨fun g => ?_, fun g => ?_⟩
                    · simp only [sx_cc, Classical.not_not] at g
                      conv => whnf
                      refine ⟨(by first | assumption | rfl), ?_⟩
                      try simp (disch := omega) only [Int.cast_ofNat_Int, up_s, up_a, up_i, mp_a, mp_ge]
                      try simp only [w50]
                      try simp only [w51]
                      try simp only [w48]
                      try simp only [w22]
                      try simp only [w49]
                      try simp only [ern]
                      conv => whnf
                      refine ⟨Nat.le_of_ble_eq_true rfl, Nat.le_of_ble_eq_true rfl, (by first | assumption | rfl), ?_⟩
                      refine r_grown (rQ_up hq (by unfold FRd; omega)) (w := s 32 14) (d := dpF (s (p + 11)) lo (s 32 14)) (by rw [up_n (by omega)]; exact w22) (by rw [up_n (by omega)]; exact w49) (by omega) (by omega) ?_
                      conv => whnf
                      refine ⟨(by first | assumption | rfl), by omega, ?_⟩
                      try simp (disch := omega) only [Int.cast_ofNat_Int, up_s, up_a, up_i, mp_a, mp_ge]
                      try simp only [w50]
                      try simp only [w51]
                      try simp only [w48]
                      try simp only [w22]
                      try simp only [w49]
                      try simp only [ern]
                      conv => whnf
                      refine ⟨Nat.le_of_ble_eq_true rfl, Nat.le_of_ble_eq_true rfl, (by first | assumption | rfl), ?_⟩
                      refine r_tok (tx := tx) (n9 := n9) (i := i) (by repeat (first | exact hq | refine rQ_up ?_ (by unfold FRd; omega))) (fun σ9 hf9 hq9 => ?_)
                      conv => whnf
                      refine ⟨fun q9 => by first | (simp at q9; done) | omega, ?_⟩
                      first
                      | (have ht : kT tx n9 i = 21 := by omega
                         have hkv := (pKz_21 hkz).2.2.2.2 ((pKz_21 hkz).1.mpr ht)
                         have ev9 : σ 124 9 = kV tx n9 i := by omega
                         refine hS (sx_up (sx_up (sx_up (sx_up (sx_up s p 14 (s p 14 + 1)) (p + 11) (s 32 14) (21)) (p + 12) (s 32 14) (kV tx n9 i)) 32 14 (s 32 14 + 1)) 32 13 0) _ (Or.inl ⟨ht, by omega, by omega, rfl⟩) (eC_leaf (s := s) (r := σ) (c := 21) (v := kV tx n9 i) (k := 0) (a := σ 124 9) hp hk hc0 (Or.inl rfl) (Or.inl ⟨rfl, rfl, ev9⟩) (by rw [up_n (by omega), up_n (by omega), up_n (by omega), up_n (by omega), up_n (by omega)]) (funext fun j => by rw [up_n (by omega), up_n (by omega), up_n (by omega), up_n (by omega), up_n (by omega)]) up_s (by rw [up_n (by omega), up_s]) (fun j => by
                            rw [up_n (by omega), up_n (by omega), up_n (by omega)]
                            by_cases e9 : j = s 32 14
                            · rw [if_pos e9, e9, up_s]
                            · rw [if_neg e9, up_n (by omega), up_n (by omega)]) (fun j => by
                            rw [up_n (by omega), up_n (by omega)]
                            by_cases e9 : j = s 32 14
                            · rw [if_pos e9, e9, up_s]
                            · rw [if_neg e9, up_n (by omega), up_n (by omega), up_n (by omega)]) (by rw [hf9 139 _ (by unfold FRt; omega)]; (repeat (first | rw [up_s] | rw [up_n (by omega)])); try omega) (by rw [hf9 140 _ (by unfold FRt; omega)]; (repeat (first | rw [up_s] | rw [up_n (by omega)])); try omega) (fun x j z => by rw [hf9 x j (by unfold FRt; omega)]; repeat (first | rw [up_n (by omega)])) (by rw [hf9 143 _ (by unfold FRt; omega)]; (repeat (first | rw [up_s] | rw [up_n (by omega)])); try omega) (fun d z => by rw [hf9 143 d (by unfold FRt; omega)]; repeat (first | rw [up_n (by omega)])) (by rw [hf9 _ _ (by unfold FRt; omega)]; (repeat (first | rw [up_s] | rw [up_n (by omega)])); try omega) (by rw [hf9 _ _ (by unfold FRt; omega)]; (repeat (first | rw [up_s] | rw [up_n (by omega)])); try omega) ?_ ?_ ?_) hq9 (fun a j z9 => by unfold FEs at z9; rw [hf9 a j (by unfold FRt; omega)]; repeat (first | rw [up_n (by omega)]))
                         · rw [hf9 _ _ (by unfold FRt; omega)]; (repeat (first | rw [up_n (by omega)])); exact w50
                         · rw [hf9 _ _ (by unfold FRt; omega)]; (repeat (first | rw [up_s] | rw [up_n (by omega)]))
                         · rw [hf9 _ _ (by unfold FRt; omega)]; (repeat (first | rw [up_s] | rw [up_n (by omega)])))
                      | (have ht : 10 ≤ kT tx n9 i ∧ kT tx n9 i ≤ 16 := by omega
                         refine hS (sx_up (sx_up (sx_up (sx_up (sx_up s p 14 (s p 14 + 1)) (p + 11) (s 32 14) (kT tx n9 i)) (p + 12) (s 32 14) (0)) 32 14 (s 32 14 + 1)) 32 13 0) _ (Or.inr (Or.inl ⟨ht.1, ht.2, by omega, rfl⟩)) (eC_leaf (s := s) (r := σ) (c := kT tx n9 i) (v := 0) (k := 1) (a := fPn (kT tx n9 i)) hp hk hc0 (Or.inr ht) (Or.inr ⟨by omega, rfl, rfl⟩) (by rw [up_n (by omega), up_n (by omega), up_n (by omega), up_n (by omega), up_n (by omega)]) (funext fun j => by rw [up_n (by omega), up_n (by omega), up_n (by omega), up_n (by omega), up_n (by omega)]) up_s (by rw [up_n (by omega), up_s]) (fun j => by
                            rw [up_n (by omega), up_n (by omega), up_n (by omega)]
                            by_cases e9 : j = s 32 14
                            · rw [if_pos e9, e9, up_s]
                            · rw [if_neg e9, up_n (by omega), up_n (by omega)]) (fun j => by
                            rw [up_n (by omega), up_n (by omega)]
                            by_cases e9 : j = s 32 14
                            · rw [if_pos e9, e9, up_s]
                            · rw [if_neg e9, up_n (by omega), up_n (by omega), up_n (by omega)]) (by rw [hf9 139 _ (by unfold FRt; omega)]; (repeat (first | rw [up_s] | rw [up_n (by omega)])); try omega) (by rw [hf9 140 _ (by unfold FRt; omega)]; (repeat (first | rw [up_s] | rw [up_n (by omega)])); try omega) (fun x j z => by rw [hf9 x j (by unfold FRt; omega)]; repeat (first | rw [up_n (by omega)])) (by rw [hf9 143 _ (by unfold FRt; omega)]; (repeat (first | rw [up_s] | rw [up_n (by omega)])); try omega) (fun d z => by rw [hf9 143 d (by unfold FRt; omega)]; repeat (first | rw [up_n (by omega)])) (by rw [hf9 _ _ (by unfold FRt; omega)]; (repeat (first | rw [up_s] | rw [up_n (by omega)])); try omega) (by rw [hf9 _ _ (by unfold FRt; omega)]; (repeat (first | rw [up_s] | rw [up_n (by omega)])); try omega) ?_ ?_ ?_) hq9 (fun a j z9 => by unfold FEs at z9; rw [hf9 a j (by unfold FRt; omega)]; repeat (first | rw [up_n (by omega)]))
                         · rw [hf9 _ _ (by unfold FRt; omega)]; (repeat (first | rw [up_n (by omega)])); exact w50
                         · rw [hf9 _ _ (by unfold FRt; omega)]; (repeat (first | rw [up_s] | rw [up_n (by omega)]))
                         · rw [hf9 _ _ (by unfold FRt; omega)]; (repeat (first | rw [up_s] | rw [up_n (by omega)])))
                    · simp only [sx_cc, Classical.not_not] at g
                      conv => whnf
                      refine ⟨Nat.le_of_ble_eq_true rfl, Nat.le_of_ble_eq_true rfl, (by first | assumption | rfl), ?_⟩
                      refine r_grown (rQ_up hq (by unfold FRd; omega)) (w := s 32 14) (d := dpF (s (p + 11)) lo (s 32 14)) (by rw [up_n (by omega)]; exact w22) (by rw [up_n (by omega)]; exact w49) (by omega) (by omega) ?_
                      conv => whnf
                      refine ⟨(by first | assumption | rfl), by omega, ?_⟩
                      try simp (disch := omega) only [Int.cast_ofNat_Int, up_s, up_a, up_i, mp_a, mp_ge]
                      try simp only [w50]
                      try simp only [w51]
                      try simp only [w48]
                      try simp only [w22]
                      try simp only [w49]
                      try simp only [ern]
                      conv => whnf
                      refine ⟨Nat.le_of_ble_eq_true rfl, Nat.le_of_ble_eq_true rfl, (by first | assumption | rfl), ?_⟩
                      refine r_tok (tx := tx) (n9 := n9) (i := i) (by repeat (first | exact hq | refine rQ_up ?_ (by unfold FRd; omega))) (fun σ9 hf9 hq9 => ?_)
                      conv => whnf
                      refine ⟨fun q9 => by first | (simp at q9; done) | omega, ?_⟩
                      first
                      | (have ht : kT tx n9 i = 21 := by omega
                         have hkv := (pKz_21 hkz).2.2.2.2 ((pKz_21 hkz).1.mpr ht)
                         have ev9 : σ 124 9 = kV tx n9 i := by omega
                         refine hS (sx_up (sx_up (sx_up (sx_up (sx_up s p 14 (s p 14 + 1)) (p + 11) (s 32 14) (21)) (p + 12) (s 32 14) (kV tx n9 i)) 32 14 (s 32 14 + 1)) 32 13 0) _ (Or.inl ⟨ht, by omega, by omega, rfl⟩) (eC_leaf (s := s) (r := σ) (c := 21) (v := kV tx n9 i) (k := 0) (a := σ 124 9) hp hk hc0 (Or.inl rfl) (Or.inl ⟨rfl, rfl, ev9⟩) (by rw [up_n (by omega), up_n (by omega), up_n (by omega), up_n (by omega), up_n (by omega)]) (funext fun j => by rw [up_n (by omega), up_n (by omega), up_n (by omega), up_n (by omega), up_n (by omega)]) up_s (by rw [up_n (by omega), up_s]) (fun j => by
                            rw [up_n (by omega), up_n (by omega), up_n (by omega)]
                            by_cases e9 : j = s 32 14
                            · rw [if_pos e9, e9, up_s]
                            · rw [if_neg e9, up_n (by omega), up_n (by omega)]) (fun j => by
                            rw [up_n (by omega), up_n (by omega)]
                            by_cases e9 : j = s 32 14
                            · rw [if_pos e9, e9, up_s]
                            · rw [if_neg e9, up_n (by omega), up_n (by omega), up_n (by omega)]) (by rw [hf9 139 _ (by unfold FRt; omega)]; (repeat (first | rw [up_s] | rw [up_n (by omega)])); try omega) (by rw [hf9 140 _ (by unfold FRt; omega)]; (repeat (first | rw [up_s] | rw [up_n (by omega)])); try omega) (fun x j z => by rw [hf9 x j (by unfold FRt; omega)]; repeat (first | rw [up_n (by omega)])) (by rw [hf9 143 _ (by unfold FRt; omega)]; (repeat (first | rw [up_s] | rw [up_n (by omega)])); try omega) (fun d z => by rw [hf9 143 d (by unfold FRt; omega)]; repeat (first | rw [up_n (by omega)])) (by rw [hf9 _ _ (by unfold FRt; omega)]; (repeat (first | rw [up_s] | rw [up_n (by omega)])); try omega) (by rw [hf9 _ _ (by unfold FRt; omega)]; (repeat (first | rw [up_s] | rw [up_n (by omega)])); try omega) ?_ ?_ ?_) hq9 (fun a j z9 => by unfold FEs at z9; rw [hf9 a j (by unfold FRt; omega)]; repeat (first | rw [up_n (by omega)]))
                         · rw [hf9 _ _ (by unfold FRt; omega)]; (repeat (first | rw [up_n (by omega)])); exact w50
                         · rw [hf9 _ _ (by unfold FRt; omega)]; (repeat (first | rw [up_s] | rw [up_n (by omega)]))
                         · rw [hf9 _ _ (by unfold FRt; omega)]; (repeat (first | rw [up_s] | rw [up_n (by omega)])))
                      | (have ht : 10 ≤ kT tx n9 i ∧ kT tx n9 i ≤ 16 := by omega
                         refine hS (sx_up (sx_up (sx_up (sx_up (sx_up s p 14 (s p 14 + 1)) (p + 11) (s 32 14) (kT tx n9 i)) (p + 12) (s 32 14) (0)) 32 14 (s 32 14 + 1)) 32 13 0) _ (Or.inr (Or.inl ⟨ht.1, ht.2, by omega, rfl⟩)) (eC_leaf (s := s) (r := σ) (c := kT tx n9 i) (v := 0) (k := 1) (a := fPn (kT tx n9 i)) hp hk hc0 (Or.inr ht) (Or.inr ⟨by omega, rfl, rfl⟩) (by rw [up_n (by omega), up_n (by omega), up_n (by omega), up_n (by omega), up_n (by omega)]) (funext fun j => by rw [up_n (by omega), up_n (by omega), up_n (by omega), up_n (by omega), up_n (by omega)]) up_s (by rw [up_n (by omega), up_s]) (fun j => by
                            rw [up_n (by omega), up_n (by omega), up_n (by omega)]
                            by_cases e9 : j = s 32 14
                            · rw [if_pos e9, e9, up_s]
                            · rw [if_neg e9, up_n (by omega), up_n (by omega)]) (fun j => by
                            rw [up_n (by omega), up_n (by omega)]
                            by_cases e9 : j = s 32 14
                            · rw [if_pos e9, e9, up_s]
                            · rw [if_neg e9, up_n (by omega), up_n (by omega), up_n (by omega)]) (by rw [hf9 139 _ (by unfold FRt; omega)]; (repeat (first | rw [up_s] | rw [up_n (by omega)])); try omega) (by rw [hf9 140 _ (by unfold FRt; omega)]; (repeat (first | rw [up_s] | rw [up_n (by omega)])); try omega) (fun x j z => by rw [hf9 x j (by unfold FRt; omega)]; repeat (first | rw [up_n (by omega)])) (by rw [hf9 143 _ (by unfold FRt; omega)]; (repeat (first | rw [up_s] | rw [up_n (by omega)])); try omega) (fun d z => by rw [hf9 143 d (by unfold FRt; omega)]; repeat (first | rw [up_n (by omega)])) (by rw [hf9 _ _ (by unfold FRt; omega)]; (repeat (first | rw [up_s] | rw [up_n (by omega)])); try omega) (by rw [hf9 _ _ (by unfold FRt; omega)]; (repeat (first | rw [up_s] | rw [up_n (by omega)])); try omega) ?_ ?_ ?_) hq9 (fun a j z9 => by unfold FEs at z9; rw [hf9 a j (by unfold FRt; omega)]; repeat (first | rw [up_n (by omega)]))
                         · rw [hf9 _ _ (by unfold FRt; omega)]; (repeat (first | rw [up_n (by omega)])); exact w50
                         · rw [hf9 _ _ (by unfold FRt; omega)]; (repeat (first | rw [up_s] | rw [up_n (by omega)]))
                         · rw [hf9 _ _ (by unfold FRt; omega)]; (repeat (first | rw [up_s] | rw [up_n (by omega)])))
                  · simp only [sx_cc, Classical.not_not] at g
                    conv => whnf
                    refine ⟨fun g => ?_, fun g => ?_⟩
                    · simp only [sx_cc, Classical.not_not] at g
                      conv => whnf
                      refine ⟨(by first | assumption | rfl), ?_⟩
                      try simp (disch := omega) only [Int.cast_ofNat_Int, up_s, up_a, up_i, mp_a, mp_ge]
                      try simp only [w50]
                      try simp only [w51]
                      try simp only [w48]
                      try simp only [w22]
                      try simp only [w49]
                      try simp only [ern]
                      conv => whnf
                      refine ⟨Nat.le_of_ble_eq_true rfl, Nat.le_of_ble_eq_true rfl, (by first | assumption | rfl), ?_⟩
                      refine r_grown (rQ_up hq (by unfold FRd; omega)) (w := s 32 14) (d := dpF (s (p + 11)) lo (s 32 14)) (by rw [up_n (by omega)]; exact w22) (by rw [up_n (by omega)]; exact w49) (by omega) (by omega) ?_
                      conv => whnf
                      refine ⟨(by first | assumption | rfl), by omega, ?_⟩
                      try simp (disch := omega) only [Int.cast_ofNat_Int, up_s, up_a, up_i, mp_a, mp_ge]
                      try simp only [w50]
                      try simp only [w51]
                      try simp only [w48]
                      try simp only [w22]
                      try simp only [w49]
                      try simp only [ern]
                      conv => whnf
                      refine ⟨Nat.le_of_ble_eq_true rfl, Nat.le_of_ble_eq_true rfl, (by first | assumption | rfl), ?_⟩
                      refine r_tok (tx := tx) (n9 := n9) (i := i) (by repeat (first | exact hq | refine rQ_up ?_ (by unfold FRd; omega))) (fun σ9 hf9 hq9 => ?_)
                      conv => whnf
                      refine ⟨fun q9 => by first | (simp at q9; done) | omega, ?_⟩
                      first
                      | (have ht : kT tx n9 i = 21 := by omega
                         have hkv := (pKz_21 hkz).2.2.2.2 ((pKz_21 hkz).1.mpr ht)
                         have ev9 : σ 124 9 = kV tx n9 i := by omega
                         refine hS (sx_up (sx_up (sx_up (sx_up (sx_up s p 14 (s p 14 + 1)) (p + 11) (s 32 14) (21)) (p + 12) (s 32 14) (kV tx n9 i)) 32 14 (s 32 14 + 1)) 32 13 0) _ (Or.inl ⟨ht, by omega, by omega, rfl⟩) (eC_leaf (s := s) (r := σ) (c := 21) (v := kV tx n9 i) (k := 0) (a := σ 124 9) hp hk hc0 (Or.inl rfl) (Or.inl ⟨rfl, rfl, ev9⟩) (by rw [up_n (by omega), up_n (by omega), up_n (by omega), up_n (by omega), up_n (by omega)]) (funext fun j => by rw [up_n (by omega), up_n (by omega), up_n (by omega), up_n (by omega), up_n (by omega)]) up_s (by rw [up_n (by omega), up_s]) (fun j => by
                            rw [up_n (by omega), up_n (by omega), up_n (by omega)]
                            by_cases e9 : j = s 32 14
                            · rw [if_pos e9, e9, up_s]
                            · rw [if_neg e9, up_n (by omega), up_n (by omega)]) (fun j => by
                            rw [up_n (by omega), up_n (by omega)]
                            by_cases e9 : j = s 32 14
                            · rw [if_pos e9, e9, up_s]
                            · rw [if_neg e9, up_n (by omega), up_n (by omega), up_n (by omega)]) (by rw [hf9 139 _ (by unfold FRt; omega)]; (repeat (first | rw [up_s] | rw [up_n (by omega)])); try omega) (by rw [hf9 140 _ (by unfold FRt; omega)]; (repeat (first | rw [up_s] | rw [up_n (by omega)])); try omega) (fun x j z => by rw [hf9 x j (by unfold FRt; omega)]; repeat (first | rw [up_n (by omega)])) (by rw [hf9 143 _ (by unfold FRt; omega)]; (repeat (first | rw [up_s] | rw [up_n (by omega)])); try omega) (fun d z => by rw [hf9 143 d (by unfold FRt; omega)]; repeat (first | rw [up_n (by omega)])) (by rw [hf9 _ _ (by unfold FRt; omega)]; (repeat (first | rw [up_s] | rw [up_n (by omega)])); try omega) (by rw [hf9 _ _ (by unfold FRt; omega)]; (repeat (first | rw [up_s] | rw [up_n (by omega)])); try omega) ?_ ?_ ?_) hq9 (fun a j z9 => by unfold FEs at z9; rw [hf9 a j (by unfold FRt; omega)]; repeat (first | rw [up_n (by omega)]))
                         · rw [hf9 _ _ (by unfold FRt; omega)]; (repeat (first | rw [up_n (by omega)])); exact w50
                         · rw [hf9 _ _ (by unfold FRt; omega)]; (repeat (first | rw [up_s] | rw [up_n (by omega)]))
                         · rw [hf9 _ _ (by unfold FRt; omega)]; (repeat (first | rw [up_s] | rw [up_n (by omega)])))
                      | (have ht : 10 ≤ kT tx n9 i ∧ kT tx n9 i ≤ 16 := by omega
                         refine hS (sx_up (sx_up (sx_up (sx_up (sx_up s p 14 (s p 14 + 1)) (p + 11) (s 32 14) (kT tx n9 i)) (p + 12) (s 32 14) (0)) 32 14 (s 32 14 + 1)) 32 13 0) _ (Or.inr (Or.inl ⟨ht.1, ht.2, by omega, rfl⟩)) (eC_leaf (s := s) (r := σ) (c := kT tx n9 i) (v := 0) (k := 1) (a := fPn (kT tx n9 i)) hp hk hc0 (Or.inr ht) (Or.inr ⟨by omega, rfl, rfl⟩) (by rw [up_n (by omega), up_n (by omega), up_n (by omega), up_n (by omega), up_n (by omega)]) (funext fun j => by rw [up_n (by omega), up_n (by omega), up_n (by omega), up_n (by omega), up_n (by omega)]) up_s (by rw [up_n (by omega), up_s]) (fun j => by
                            rw [up_n (by omega), up_n (by omega), up_n (by omega)]
                            by_cases e9 : j = s 32 14
                            · rw [if_pos e9, e9, up_s]
                            · rw [if_neg e9, up_n (by omega), up_n (by omega)]) (fun j => by
                            rw [up_n (by omega), up_n (by omega)]
                            by_cases e9 : j = s 32 14
                            · rw [if_pos e9, e9, up_s]
                            · rw [if_neg e9, up_n (by omega), up_n (by omega), up_n (by omega)]) (by rw [hf9 139 _ (by unfold FRt; omega)]; (repeat (first | rw [up_s] | rw [up_n (by omega)])); try omega) (by rw [hf9 140 _ (by unfold FRt; omega)]; (repeat (first | rw [up_s] | rw [up_n (by omega)])); try omega) (fun x j z => by rw [hf9 x j (by unfold FRt; omega)]; repeat (first | rw [up_n (by omega)])) (by rw [hf9 143 _ (by unfold FRt; omega)]; (repeat (first | rw [up_s] | rw [up_n (by omega)])); try omega) (fun d z => by rw [hf9 143 d (by unfold FRt; omega)]; repeat (first | rw [up_n (by omega)])) (by rw [hf9 _ _ (by unfold FRt; omega)]; (repeat (first | rw [up_s] | rw [up_n (by omega)])); try omega) (by rw [hf9 _ _ (by unfold FRt; omega)]; (repeat (first | rw [up_s] | rw [up_n (by omega)])); try omega) ?_ ?_ ?_) hq9 (fun a j z9 => by unfold FEs at z9; rw [hf9 a j (by unfold FRt; omega)]; repeat (first | rw [up_n (by omega)]))
                         · rw [hf9 _ _ (by unfold FRt; omega)]; (repeat (first | rw [up_n (by omega)])); exact w50
                         · rw [hf9 _ _ (by unfold FRt; omega)]; (repeat (first | rw [up_s] | rw [up_n (by omega)]))
                         · rw [hf9 _ _ (by unfold FRt; omega)]; (repeat (first | rw [up_s] | rw [up_n (by omega)])))
                    · simp only [sx_cc, Classical.not_not] at g
                      conv => whnf
                      refine ⟨Nat.le_of_ble_eq_true rfl, Nat.le_of_ble_eq_true rfl, (by first | assumption | rfl), ?_⟩
                      refine r_grown (rQ_up hq (by unfold FRd; omega)) (w := s 32 14) (d := dpF (s (p + 11)) lo (s 32 14)) (by rw [up_n (by omega)]; exact w22) (by rw [up_n (by omega)]; exact w49) (by omega) (by omega) ?_
                      conv => whnf
                      refine ⟨(by first | assumption | rfl), by omega, ?_⟩
                      try simp (disch := omega) only [Int.cast_ofNat_Int, up_s, up_a, up_i, mp_a, mp_ge]
                      try simp only [w50]
                      try simp only [w51]
                      try simp only [w48]
                      try simp only [w22]
                      try simp only [w49]
                      try simp only [ern]
                      conv => whnf
                      refine ⟨Nat.le_of_ble_eq_true rfl, Nat.le_of_ble_eq_true rfl, (by first | assumption | rfl), ?_⟩
                      refine r_tok (tx := tx) (n9 := n9) (i := i) (by repeat (first | exact hq | refine rQ_up ?_ (by unfold FRd; omega))) (fun σ9 hf9 hq9 => ?_)
                      conv => whnf
                      refine ⟨fun q9 => by first | (simp at q9; done) | omega, ?_⟩
                      first
                      | (have ht : kT tx n9 i = 21 := by omega
                         have hkv := (pKz_21 hkz).2.2.2.2 ((pKz_21 hkz).1.mpr ht)
                         have ev9 : σ 124 9 = kV tx n9 i := by omega
                         refine hS (sx_up (sx_up (sx_up (sx_up (sx_up s p 14 (s p 14 + 1)) (p + 11) (s 32 14) (21)) (p + 12) (s 32 14) (kV tx n9 i)) 32 14 (s 32 14 + 1)) 32 13 0) _ (Or.inl ⟨ht, by omega, by omega, rfl⟩) (eC_leaf (s := s) (r := σ) (c := 21) (v := kV tx n9 i) (k := 0) (a := σ 124 9) hp hk hc0 (Or.inl rfl) (Or.inl ⟨rfl, rfl, ev9⟩) (by rw [up_n (by omega), up_n (by omega), up_n (by omega), up_n (by omega), up_n (by omega)]) (funext fun j => by rw [up_n (by omega), up_n (by omega), up_n (by omega), up_n (by omega), up_n (by omega)]) up_s (by rw [up_n (by omega), up_s]) (fun j => by
                            rw [up_n (by omega), up_n (by omega), up_n (by omega)]
                            by_cases e9 : j = s 32 14
                            · rw [if_pos e9, e9, up_s]
                            · rw [if_neg e9, up_n (by omega), up_n (by omega)]) (fun j => by
                            rw [up_n (by omega), up_n (by omega)]
                            by_cases e9 : j = s 32 14
                            · rw [if_pos e9, e9, up_s]
                            · rw [if_neg e9, up_n (by omega), up_n (by omega), up_n (by omega)]) (by rw [hf9 139 _ (by unfold FRt; omega)]; (repeat (first | rw [up_s] | rw [up_n (by omega)])); try omega) (by rw [hf9 140 _ (by unfold FRt; omega)]; (repeat (first | rw [up_s] | rw [up_n (by omega)])); try omega) (fun x j z => by rw [hf9 x j (by unfold FRt; omega)]; repeat (first | rw [up_n (by omega)])) (by rw [hf9 143 _ (by unfold FRt; omega)]; (repeat (first | rw [up_s] | rw [up_n (by omega)])); try omega) (fun d z => by rw [hf9 143 d (by unfold FRt; omega)]; repeat (first | rw [up_n (by omega)])) (by rw [hf9 _ _ (by unfold FRt; omega)]; (repeat (first | rw [up_s] | rw [up_n (by omega)])); try omega) (by rw [hf9 _ _ (by unfold FRt; omega)]; (repeat (first | rw [up_s] | rw [up_n (by omega)])); try omega) ?_ ?_ ?_) hq9 (fun a j z9 => by unfold FEs at z9; rw [hf9 a j (by unfold FRt; omega)]; repeat (first | rw [up_n (by omega)]))
                         · rw [hf9 _ _ (by unfold FRt; omega)]; (repeat (first | rw [up_n (by omega)])); exact w50
                         · rw [hf9 _ _ (by unfold FRt; omega)]; (repeat (first | rw [up_s] | rw [up_n (by omega)]))
                         · rw [hf9 _ _ (by unfold FRt; omega)]; (repeat (first | rw [up_s] | rw [up_n (by omega)])))
                      | (have ht : 10 ≤ kT tx n9 i ∧ kT tx n9 i ≤ 16 := by omega
                         refine hS (sx_up (sx_up (sx_up (sx_up (sx_up s p 14 (s p 14 + 1)) (p + 11) (s 32 14) (kT tx n9 i)) (p + 12) (s 32 14) (0)) 32 14 (s 32 14 + 1)) 32 13 0) _ (Or.inr (Or.inl ⟨ht.1, ht.2, by omega, rfl⟩)) (eC_leaf (s := s) (r := σ) (c := kT tx n9 i) (v := 0) (k := 1) (a := fPn (kT tx n9 i)) hp hk hc0 (Or.inr ht) (Or.inr ⟨by omega, rfl, rfl⟩) (by rw [up_n (by omega), up_n (by omega), up_n (by omega), up_n (by omega), up_n (by omega)]) (funext fun j => by rw [up_n (by omega), up_n (by omega), up_n (by omega), up_n (by omega), up_n (by omega)]) up_s (by rw [up_n (by omega), up_s]) (fun j => by
                            rw [up_n (by omega), up_n (by omega), up_n (by omega)]
                            by_cases e9 : j = s 32 14
                            · rw [if_pos e9, e9, up_s]
                            · rw [if_neg e9, up_n (by omega), up_n (by omega)]) (fun j => by
                            rw [up_n (by omega), up_n (by omega)]
                            by_cases e9 : j = s 32 14
                            · rw [if_pos e9, e9, up_s]
                            · rw [if_neg e9, up_n (by omega), up_n (by omega), up_n (by omega)]) (by rw [hf9 139 _ (by unfold FRt; omega)]; (repeat (first | rw [up_s] | rw [up_n (by omega)])); try omega) (by rw [hf9 140 _ (by unfold FRt; omega)]; (repeat (first | rw [up_s] | rw [up_n (by omega)])); try omega) (fun x j z => by rw [hf9 x j (by unfold FRt; omega)]; repeat (first | rw [up_n (by omega)])) (by rw [hf9 143 _ (by unfold FRt; omega)]; (repeat (first | rw [up_s] | rw [up_n (by omega)])); try omega) (fun d z => by rw [hf9 143 d (by unfold FRt; omega)]; repeat (first | rw [up_n (by omega)])) (by rw [hf9 _ _ (by unfold FRt; omega)]; (repeat (first | rw [up_s] | rw [up_n (by omega)])); try omega) (by rw [hf9 _ _ (by unfold FRt; omega)]; (repeat (first | rw [up_s] | rw [up_n (by omega)])); try omega) ?_ ?_ ?_) hq9 (fun a j z9 => by unfold FEs at z9; rw [hf9 a j (by unfold FRt; omega)]; repeat (first | rw [up_n (by omega)]))
                         · rw [hf9 _ _ (by unfold FRt; omega)]; (repeat (first | rw [up_n (by omega)])); exact w50
                         · rw [hf9 _ _ (by unfold FRt; omega)]; (repeat (first | rw [up_s] | rw [up_n (by omega)]))
                         · rw [hf9 _ _ (by unfold FRt; omega)]; (repeat (first | rw [up_s] | rw [up_n (by omega)])))
                · exact absurd g (by simp [sx_cc])
              · have hty : kT tx n9 i = 21 ∨ (10 ≤ kT tx n9 i ∧ kT tx n9 i ≤ 16) := by omega
                conv => whnf
                refine ⟨fun g => ?_, fun g => ?_⟩
                · exact absurd g (by simp [sx_cc])
                · skip
                  conv => whnf
                  refine ⟨fun q9 => by first | (simp at q9; done) | omega, ?_⟩
                  rcases hty with ht | ht
                  · exact hF _ _ (Or.inl ⟨ht, by omega, rfl⟩) (fun a j z9 => by unfold FEq at z9; rw [up_n (by omega), up_n (by omega)]) ⟨by rw [up_n (by omega), up_s], by rw [up_s, ha]⟩
                  · exact hF _ _ (Or.inr (Or.inl ⟨ht.1, ht.2, by omega, rfl⟩)) (fun a j z9 => by unfold FEq at z9; rw [up_n (by omega), up_n (by omega)]) ⟨by rw [up_n (by omega), up_s], by rw [up_s, ha]⟩
            · simp only [sx_cc, Classical.not_not] at g
              conv => whnf
              refine ⟨(by first | assumption | rfl), ?_⟩
              try simp (disch := omega) only [Int.cast_ofNat_Int, up_s, up_a, up_i, mp_a, mp_ge]
              try simp only [w50]
              try simp only [w51]
              try simp only [w48]
              try simp only [w22]
              try simp only [w49]
              try simp only [ern]
              conv => whnf
              refine ⟨fun g => ?_, fun g => ?_⟩
              · simp only [sx_cc, Classical.not_not] at g
                conv => whnf
                refine ⟨Nat.le_of_ble_eq_true rfl, Nat.le_of_ble_eq_true rfl, (by first | assumption | rfl), ?_⟩
                refine r_cnt w51 z2 (fun hk9 => ?_) (fun hk9 => ?_)
                · have hty : kT tx n9 i = 21 ∨ (10 ≤ kT tx n9 i ∧ kT tx n9 i ≤ 16) := by omega
                  conv => whnf
                  refine ⟨fun g => ?_, fun g => ?_⟩
                  · skip
                    conv => whnf
                    refine ⟨fun g => ?_, fun g => ?_⟩
                    · simp only [sx_cc, Classical.not_not] at g
                      conv => whnf
                      refine ⟨fun g => ?_, fun g => ?_⟩
                      · simp only [sx_cc, Classical.not_not] at g
                        conv => whnf
                        refine ⟨(by first | assumption | rfl), ?_⟩
                        try simp (disch := omega) only [Int.cast_ofNat_Int, up_s, up_a, up_i, mp_a, mp_ge]
                        try simp only [w50]
                        try simp only [w51]
                        try simp only [w48]
                        try simp only [w22]
                        try simp only [w49]
                        try simp only [ern]
                        conv => whnf
                        refine ⟨Nat.le_of_ble_eq_true rfl, Nat.le_of_ble_eq_true rfl, (by first | assumption | rfl), ?_⟩
                        refine r_grown (rQ_up hq (by unfold FRd; omega)) (w := s 32 14) (d := dpF (s (p + 11)) lo (s 32 14)) (by rw [up_n (by omega)]; exact w22) (by rw [up_n (by omega)]; exact w49) (by omega) (by omega) ?_
                        conv => whnf
                        refine ⟨(by first | assumption | rfl), by omega, ?_⟩
                        try simp (disch := omega) only [Int.cast_ofNat_Int, up_s, up_a, up_i, mp_a, mp_ge]
                        try simp only [w50]
                        try simp only [w51]
                        try simp only [w48]
                        try simp only [w22]
                        try simp only [w49]
                        try simp only [ern]
                        conv => whnf
                        refine ⟨Nat.le_of_ble_eq_true rfl, Nat.le_of_ble_eq_true rfl, (by first | assumption | rfl), ?_⟩
                        refine r_tok (tx := tx) (n9 := n9) (i := i) (by repeat (first | exact hq | refine rQ_up ?_ (by unfold FRd; omega))) (fun σ9 hf9 hq9 => ?_)
                        conv => whnf
                        refine ⟨fun q9 => by first | (simp at q9; done) | omega, ?_⟩
                        first
                        | (have ht : kT tx n9 i = 21 := by omega
                           have hkv := (pKz_21 hkz).2.2.2.2 ((pKz_21 hkz).1.mpr ht)
                           have ev9 : σ 124 9 = kV tx n9 i := by omega
                           refine hS (sx_up (sx_up (sx_up (sx_up (sx_up s p 14 (s p 14 + 1)) (p + 11) (s 32 14) (21)) (p + 12) (s 32 14) (kV tx n9 i)) 32 14 (s 32 14 + 1)) 32 13 0) _ (Or.inl ⟨ht, by omega, by omega, rfl⟩) (eC_leaf (s := s) (r := σ) (c := 21) (v := kV tx n9 i) (k := 0) (a := σ 124 9) hp hk hc0 (Or.inl rfl) (Or.inl ⟨rfl, rfl, ev9⟩) (by rw [up_n (by omega), up_n (by omega), up_n (by omega), up_n (by omega), up_n (by omega)]) (funext fun j => by rw [up_n (by omega), up_n (by omega), up_n (by omega), up_n (by omega), up_n (by omega)]) up_s (by rw [up_n (by omega), up_s]) (fun j => by
                              rw [up_n (by omega), up_n (by omega), up_n (by omega)]
                              by_cases e9 : j = s 32 14
                              · rw [if_pos e9, e9, up_s]
                              · rw [if_neg e9, up_n (by omega), up_n (by omega)]) (fun j => by
                              rw [up_n (by omega), up_n (by omega)]
                              by_cases e9 : j = s 32 14
                              · rw [if_pos e9, e9, up_s]
                              · rw [if_neg e9, up_n (by omega), up_n (by omega), up_n (by omega)]) (by rw [hf9 139 _ (by unfold FRt; omega)]; (repeat (first | rw [up_s] | rw [up_n (by omega)])); try omega) (by rw [hf9 140 _ (by unfold FRt; omega)]; (repeat (first | rw [up_s] | rw [up_n (by omega)])); try omega) (fun x j z => by rw [hf9 x j (by unfold FRt; omega)]; repeat (first | rw [up_n (by omega)])) (by rw [hf9 143 _ (by unfold FRt; omega)]; (repeat (first | rw [up_s] | rw [up_n (by omega)])); try omega) (fun d z => by rw [hf9 143 d (by unfold FRt; omega)]; repeat (first | rw [up_n (by omega)])) (by rw [hf9 _ _ (by unfold FRt; omega)]; (repeat (first | rw [up_s] | rw [up_n (by omega)])); try omega) (by rw [hf9 _ _ (by unfold FRt; omega)]; (repeat (first | rw [up_s] | rw [up_n (by omega)])); try omega) ?_ ?_ ?_) hq9 (fun a j z9 => by unfold FEs at z9; rw [hf9 a j (by unfold FRt; omega)]; repeat (first | rw [up_n (by omega)]))
                           · rw [hf9 _ _ (by unfold FRt; omega)]; (repeat (first | rw [up_n (by omega)])); exact w50
                           · rw [hf9 _ _ (by unfold FRt; omega)]; (repeat (first | rw [up_s] | rw [up_n (by omega)]))
                           · rw [hf9 _ _ (by unfold FRt; omega)]; (repeat (first | rw [up_s] | rw [up_n (by omega)])))
                        | (have ht : 10 ≤ kT tx n9 i ∧ kT tx n9 i ≤ 16 := by omega
                           refine hS (sx_up (sx_up (sx_up (sx_up (sx_up s p 14 (s p 14 + 1)) (p + 11) (s 32 14) (kT tx n9 i)) (p + 12) (s 32 14) (0)) 32 14 (s 32 14 + 1)) 32 13 0) _ (Or.inr (Or.inl ⟨ht.1, ht.2, by omega, rfl⟩)) (eC_leaf (s := s) (r := σ) (c := kT tx n9 i) (v := 0) (k := 1) (a := fPn (kT tx n9 i)) hp hk hc0 (Or.inr ht) (Or.inr ⟨by omega, rfl, rfl⟩) (by rw [up_n (by omega), up_n (by omega), up_n (by omega), up_n (by omega), up_n (by omega)]) (funext fun j => by rw [up_n (by omega), up_n (by omega), up_n (by omega), up_n (by omega), up_n (by omega)]) up_s (by rw [up_n (by omega), up_s]) (fun j => by
                              rw [up_n (by omega), up_n (by omega), up_n (by omega)]
                              by_cases e9 : j = s 32 14
                              · rw [if_pos e9, e9, up_s]
                              · rw [if_neg e9, up_n (by omega), up_n (by omega)]) (fun j => by
                              rw [up_n (by omega), up_n (by omega)]
                              by_cases e9 : j = s 32 14
                              · rw [if_pos e9, e9, up_s]
                              · rw [if_neg e9, up_n (by omega), up_n (by omega), up_n (by omega)]) (by rw [hf9 139 _ (by unfold FRt; omega)]; (repeat (first | rw [up_s] | rw [up_n (by omega)])); try omega) (by rw [hf9 140 _ (by unfold FRt; omega)]; (repeat (first | rw [up_s] | rw [up_n (by omega)])); try omega) (fun x j z => by rw [hf9 x j (by unfold FRt; omega)]; repeat (first | rw [up_n (by omega)])) (by rw [hf9 143 _ (by unfold FRt; omega)]; (repeat (first | rw [up_s] | rw [up_n (by omega)])); try omega) (fun d z => by rw [hf9 143 d (by unfold FRt; omega)]; repeat (first | rw [up_n (by omega)])) (by rw [hf9 _ _ (by unfold FRt; omega)]; (repeat (first | rw [up_s] | rw [up_n (by omega)])); try omega) (by rw [hf9 _ _ (by unfold FRt; omega)]; (repeat (first | rw [up_s] | rw [up_n (by omega)])); try omega) ?_ ?_ ?_) hq9 (fun a j z9 => by unfold FEs at z9; rw [hf9 a j (by unfold FRt; omega)]; repeat (first | rw [up_n (by omega)]))
                           · rw [hf9 _ _ (by unfold FRt; omega)]; (repeat (first | rw [up_n (by omega)])); exact w50
                           · rw [hf9 _ _ (by unfold FRt; omega)]; (repeat (first | rw [up_s] | rw [up_n (by omega)]))
                           · rw [hf9 _ _ (by unfold FRt; omega)]; (repeat (first | rw [up_s] | rw [up_n (by omega)])))
                      · simp only [sx_cc, Classical.not_not] at g
                        conv => whnf
                        refine ⟨Nat.le_of_ble_eq_true rfl, Nat.le_of_ble_eq_true rfl, (by first | assumption | rfl), ?_⟩
                        refine r_grown (rQ_up hq (by unfold FRd; omega)) (w := s 32 14) (d := dpF (s (p + 11)) lo (s 32 14)) (by rw [up_n (by omega)]; exact w22) (by rw [up_n (by omega)]; exact w49) (by omega) (by omega) ?_
                        conv => whnf
                        refine ⟨(by first | assumption | rfl), by omega, ?_⟩
                        try simp (disch := omega) only [Int.cast_ofNat_Int, up_s, up_a, up_i, mp_a, mp_ge]
                        try simp only [w50]
                        try simp only [w51]
                        try simp only [w48]
                        try simp only [w22]
                        try simp only [w49]
                        try simp only [ern]
                        conv => whnf
                        refine ⟨Nat.le_of_ble_eq_true rfl, Nat.le_of_ble_eq_true rfl, (by first | assumption | rfl), ?_⟩
                        refine r_tok (tx := tx) (n9 := n9) (i := i) (by repeat (first | exact hq | refine rQ_up ?_ (by unfold FRd; omega))) (fun σ9 hf9 hq9 => ?_)
                        conv => whnf
                        refine ⟨fun q9 => by first | (simp at q9; done) | omega, ?_⟩
                        first
                        | (have ht : kT tx n9 i = 21 := by omega
                           have hkv := (pKz_21 hkz).2.2.2.2 ((pKz_21 hkz).1.mpr ht)
                           have ev9 : σ 124 9 = kV tx n9 i := by omega
                           refine hS (sx_up (sx_up (sx_up (sx_up (sx_up s p 14 (s p 14 + 1)) (p + 11) (s 32 14) (21)) (p + 12) (s 32 14) (kV tx n9 i)) 32 14 (s 32 14 + 1)) 32 13 0) _ (Or.inl ⟨ht, by omega, by omega, rfl⟩) (eC_leaf (s := s) (r := σ) (c := 21) (v := kV tx n9 i) (k := 0) (a := σ 124 9) hp hk hc0 (Or.inl rfl) (Or.inl ⟨rfl, rfl, ev9⟩) (by rw [up_n (by omega), up_n (by omega), up_n (by omega), up_n (by omega), up_n (by omega)]) (funext fun j => by rw [up_n (by omega), up_n (by omega), up_n (by omega), up_n (by omega), up_n (by omega)]) up_s (by rw [up_n (by omega), up_s]) (fun j => by
                              rw [up_n (by omega), up_n (by omega), up_n (by omega)]
                              by_cases e9 : j = s 32 14
                              · rw [if_pos e9, e9, up_s]
                              · rw [if_neg e9, up_n (by omega), up_n (by omega)]) (fun j => by
                              rw [up_n (by omega), up_n (by omega)]
                              by_cases e9 : j = s 32 14
                              · rw [if_pos e9, e9, up_s]
                              · rw [if_neg e9, up_n (by omega), up_n (by omega), up_n (by omega)]) (by rw [hf9 139 _ (by unfold FRt; omega)]; (repeat (first | rw [up_s] | rw [up_n (by omega)])); try omega) (by rw [hf9 140 _ (by unfold FRt; omega)]; (repeat (first | rw [up_s] | rw [up_n (by omega)])); try omega) (fun x j z => by rw [hf9 x j (by unfold FRt; omega)]; repeat (first | rw [up_n (by omega)])) (by rw [hf9 143 _ (by unfold FRt; omega)]; (repeat (first | rw [up_s] | rw [up_n (by omega)])); try omega) (fun d z => by rw [hf9 143 d (by unfold FRt; omega)]; repeat (first | rw [up_n (by omega)])) (by rw [hf9 _ _ (by unfold FRt; omega)]; (repeat (first | rw [up_s] | rw [up_n (by omega)])); try omega) (by rw [hf9 _ _ (by unfold FRt; omega)]; (repeat (first | rw [up_s] | rw [up_n (by omega)])); try omega) ?_ ?_ ?_) hq9 (fun a j z9 => by unfold FEs at z9; rw [hf9 a j (by unfold FRt; omega)]; repeat (first | rw [up_n (by omega)]))
                           · rw [hf9 _ _ (by unfold FRt; omega)]; (repeat (first | rw [up_n (by omega)])); exact w50
                           · rw [hf9 _ _ (by unfold FRt; omega)]; (repeat (first | rw [up_s] | rw [up_n (by omega)]))
                           · rw [hf9 _ _ (by unfold FRt; omega)]; (repeat (first | rw [up_s] | rw [up_n (by omega)])))
                        | (have ht : 10 ≤ kT tx n9 i ∧ kT tx n9 i ≤ 16 := by omega
                           refine hS (sx_up (sx_up (sx_up (sx_up (sx_up s p 14 (s p 14 + 1)) (p + 11) (s 32 14) (kT tx n9 i)) (p + 12) (s 32 14) (0)) 32 14 (s 32 14 + 1)) 32 13 0) _ (Or.inr (Or.inl ⟨ht.1, ht.2, by omega, rfl⟩)) (eC_leaf (s := s) (r := σ) (c := kT tx n9 i) (v := 0) (k := 1) (a := fPn (kT tx n9 i)) hp hk hc0 (Or.inr ht) (Or.inr ⟨by omega, rfl, rfl⟩) (by rw [up_n (by omega), up_n (by omega), up_n (by omega), up_n (by omega), up_n (by omega)]) (funext fun j => by rw [up_n (by omega), up_n (by omega), up_n (by omega), up_n (by omega), up_n (by omega)]) up_s (by rw [up_n (by omega), up_s]) (fun j => by
                              rw [up_n (by omega), up_n (by omega), up_n (by omega)]
                              by_cases e9 : j = s 32 14
                              · rw [if_pos e9, e9, up_s]
                              · rw [if_neg e9, up_n (by omega), up_n (by omega)]) (fun j => by
                              rw [up_n (by omega), up_n (by omega)]
                              by_cases e9 : j = s 32 14
                              · rw [if_pos e9, e9, up_s]
                              · rw [if_neg e9, up_n (by omega), up_n (by omega), up_n (by omega)]) (by rw [hf9 139 _ (by unfold FRt; omega)]; (repeat (first | rw [up_s] | rw [up_n (by omega)])); try omega) (by rw [hf9 140 _ (by unfold FRt; omega)]; (repeat (first | rw [up_s] | rw [up_n (by omega)])); try omega) (fun x j z => by rw [hf9 x j (by unfold FRt; omega)]; repeat (first | rw [up_n (by omega)])) (by rw [hf9 143 _ (by unfold FRt; omega)]; (repeat (first | rw [up_s] | rw [up_n (by omega)])); try omega) (fun d z => by rw [hf9 143 d (by unfold FRt; omega)]; repeat (first | rw [up_n (by omega)])) (by rw [hf9 _ _ (by unfold FRt; omega)]; (repeat (first | rw [up_s] | rw [up_n (by omega)])); try omega) (by rw [hf9 _ _ (by unfold FRt; omega)]; (repeat (first | rw [up_s] | rw [up_n (by omega)])); try omega) ?_ ?_ ?_) hq9 (fun a j z9 => by unfold FEs at z9; rw [hf9 a j (by unfold FRt; omega)]; repeat (first | rw [up_n (by omega)]))
                           · rw [hf9 _ _ (by unfold FRt; omega)]; (repeat (first | rw [up_n (by omega)])); exact w50
                           · rw [hf9 _ _ (by unfold FRt; omega)]; (repeat (first | rw [up_s] | rw [up_n (by omega)]))
                           · rw [hf9 _ _ (by unfold FRt; omega)]; (repeat (first | rw [up_s] | rw [up_n (by omega)])))
                    · simp only [sx_cc, Classical.not_not] at g
                      conv => whnf
                      refine ⟨fun g => ?_, fun g => ?_⟩
                      · simp only [sx_cc, Classical.not_not] at g
                        conv => whnf
                        refine ⟨(by first | assumption | rfl), ?_⟩
                        try simp (disch := omega) only [Int.cast_ofNat_Int, up_s, up_a, up_i, mp_a, mp_ge]
                        try simp only [w50]
                        try simp only [w51]
                        try simp only [w48]
                        try simp only [w22]
                        try simp only [w49]
                        try simp only [ern]
                        conv => whnf
                        refine ⟨Nat.le_of_ble_eq_true rfl, Nat.le_of_ble_eq_true rfl, (by first | assumption | rfl), ?_⟩
                        refine r_grown (rQ_up hq (by unfold FRd; omega)) (w := s 32 14) (d := dpF (s (p + 11)) lo (s 32 14)) (by rw [up_n (by omega)]; exact w22) (by rw [up_n (by omega)]; exact w49) (by omega) (by omega) ?_
                        conv => whnf
                        refine ⟨(by first | assumption | rfl), by omega, ?_⟩
                        try simp (disch := omega) only [Int.cast_ofNat_Int, up_s, up_a, up_i, mp_a, mp_ge]
                        try simp only [w50]
                        try simp only [w51]
                        try simp only [w48]
                        try simp only [w22]
                        try simp only [w49]
                        try simp only [ern]
                        conv => whnf
                        refine ⟨Nat.le_of_ble_eq_true rfl, Nat.le_of_ble_eq_true rfl, (by first | assumption | rfl), ?_⟩
                        refine r_tok (tx := tx) (n9 := n9) (i := i) (by repeat (first | exact hq | refine rQ_up ?_ (by unfold FRd; omega))) (fun σ9 hf9 hq9 => ?_)
                        conv => whnf
                        refine ⟨fun q9 => by first | (simp at q9; done) | omega, ?_⟩
                        first
                        | (have ht : kT tx n9 i = 21 := by omega
                           have hkv := (pKz_21 hkz).2.2.2.2 ((pKz_21 hkz).1.mpr ht)
                           have ev9 : σ 124 9 = kV tx n9 i := by omega
                           refine hS (sx_up (sx_up (sx_up (sx_up (sx_up s p 14 (s p 14 + 1)) (p + 11) (s 32 14) (21)) (p + 12) (s 32 14) (kV tx n9 i)) 32 14 (s 32 14 + 1)) 32 13 0) _ (Or.inl ⟨ht, by omega, by omega, rfl⟩) (eC_leaf (s := s) (r := σ) (c := 21) (v := kV tx n9 i) (k := 0) (a := σ 124 9) hp hk hc0 (Or.inl rfl) (Or.inl ⟨rfl, rfl, ev9⟩) (by rw [up_n (by omega), up_n (by omega), up_n (by omega), up_n (by omega), up_n (by omega)]) (funext fun j => by rw [up_n (by omega), up_n (by omega), up_n (by omega), up_n (by omega), up_n (by omega)]) up_s (by rw [up_n (by omega), up_s]) (fun j => by
                              rw [up_n (by omega), up_n (by omega), up_n (by omega)]
                              by_cases e9 : j = s 32 14
                              · rw [if_pos e9, e9, up_s]
                              · rw [if_neg e9, up_n (by omega), up_n (by omega)]) (fun j => by
                              rw [up_n (by omega), up_n (by omega)]
                              by_cases e9 : j = s 32 14
                              · rw [if_pos e9, e9, up_s]
                              · rw [if_neg e9, up_n (by omega), up_n (by omega), up_n (by omega)]) (by rw [hf9 139 _ (by unfold FRt; omega)]; (repeat (first | rw [up_s] | rw [up_n (by omega)])); try omega) (by rw [hf9 140 _ (by unfold FRt; omega)]; (repeat (first | rw [up_s] | rw [up_n (by omega)])); try omega) (fun x j z => by rw [hf9 x j (by unfold FRt; omega)]; repeat (first | rw [up_n (by omega)])) (by rw [hf9 143 _ (by unfold FRt; omega)]; (repeat (first | rw [up_s] | rw [up_n (by omega)])); try omega) (fun d z => by rw [hf9 143 d (by unfold FRt; omega)]; repeat (first | rw [up_n (by omega)])) (by rw [hf9 _ _ (by unfold FRt; omega)]; (repeat (first | rw [up_s] | rw [up_n (by omega)])); try omega) (by rw [hf9 _ _ (by unfold FRt; omega)]; (repeat (first | rw [up_s] | rw [up_n (by omega)])); try omega) ?_ ?_ ?_) hq9 (fun a j z9 => by unfold FEs at z9; rw [hf9 a j (by unfold FRt; omega)]; repeat (first | rw [up_n (by omega)]))
                           · rw [hf9 _ _ (by unfold FRt; omega)]; (repeat (first | rw [up_n (by omega)])); exact w50
                           · rw [hf9 _ _ (by unfold FRt; omega)]; (repeat (first | rw [up_s] | rw [up_n (by omega)]))
                           · rw [hf9 _ _ (by unfold FRt; omega)]; (repeat (first | rw [up_s] | rw [up_n (by omega)])))
                        | (have ht : 10 ≤ kT tx n9 i ∧ kT tx n9 i ≤ 16 := by omega
                           refine hS (sx_up (sx_up (sx_up (sx_up (sx_up s p 14 (s p 14 + 1)) (p + 11) (s 32 14) (kT tx n9 i)) (p + 12) (s 32 14) (0)) 32 14 (s 32 14 + 1)) 32 13 0) _ (Or.inr (Or.inl ⟨ht.1, ht.2, by omega, rfl⟩)) (eC_leaf (s := s) (r := σ) (c := kT tx n9 i) (v := 0) (k := 1) (a := fPn (kT tx n9 i)) hp hk hc0 (Or.inr ht) (Or.inr ⟨by omega, rfl, rfl⟩) (by rw [up_n (by omega), up_n (by omega), up_n (by omega), up_n (by omega), up_n (by omega)]) (funext fun j => by rw [up_n (by omega), up_n (by omega), up_n (by omega), up_n (by omega), up_n (by omega)]) up_s (by rw [up_n (by omega), up_s]) (fun j => by
                              rw [up_n (by omega), up_n (by omega), up_n (by omega)]
                              by_cases e9 : j = s 32 14
                              · rw [if_pos e9, e9, up_s]
                              · rw [if_neg e9, up_n (by omega), up_n (by omega)]) (fun j => by
                              rw [up_n (by omega), up_n (by omega)]
                              by_cases e9 : j = s 32 14
                              · rw [if_pos e9, e9, up_s]
                              · rw [if_neg e9, up_n (by omega), up_n (by omega), up_n (by omega)]) (by rw [hf9 139 _ (by unfold FRt; omega)]; (repeat (first | rw [up_s] | rw [up_n (by omega)])); try omega) (by rw [hf9 140 _ (by unfold FRt; omega)]; (repeat (first | rw [up_s] | rw [up_n (by omega)])); try omega) (fun x j z => by rw [hf9 x j (by unfold FRt; omega)]; repeat (first | rw [up_n (by omega)])) (by rw [hf9 143 _ (by unfold FRt; omega)]; (repeat (first | rw [up_s] | rw [up_n (by omega)])); try omega) (fun d z => by rw [hf9 143 d (by unfold FRt; omega)]; repeat (first | rw [up_n (by omega)])) (by rw [hf9 _ _ (by unfold FRt; omega)]; (repeat (first | rw [up_s] | rw [up_n (by omega)])); try omega) (by rw [hf9 _ _ (by unfold FRt; omega)]; (repeat (first | rw [up_s] | rw [up_n (by omega)])); try omega) ?_ ?_ ?_) hq9 (fun a j z9 => by unfold FEs at z9; rw [hf9 a j (by unfold FRt; omega)]; repeat (first | rw [up_n (by omega)]))
                           · rw [hf9 _ _ (by unfold FRt; omega)]; (repeat (first | rw [up_n (by omega)])); exact w50
                           · rw [hf9 _ _ (by unfold FRt; omega)]; (repeat (first | rw [up_s] | rw [up_n (by omega)]))
                           · rw [hf9 _ _ (by unfold FRt; omega)]; (repeat (first | rw [up_s] | rw [up_n (by omega)])))
                      · simp only [sx_cc, Classical.not_not] at g
                        conv => whnf
                        refine ⟨Nat.le_of_ble_eq_true rfl, Nat.le_of_ble_eq_true rfl, (by first | assumption | rfl), ?_⟩
                        refine r_grown (rQ_up hq (by unfold FRd; omega)) (w := s 32 14) (d := dpF (s (p + 11)) lo (s 32 14)) (by rw [up_n (by omega)]; exact w22) (by rw [up_n (by omega)]; exact w49) (by omega) (by omega) ?_
                        conv => whnf
                        refine ⟨(by first | assumption | rfl), by omega, ?_⟩
                        try simp (disch := omega) only [Int.cast_ofNat_Int, up_s, up_a, up_i, mp_a, mp_ge]
                        try simp only [w50]
                        try simp only [w51]
                        try simp only [w48]
                        try simp only [w22]
                        try simp only [w49]
                        try simp only [ern]
                        conv => whnf
                        refine ⟨Nat.le_of_ble_eq_true rfl, Nat.le_of_ble_eq_true rfl, (by first | assumption | rfl), ?_⟩
                        refine r_tok (tx := tx) (n9 := n9) (i := i) (by repeat (first | exact hq | refine rQ_up ?_ (by unfold FRd; omega))) (fun σ9 hf9 hq9 => ?_)
                        conv => whnf
                        refine ⟨fun q9 => by first | (simp at q9; done) | omega, ?_⟩
                        first
                        | (have ht : kT tx n9 i = 21 := by omega
                           have hkv := (pKz_21 hkz).2.2.2.2 ((pKz_21 hkz).1.mpr ht)
                           have ev9 : σ 124 9 = kV tx n9 i := by omega
                           refine hS (sx_up (sx_up (sx_up (sx_up (sx_up s p 14 (s p 14 + 1)) (p + 11) (s 32 14) (21)) (p + 12) (s 32 14) (kV tx n9 i)) 32 14 (s 32 14 + 1)) 32 13 0) _ (Or.inl ⟨ht, by omega, by omega, rfl⟩) (eC_leaf (s := s) (r := σ) (c := 21) (v := kV tx n9 i) (k := 0) (a := σ 124 9) hp hk hc0 (Or.inl rfl) (Or.inl ⟨rfl, rfl, ev9⟩) (by rw [up_n (by omega), up_n (by omega), up_n (by omega), up_n (by omega), up_n (by omega)]) (funext fun j => by rw [up_n (by omega), up_n (by omega), up_n (by omega), up_n (by omega), up_n (by omega)]) up_s (by rw [up_n (by omega), up_s]) (fun j => by
                              rw [up_n (by omega), up_n (by omega), up_n (by omega)]
                              by_cases e9 : j = s 32 14
                              · rw [if_pos e9, e9, up_s]
                              · rw [if_neg e9, up_n (by omega), up_n (by omega)]) (fun j => by
                              rw [up_n (by omega), up_n (by omega)]
                              by_cases e9 : j = s 32 14
                              · rw [if_pos e9, e9, up_s]
                              · rw [if_neg e9, up_n (by omega), up_n (by omega), up_n (by omega)]) (by rw [hf9 139 _ (by unfold FRt; omega)]; (repeat (first | rw [up_s] | rw [up_n (by omega)])); try omega) (by rw [hf9 140 _ (by unfold FRt; omega)]; (repeat (first | rw [up_s] | rw [up_n (by omega)])); try omega) (fun x j z => by rw [hf9 x j (by unfold FRt; omega)]; repeat (first | rw [up_n (by omega)])) (by rw [hf9 143 _ (by unfold FRt; omega)]; (repeat (first | rw [up_s] | rw [up_n (by omega)])); try omega) (fun d z => by rw [hf9 143 d (by unfold FRt; omega)]; repeat (first | rw [up_n (by omega)])) (by rw [hf9 _ _ (by unfold FRt; omega)]; (repeat (first | rw [up_s] | rw [up_n (by omega)])); try omega) (by rw [hf9 _ _ (by unfold FRt; omega)]; (repeat (first | rw [up_s] | rw [up_n (by omega)])); try omega) ?_ ?_ ?_) hq9 (fun a j z9 => by unfold FEs at z9; rw [hf9 a j (by unfold FRt; omega)]; repeat (first | rw [up_n (by omega)]))
                           · rw [hf9 _ _ (by unfold FRt; omega)]; (repeat (first | rw [up_n (by omega)])); exact w50
                           · rw [hf9 _ _ (by unfold FRt; omega)]; (repeat (first | rw [up_s] | rw [up_n (by omega)]))
                           · rw [hf9 _ _ (by unfold FRt; omega)]; (repeat (first | rw [up_s] | rw [up_n (by omega)])))
                        | (have ht : 10 ≤ kT tx n9 i ∧ kT tx n9 i ≤ 16 := by omega
                           refine hS (sx_up (sx_up (sx_up (sx_up (sx_up s p 14 (s p 14 + 1)) (p + 11) (s 32 14) (kT tx n9 i)) (p + 12) (s 32 14) (0)) 32 14 (s 32 14 + 1)) 32 13 0) _ (Or.inr (Or.inl ⟨ht.1, ht.2, by omega, rfl⟩)) (eC_leaf (s := s) (r := σ) (c := kT tx n9 i) (v := 0) (k := 1) (a := fPn (kT tx n9 i)) hp hk hc0 (Or.inr ht) (Or.inr ⟨by omega, rfl, rfl⟩) (by rw [up_n (by omega), up_n (by omega), up_n (by omega), up_n (by omega), up_n (by omega)]) (funext fun j => by rw [up_n (by omega), up_n (by omega), up_n (by omega), up_n (by omega), up_n (by omega)]) up_s (by rw [up_n (by omega), up_s]) (fun j => by
                              rw [up_n (by omega), up_n (by omega), up_n (by omega)]
                              by_cases e9 : j = s 32 14
                              · rw [if_pos e9, e9, up_s]
                              · rw [if_neg e9, up_n (by omega), up_n (by omega)]) (fun j => by
                              rw [up_n (by omega), up_n (by omega)]
                              by_cases e9 : j = s 32 14
                              · rw [if_pos e9, e9, up_s]
                              · rw [if_neg e9, up_n (by omega), up_n (by omega), up_n (by omega)]) (by rw [hf9 139 _ (by unfold FRt; omega)]; (repeat (first | rw [up_s] | rw [up_n (by omega)])); try omega) (by rw [hf9 140 _ (by unfold FRt; omega)]; (repeat (first | rw [up_s] | rw [up_n (by omega)])); try omega) (fun x j z => by rw [hf9 x j (by unfold FRt; omega)]; repeat (first | rw [up_n (by omega)])) (by rw [hf9 143 _ (by unfold FRt; omega)]; (repeat (first | rw [up_s] | rw [up_n (by omega)])); try omega) (fun d z => by rw [hf9 143 d (by unfold FRt; omega)]; repeat (first | rw [up_n (by omega)])) (by rw [hf9 _ _ (by unfold FRt; omega)]; (repeat (first | rw [up_s] | rw [up_n (by omega)])); try omega) (by rw [hf9 _ _ (by unfold FRt; omega)]; (repeat (first | rw [up_s] | rw [up_n (by omega)])); try omega) ?_ ?_ ?_) hq9 (fun a j z9 => by unfold FEs at z9; rw [hf9 a j (by unfold FRt; omega)]; repeat (first | rw [up_n (by omega)]))
                           · rw [hf9 _ _ (by unfold FRt; omega)]; (repeat (first | rw [up_n (by omega)])); exact w50
                           · rw [hf9 _ _ (by unfold FRt; omega)]; (repeat (first | rw [up_s] | rw [up_n (by omega)]))
                           · rw [hf9 _ _ (by unfold FRt; omega)]; (repeat (first | rw [up_s] | rw [up_n (by omega)])))
                  · exact absurd g (by simp [sx_cc])
                · have hty : kT tx n9 i = 21 ∨ (10 ≤ kT tx n9 i ∧ kT tx n9 i ≤ 16) := by omega
                  conv => whnf
                  refine ⟨fun g => ?_, fun g => ?_⟩
                  · exact absurd g (by simp [sx_cc])
                  · skip
                    conv => whnf
                    refine ⟨fun q9 => by first | (simp at q9; done) | omega, ?_⟩
                    rcases hty with ht | ht
                    · exact hF _ _ (Or.inl ⟨ht, by omega, rfl⟩) (fun a j z9 => by unfold FEq at z9; rw [up_n (by omega), up_n (by omega)]) ⟨by rw [up_n (by omega), up_s], by rw [up_s, ha]⟩
                    · exact hF _ _ (Or.inr (Or.inl ⟨ht.1, ht.2, by omega, rfl⟩)) (fun a j z9 => by unfold FEq at z9; rw [up_n (by omega), up_n (by omega)]) ⟨by rw [up_n (by omega), up_s], by rw [up_s, ha]⟩
              · simp only [sx_cc, Classical.not_not] at g
                conv => whnf
                refine ⟨Nat.le_of_ble_eq_true rfl, Nat.le_of_ble_eq_true rfl, (by first | assumption | rfl), ?_⟩
                refine r_wrong ?_
                conv => whnf
                refine ⟨fun q9 => by first | (simp at q9; done) | omega, ?_⟩
                exact hF _ _ (Or.inl ⟨by omega, by omega, rfl⟩) (fun a j z9 => by unfold FEq at z9; rw [up_n (by omega), up_n (by omega)]) ⟨by rw [up_n (by omega), up_s], by rw [up_s, ha]⟩
          · simp only [sx_cc, Classical.not_not] at g
            conv => whnf
            refine ⟨(by first | assumption | rfl), ?_⟩
            try simp (disch := omega) only [Int.cast_ofNat_Int, up_s, up_a, up_i, mp_a, mp_ge]
            try simp only [w50]
            try simp only [w51]
            try simp only [w48]
            try simp only [w22]
            try simp only [w49]
            try simp only [ern]
            conv => whnf
            refine ⟨fun g => ?_, fun g => ?_⟩
            · simp only [sx_cc, Classical.not_not] at g
              have g3 := g
              have t21 := (pKz_21 hkz).1.mp g3
              have kv9 := (pKz_21 hkz).2.2.2.2 g3
              conv => whnf
              refine ⟨fun g => ?_, fun g => ?_⟩
              · simp only [sx_cc, Classical.not_not] at g
                conv => whnf
                refine ⟨Nat.le_of_ble_eq_true rfl, Nat.le_of_ble_eq_true rfl, (by first | assumption | rfl), ?_⟩
                refine r_cnt w51 z2 (fun hk9 => ?_) (fun hk9 => ?_)
                · have hty : kT tx n9 i = 21 ∨ (10 ≤ kT tx n9 i ∧ kT tx n9 i ≤ 16) := by omega
                  conv => whnf
                  refine ⟨fun g => ?_, fun g => ?_⟩
                  · skip
                    conv => whnf
                    refine ⟨fun g => ?_, fun g => ?_⟩
                    · simp only [sx_cc, Classical.not_not] at g
                      conv => whnf
                      refine ⟨fun g => ?_, fun g => ?_⟩
                      · simp only [sx_cc, Classical.not_not] at g
                        conv => whnf
                        refine ⟨(by first | assumption | rfl), ?_⟩
                        try simp (disch := omega) only [Int.cast_ofNat_Int, up_s, up_a, up_i, mp_a, mp_ge]
                        try simp only [w50]
                        try simp only [w51]
                        try simp only [w48]
                        try simp only [w22]
                        try simp only [w49]
                        try simp only [ern]
                        conv => whnf
                        refine ⟨Nat.le_of_ble_eq_true rfl, Nat.le_of_ble_eq_true rfl, (by first | assumption | rfl), ?_⟩
                        refine r_grown (rQ_up hq (by unfold FRd; omega)) (w := s 32 14) (d := dpF (s (p + 11)) lo (s 32 14)) (by rw [up_n (by omega)]; exact w22) (by rw [up_n (by omega)]; exact w49) (by omega) (by omega) ?_
                        conv => whnf
                        refine ⟨(by first | assumption | rfl), by omega, ?_⟩
                        try simp (disch := omega) only [Int.cast_ofNat_Int, up_s, up_a, up_i, mp_a, mp_ge]
                        try simp only [w50]
                        try simp only [w51]
                        try simp only [w48]
                        try simp only [w22]
                        try simp only [w49]
                        try simp only [ern]
                        conv => whnf
                        refine ⟨Nat.le_of_ble_eq_true rfl, Nat.le_of_ble_eq_true rfl, (by first | assumption | rfl), ?_⟩
                        refine r_tok (tx := tx) (n9 := n9) (i := i) (by repeat (first | exact hq | refine rQ_up ?_ (by unfold FRd; omega))) (fun σ9 hf9 hq9 => ?_)
                        conv => whnf
                        refine ⟨fun q9 => by first | (simp at q9; done) | omega, ?_⟩
                        first
                        | (have ht : kT tx n9 i = 21 := by omega
                           have hkv := (pKz_21 hkz).2.2.2.2 ((pKz_21 hkz).1.mpr ht)
                           have ev9 : σ 124 9 = kV tx n9 i := by omega
                           refine hS (sx_up (sx_up (sx_up (sx_up (sx_up s p 14 (s p 14 + 1)) (p + 11) (s 32 14) (21)) (p + 12) (s 32 14) (kV tx n9 i)) 32 14 (s 32 14 + 1)) 32 13 0) _ (Or.inl ⟨ht, by omega, by omega, rfl⟩) (eC_leaf (s := s) (r := σ) (c := 21) (v := kV tx n9 i) (k := 0) (a := σ 124 9) hp hk hc0 (Or.inl rfl) (Or.inl ⟨rfl, rfl, ev9⟩) (by rw [up_n (by omega), up_n (by omega), up_n (by omega), up_n (by omega), up_n (by omega)]) (funext fun j => by rw [up_n (by omega), up_n (by omega), up_n (by omega), up_n (by omega), up_n (by omega)]) up_s (by rw [up_n (by omega), up_s]) (fun j => by
                              rw [up_n (by omega), up_n (by omega), up_n (by omega)]
                              by_cases e9 : j = s 32 14
                              · rw [if_pos e9, e9, up_s]
                              · rw [if_neg e9, up_n (by omega), up_n (by omega)]) (fun j => by
                              rw [up_n (by omega), up_n (by omega)]
                              by_cases e9 : j = s 32 14
                              · rw [if_pos e9, e9, up_s]
                              · rw [if_neg e9, up_n (by omega), up_n (by omega), up_n (by omega)]) (by rw [hf9 139 _ (by unfold FRt; omega)]; (repeat (first | rw [up_s] | rw [up_n (by omega)])); try omega) (by rw [hf9 140 _ (by unfold FRt; omega)]; (repeat (first | rw [up_s] | rw [up_n (by omega)])); try omega) (fun x j z => by rw [hf9 x j (by unfold FRt; omega)]; repeat (first | rw [up_n (by omega)])) (by rw [hf9 143 _ (by unfold FRt; omega)]; (repeat (first | rw [up_s] | rw [up_n (by omega)])); try omega) (fun d z => by rw [hf9 143 d (by unfold FRt; omega)]; repeat (first | rw [up_n (by omega)])) (by rw [hf9 _ _ (by unfold FRt; omega)]; (repeat (first | rw [up_s] | rw [up_n (by omega)])); try omega) (by rw [hf9 _ _ (by unfold FRt; omega)]; (repeat (first | rw [up_s] | rw [up_n (by omega)])); try omega) ?_ ?_ ?_) hq9 (fun a j z9 => by unfold FEs at z9; rw [hf9 a j (by unfold FRt; omega)]; repeat (first | rw [up_n (by omega)]))
                           · rw [hf9 _ _ (by unfold FRt; omega)]; (repeat (first | rw [up_n (by omega)])); exact w50
                           · rw [hf9 _ _ (by unfold FRt; omega)]; (repeat (first | rw [up_s] | rw [up_n (by omega)]))
                           · rw [hf9 _ _ (by unfold FRt; omega)]; (repeat (first | rw [up_s] | rw [up_n (by omega)])))
                        | (have ht : 10 ≤ kT tx n9 i ∧ kT tx n9 i ≤ 16 := by omega
                           refine hS (sx_up (sx_up (sx_up (sx_up (sx_up s p 14 (s p 14 + 1)) (p + 11) (s 32 14) (kT tx n9 i)) (p + 12) (s 32 14) (0)) 32 14 (s 32 14 + 1)) 32 13 0) _ (Or.inr (Or.inl ⟨ht.1, ht.2, by omega, rfl⟩)) (eC_leaf (s := s) (r := σ) (c := kT tx n9 i) (v := 0) (k := 1) (a := fPn (kT tx n9 i)) hp hk hc0 (Or.inr ht) (Or.inr ⟨by omega, rfl, rfl⟩) (by rw [up_n (by omega), up_n (by omega), up_n (by omega), up_n (by omega), up_n (by omega)]) (funext fun j => by rw [up_n (by omega), up_n (by omega), up_n (by omega), up_n (by omega), up_n (by omega)]) up_s (by rw [up_n (by omega), up_s]) (fun j => by
                              rw [up_n (by omega), up_n (by omega), up_n (by omega)]
                              by_cases e9 : j = s 32 14
                              · rw [if_pos e9, e9, up_s]
                              · rw [if_neg e9, up_n (by omega), up_n (by omega)]) (fun j => by
                              rw [up_n (by omega), up_n (by omega)]
                              by_cases e9 : j = s 32 14
                              · rw [if_pos e9, e9, up_s]
                              · rw [if_neg e9, up_n (by omega), up_n (by omega), up_n (by omega)]) (by rw [hf9 139 _ (by unfold FRt; omega)]; (repeat (first | rw [up_s] | rw [up_n (by omega)])); try omega) (by rw [hf9 140 _ (by unfold FRt; omega)]; (repeat (first | rw [up_s] | rw [up_n (by omega)])); try omega) (fun x j z => by rw [hf9 x j (by unfold FRt; omega)]; repeat (first | rw [up_n (by omega)])) (by rw [hf9 143 _ (by unfold FRt; omega)]; (repeat (first | rw [up_s] | rw [up_n (by omega)])); try omega) (fun d z => by rw [hf9 143 d (by unfold FRt; omega)]; repeat (first | rw [up_n (by omega)])) (by rw [hf9 _ _ (by unfold FRt; omega)]; (repeat (first | rw [up_s] | rw [up_n (by omega)])); try omega) (by rw [hf9 _ _ (by unfold FRt; omega)]; (repeat (first | rw [up_s] | rw [up_n (by omega)])); try omega) ?_ ?_ ?_) hq9 (fun a j z9 => by unfold FEs at z9; rw [hf9 a j (by unfold FRt; omega)]; repeat (first | rw [up_n (by omega)]))
                           · rw [hf9 _ _ (by unfold FRt; omega)]; (repeat (first | rw [up_n (by omega)])); exact w50
                           · rw [hf9 _ _ (by unfold FRt; omega)]; (repeat (first | rw [up_s] | rw [up_n (by omega)]))
                           · rw [hf9 _ _ (by unfold FRt; omega)]; (repeat (first | rw [up_s] | rw [up_n (by omega)])))
                      · simp only [sx_cc, Classical.not_not] at g
                        conv => whnf
                        refine ⟨Nat.le_of_ble_eq_true rfl, Nat.le_of_ble_eq_true rfl, (by first | assumption | rfl), ?_⟩
                        refine r_grown (rQ_up hq (by unfold FRd; omega)) (w := s 32 14) (d := dpF (s (p + 11)) lo (s 32 14)) (by rw [up_n (by omega)]; exact w22) (by rw [up_n (by omega)]; exact w49) (by omega) (by omega) ?_
                        conv => whnf
                        refine ⟨(by first | assumption | rfl), by omega, ?_⟩
                        try simp (disch := omega) only [Int.cast_ofNat_Int, up_s, up_a, up_i, mp_a, mp_ge]
                        try simp only [w50]
                        try simp only [w51]
                        try simp only [w48]
                        try simp only [w22]
                        try simp only [w49]
                        try simp only [ern]
                        conv => whnf
                        refine ⟨Nat.le_of_ble_eq_true rfl, Nat.le_of_ble_eq_true rfl, (by first | assumption | rfl), ?_⟩
                        refine r_tok (tx := tx) (n9 := n9) (i := i) (by repeat (first | exact hq | refine rQ_up ?_ (by unfold FRd; omega))) (fun σ9 hf9 hq9 => ?_)
                        conv => whnf
                        refine ⟨fun q9 => by first | (simp at q9; done) | omega, ?_⟩
                        first
                        | (have ht : kT tx n9 i = 21 := by omega
                           have hkv := (pKz_21 hkz).2.2.2.2 ((pKz_21 hkz).1.mpr ht)
                           have ev9 : σ 124 9 = kV tx n9 i := by omega
                           refine hS (sx_up (sx_up (sx_up (sx_up (sx_up s p 14 (s p 14 + 1)) (p + 11) (s 32 14) (21)) (p + 12) (s 32 14) (kV tx n9 i)) 32 14 (s 32 14 + 1)) 32 13 0) _ (Or.inl ⟨ht, by omega, by omega, rfl⟩) (eC_leaf (s := s) (r := σ) (c := 21) (v := kV tx n9 i) (k := 0) (a := σ 124 9) hp hk hc0 (Or.inl rfl) (Or.inl ⟨rfl, rfl, ev9⟩) (by rw [up_n (by omega), up_n (by omega), up_n (by omega), up_n (by omega), up_n (by omega)]) (funext fun j => by rw [up_n (by omega), up_n (by omega), up_n (by omega), up_n (by omega), up_n (by omega)]) up_s (by rw [up_n (by omega), up_s]) (fun j => by
                              rw [up_n (by omega), up_n (by omega), up_n (by omega)]
                              by_cases e9 : j = s 32 14
                              · rw [if_pos e9, e9, up_s]
                              · rw [if_neg e9, up_n (by omega), up_n (by omega)]) (fun j => by
                              rw [up_n (by omega), up_n (by omega)]
                              by_cases e9 : j = s 32 14
                              · rw [if_pos e9, e9, up_s]
                              · rw [if_neg e9, up_n (by omega), up_n (by omega), up_n (by omega)]) (by rw [hf9 139 _ (by unfold FRt; omega)]; (repeat (first | rw [up_s] | rw [up_n (by omega)])); try omega) (by rw [hf9 140 _ (by unfold FRt; omega)]; (repeat (first | rw [up_s] | rw [up_n (by omega)])); try omega) (fun x j z => by rw [hf9 x j (by unfold FRt; omega)]; repeat (first | rw [up_n (by omega)])) (by rw [hf9 143 _ (by unfold FRt; omega)]; (repeat (first | rw [up_s] | rw [up_n (by omega)])); try omega) (fun d z => by rw [hf9 143 d (by unfold FRt; omega)]; repeat (first | rw [up_n (by omega)])) (by rw [hf9 _ _ (by unfold FRt; omega)]; (repeat (first | rw [up_s] | rw [up_n (by omega)])); try omega) (by rw [hf9 _ _ (by unfold FRt; omega)]; (repeat (first | rw [up_s] | rw [up_n (by omega)])); try omega) ?_ ?_ ?_) hq9 (fun a j z9 => by unfold FEs at z9; rw [hf9 a j (by unfold FRt; omega)]; repeat (first | rw [up_n (by omega)]))
                           · rw [hf9 _ _ (by unfold FRt; omega)]; (repeat (first | rw [up_n (by omega)])); exact w50
                           · rw [hf9 _ _ (by unfold FRt; omega)]; (repeat (first | rw [up_s] | rw [up_n (by omega)]))
                           · rw [hf9 _ _ (by unfold FRt; omega)]; (repeat (first | rw [up_s] | rw [up_n (by omega)])))
                        | (have ht : 10 ≤ kT tx n9 i ∧ kT tx n9 i ≤ 16 := by omega
                           refine hS (sx_up (sx_up (sx_up (sx_up (sx_up s p 14 (s p 14 + 1)) (p + 11) (s 32 14) (kT tx n9 i)) (p + 12) (s 32 14) (0)) 32 14 (s 32 14 + 1)) 32 13 0) _ (Or.inr (Or.inl ⟨ht.1, ht.2, by omega, rfl⟩)) (eC_leaf (s := s) (r := σ) (c := kT tx n9 i) (v := 0) (k := 1) (a := fPn (kT tx n9 i)) hp hk hc0 (Or.inr ht) (Or.inr ⟨by omega, rfl, rfl⟩) (by rw [up_n (by omega), up_n (by omega), up_n (by omega), up_n (by omega), up_n (by omega)]) (funext fun j => by rw [up_n (by omega), up_n (by omega), up_n (by omega), up_n (by omega), up_n (by omega)]) up_s (by rw [up_n (by omega), up_s]) (fun j => by
                              rw [up_n (by omega), up_n (by omega), up_n (by omega)]
                              by_cases e9 : j = s 32 14
                              · rw [if_pos e9, e9, up_s]
                              · rw [if_neg e9, up_n (by omega), up_n (by omega)]) (fun j => by
                              rw [up_n (by omega), up_n (by omega)]
                              by_cases e9 : j = s 32 14
                              · rw [if_pos e9, e9, up_s]
                              · rw [if_neg e9, up_n (by omega), up_n (by omega), up_n (by omega)]) (by rw [hf9 139 _ (by unfold FRt; omega)]; (repeat (first | rw [up_s] | rw [up_n (by omega)])); try omega) (by rw [hf9 140 _ (by unfold FRt; omega)]; (repeat (first | rw [up_s] | rw [up_n (by omega)])); try omega) (fun x j z => by rw [hf9 x j (by unfold FRt; omega)]; repeat (first | rw [up_n (by omega)])) (by rw [hf9 143 _ (by unfold FRt; omega)]; (repeat (first | rw [up_s] | rw [up_n (by omega)])); try omega) (fun d z => by rw [hf9 143 d (by unfold FRt; omega)]; repeat (first | rw [up_n (by omega)])) (by rw [hf9 _ _ (by unfold FRt; omega)]; (repeat (first | rw [up_s] | rw [up_n (by omega)])); try omega) (by rw [hf9 _ _ (by unfold FRt; omega)]; (repeat (first | rw [up_s] | rw [up_n (by omega)])); try omega) ?_ ?_ ?_) hq9 (fun a j z9 => by unfold FEs at z9; rw [hf9 a j (by unfold FRt; omega)]; repeat (first | rw [up_n (by omega)]))
                           · rw [hf9 _ _ (by unfold FRt; omega)]; (repeat (first | rw [up_n (by omega)])); exact w50
                           · rw [hf9 _ _ (by unfold FRt; omega)]; (repeat (first | rw [up_s] | rw [up_n (by omega)]))
                           · rw [hf9 _ _ (by unfold FRt; omega)]; (repeat (first | rw [up_s] | rw [up_n (by omega)])))
                    · simp only [sx_cc, Classical.not_not] at g
                      conv => whnf
                      refine ⟨fun g => ?_, fun g => ?_⟩
                      · simp only [sx_cc, Classical.not_not] at g
                        conv => whnf
                        refine ⟨(by first | assumption | rfl), ?_⟩
                        try simp (disch := omega) only [Int.cast_ofNat_Int, up_s, up_a, up_i, mp_a, mp_ge]
                        try simp only [w50]
                        try simp only [w51]
                        try simp only [w48]
                        try simp only [w22]
                        try simp only [w49]
                        try simp only [ern]
                        conv => whnf
                        refine ⟨Nat.le_of_ble_eq_true rfl, Nat.le_of_ble_eq_true rfl, (by first | assumption | rfl), ?_⟩
                        refine r_grown (rQ_up hq (by unfold FRd; omega)) (w := s 32 14) (d := dpF (s (p + 11)) lo (s 32 14)) (by rw [up_n (by omega)]; exact w22) (by rw [up_n (by omega)]; exact w49) (by omega) (by omega) ?_
                        conv => whnf
                        refine ⟨(by first | assumption | rfl), by omega, ?_⟩
                        try simp (disch := omega) only [Int.cast_ofNat_Int, up_s, up_a, up_i, mp_a, mp_ge]
                        try simp only [w50]
                        try simp only [w51]
                        try simp only [w48]
                        try simp only [w22]
                        try simp only [w49]
                        try simp only [ern]
                        conv => whnf
                        refine ⟨Nat.le_of_ble_eq_true rfl, Nat.le_of_ble_eq_true rfl, (by first | assumption | rfl), ?_⟩
                        refine r_tok (tx := tx) (n9 := n9) (i := i) (by repeat (first | exact hq | refine rQ_up ?_ (by unfold FRd; omega))) (fun σ9 hf9 hq9 => ?_)
                        conv => whnf
                        refine ⟨fun q9 => by first | (simp at q9; done) | omega, ?_⟩
                        first
                        | (have ht : kT tx n9 i = 21 := by omega
                           have hkv := (pKz_21 hkz).2.2.2.2 ((pKz_21 hkz).1.mpr ht)
                           have ev9 : σ 124 9 = kV tx n9 i := by omega
                           refine hS (sx_up (sx_up (sx_up (sx_up (sx_up s p 14 (s p 14 + 1)) (p + 11) (s 32 14) (21)) (p + 12) (s 32 14) (kV tx n9 i)) 32 14 (s 32 14 + 1)) 32 13 0) _ (Or.inl ⟨ht, by omega, by omega, rfl⟩) (eC_leaf (s := s) (r := σ) (c := 21) (v := kV tx n9 i) (k := 0) (a := σ 124 9) hp hk hc0 (Or.inl rfl) (Or.inl ⟨rfl, rfl, ev9⟩) (by rw [up_n (by omega), up_n (by omega), up_n (by omega), up_n (by omega), up_n (by omega)]) (funext fun j => by rw [up_n (by omega), up_n (by omega), up_n (by omega), up_n (by omega), up_n (by omega)]) up_s (by rw [up_n (by omega), up_s]) (fun j => by
                              rw [up_n (by omega), up_n (by omega), up_n (by omega)]
                              by_cases e9 : j = s 32 14
                              · rw [if_pos e9, e9, up_s]
                              · rw [if_neg e9, up_n (by omega), up_n (by omega)]) (fun j => by
                              rw [up_n (by omega), up_n (by omega)]
                              by_cases e9 : j = s 32 14
                              · rw [if_pos e9, e9, up_s]
                              · rw [if_neg e9, up_n (by omega), up_n (by omega), up_n (by omega)]) (by rw [hf9 139 _ (by unfold FRt; omega)]; (repeat (first | rw [up_s] | rw [up_n (by omega)])); try omega) (by rw [hf9 140 _ (by unfold FRt; omega)]; (repeat (first | rw [up_s] | rw [up_n (by omega)])); try omega) (fun x j z => by rw [hf9 x j (by unfold FRt; omega)]; repeat (first | rw [up_n (by omega)])) (by rw [hf9 143 _ (by unfold FRt; omega)]; (repeat (first | rw [up_s] | rw [up_n (by omega)])); try omega) (fun d z => by rw [hf9 143 d (by unfold FRt; omega)]; repeat (first | rw [up_n (by omega)])) (by rw [hf9 _ _ (by unfold FRt; omega)]; (repeat (first | rw [up_s] | rw [up_n (by omega)])); try omega) (by rw [hf9 _ _ (by unfold FRt; omega)]; (repeat (first | rw [up_s] | rw [up_n (by omega)])); try omega) ?_ ?_ ?_) hq9 (fun a j z9 => by unfold FEs at z9; rw [hf9 a j (by unfold FRt; omega)]; repeat (first | rw [up_n (by omega)]))
                           · rw [hf9 _ _ (by unfold FRt; omega)]; (repeat (first | rw [up_n (by omega)])); exact w50
                           · rw [hf9 _ _ (by unfold FRt; omega)]; (repeat (first | rw [up_s] | rw [up_n (by omega)]))
                           · rw [hf9 _ _ (by unfold FRt; omega)]; (repeat (first | rw [up_s] | rw [up_n (by omega)])))
                        | (have ht : 10 ≤ kT tx n9 i ∧ kT tx n9 i ≤ 16 := by omega
                           refine hS (sx_up (sx_up (sx_up (sx_up (sx_up s p 14 (s p 14 + 1)) (p + 11) (s 32 14) (kT tx n9 i)) (p + 12) (s 32 14) (0)) 32 14 (s 32 14 + 1)) 32 13 0) _ (Or.inr (Or.inl ⟨ht.1, ht.2, by omega, rfl⟩)) (eC_leaf (s := s) (r := σ) (c := kT tx n9 i) (v := 0) (k := 1) (a := fPn (kT tx n9 i)) hp hk hc0 (Or.inr ht) (Or.inr ⟨by omega, rfl, rfl⟩) (by rw [up_n (by omega), up_n (by omega), up_n (by omega), up_n (by omega), up_n (by omega)]) (funext fun j => by rw [up_n (by omega), up_n (by omega), up_n (by omega), up_n (by omega), up_n (by omega)]) up_s (by rw [up_n (by omega), up_s]) (fun j => by
                              rw [up_n (by omega), up_n (by omega), up_n (by omega)]
                              by_cases e9 : j = s 32 14
                              · rw [if_pos e9, e9, up_s]
                              · rw [if_neg e9, up_n (by omega), up_n (by omega)]) (fun j => by
                              rw [up_n (by omega), up_n (by omega)]
                              by_cases e9 : j = s 32 14
                              · rw [if_pos e9, e9, up_s]
                              · rw [if_neg e9, up_n (by omega), up_n (by omega), up_n (by omega)]) (by rw [hf9 139 _ (by unfold FRt; omega)]; (repeat (first | rw [up_s] | rw [up_n (by omega)])); try omega) (by rw [hf9 140 _ (by unfold FRt; omega)]; (repeat (first | rw [up_s] | rw [up_n (by omega)])); try omega) (fun x j z => by rw [hf9 x j (by unfold FRt; omega)]; repeat (first | rw [up_n (by omega)])) (by rw [hf9 143 _ (by unfold FRt; omega)]; (repeat (first | rw [up_s] | rw [up_n (by omega)])); try omega) (fun d z => by rw [hf9 143 d (by unfold FRt; omega)]; repeat (first | rw [up_n (by omega)])) (by rw [hf9 _ _ (by unfold FRt; omega)]; (repeat (first | rw [up_s] | rw [up_n (by omega)])); try omega) (by rw [hf9 _ _ (by unfold FRt; omega)]; (repeat (first | rw [up_s] | rw [up_n (by omega)])); try omega) ?_ ?_ ?_) hq9 (fun a j z9 => by unfold FEs at z9; rw [hf9 a j (by unfold FRt; omega)]; repeat (first | rw [up_n (by omega)]))
                           · rw [hf9 _ _ (by unfold FRt; omega)]; (repeat (first | rw [up_n (by omega)])); exact w50
                           · rw [hf9 _ _ (by unfold FRt; omega)]; (repeat (first | rw [up_s] | rw [up_n (by omega)]))
                           · rw [hf9 _ _ (by unfold FRt; omega)]; (repeat (first | rw [up_s] | rw [up_n (by omega)])))
                      · simp only [sx_cc, Classical.not_not] at g
                        conv => whnf
                        refine ⟨Nat.le_of_ble_eq_true rfl, Nat.le_of_ble_eq_true rfl, (by first | assumption | rfl), ?_⟩
                        refine r_grown (rQ_up hq (by unfold FRd; omega)) (w := s 32 14) (d := dpF (s (p + 11)) lo (s 32 14)) (by rw [up_n (by omega)]; exact w22) (by rw [up_n (by omega)]; exact w49) (by omega) (by omega) ?_
                        conv => whnf
                        refine ⟨(by first | assumption | rfl), by omega, ?_⟩
                        try simp (disch := omega) only [Int.cast_ofNat_Int, up_s, up_a, up_i, mp_a, mp_ge]
                        try simp only [w50]
                        try simp only [w51]
                        try simp only [w48]
                        try simp only [w22]
                        try simp only [w49]
                        try simp only [ern]
                        conv => whnf
                        refine ⟨Nat.le_of_ble_eq_true rfl, Nat.le_of_ble_eq_true rfl, (by first | assumption | rfl), ?_⟩
                        refine r_tok (tx := tx) (n9 := n9) (i := i) (by repeat (first | exact hq | refine rQ_up ?_ (by unfold FRd; omega))) (fun σ9 hf9 hq9 => ?_)
                        conv => whnf
                        refine ⟨fun q9 => by first | (simp at q9; done) | omega, ?_⟩
                        first
                        | (have ht : kT tx n9 i = 21 := by omega
                           have hkv := (pKz_21 hkz).2.2.2.2 ((pKz_21 hkz).1.mpr ht)
                           have ev9 : σ 124 9 = kV tx n9 i := by omega
                           refine hS (sx_up (sx_up (sx_up (sx_up (sx_up s p 14 (s p 14 + 1)) (p + 11) (s 32 14) (21)) (p + 12) (s 32 14) (kV tx n9 i)) 32 14 (s 32 14 + 1)) 32 13 0) _ (Or.inl ⟨ht, by omega, by omega, rfl⟩) (eC_leaf (s := s) (r := σ) (c := 21) (v := kV tx n9 i) (k := 0) (a := σ 124 9) hp hk hc0 (Or.inl rfl) (Or.inl ⟨rfl, rfl, ev9⟩) (by rw [up_n (by omega), up_n (by omega), up_n (by omega), up_n (by omega), up_n (by omega)]) (funext fun j => by rw [up_n (by omega), up_n (by omega), up_n (by omega), up_n (by omega), up_n (by omega)]) up_s (by rw [up_n (by omega), up_s]) (fun j => by
                              rw [up_n (by omega), up_n (by omega), up_n (by omega)]
                              by_cases e9 : j = s 32 14
                              · rw [if_pos e9, e9, up_s]
                              · rw [if_neg e9, up_n (by omega), up_n (by omega)]) (fun j => by
                              rw [up_n (by omega), up_n (by omega)]
                              by_cases e9 : j = s 32 14
                              · rw [if_pos e9, e9, up_s]
                              · rw [if_neg e9, up_n (by omega), up_n (by omega), up_n (by omega)]) (by rw [hf9 139 _ (by unfold FRt; omega)]; (repeat (first | rw [up_s] | rw [up_n (by omega)])); try omega) (by rw [hf9 140 _ (by unfold FRt; omega)]; (repeat (first | rw [up_s] | rw [up_n (by omega)])); try omega) (fun x j z => by rw [hf9 x j (by unfold FRt; omega)]; repeat (first | rw [up_n (by omega)])) (by rw [hf9 143 _ (by unfold FRt; omega)]; (repeat (first | rw [up_s] | rw [up_n (by omega)])); try omega) (fun d z => by rw [hf9 143 d (by unfold FRt; omega)]; repeat (first | rw [up_n (by omega)])) (by rw [hf9 _ _ (by unfold FRt; omega)]; (repeat (first | rw [up_s] | rw [up_n (by omega)])); try omega) (by rw [hf9 _ _ (by unfold FRt; omega)]; (repeat (first | rw [up_s] | rw [up_n (by omega)])); try omega) ?_ ?_ ?_) hq9 (fun a j z9 => by unfold FEs at z9; rw [hf9 a j (by unfold FRt; omega)]; repeat (first | rw [up_n (by omega)]))
                           · rw [hf9 _ _ (by unfold FRt; omega)]; (repeat (first | rw [up_n (by omega)])); exact w50
                           · rw [hf9 _ _ (by unfold FRt; omega)]; (repeat (first | rw [up_s] | rw [up_n (by omega)]))
                           · rw [hf9 _ _ (by unfold FRt; omega)]; (repeat (first | rw [up_s] | rw [up_n (by omega)])))
                        | (have ht : 10 ≤ kT tx n9 i ∧ kT tx n9 i ≤ 16 := by omega
                           refine hS (sx_up (sx_up (sx_up (sx_up (sx_up s p 14 (s p 14 + 1)) (p + 11) (s 32 14) (kT tx n9 i)) (p + 12) (s 32 14) (0)) 32 14 (s 32 14 + 1)) 32 13 0) _ (Or.inr (Or.inl ⟨ht.1, ht.2, by omega, rfl⟩)) (eC_leaf (s := s) (r := σ) (c := kT tx n9 i) (v := 0) (k := 1) (a := fPn (kT tx n9 i)) hp hk hc0 (Or.inr ht) (Or.inr ⟨by omega, rfl, rfl⟩) (by rw [up_n (by omega), up_n (by omega), up_n (by omega), up_n (by omega), up_n (by omega)]) (funext fun j => by rw [up_n (by omega), up_n (by omega), up_n (by omega), up_n (by omega), up_n (by omega)]) up_s (by rw [up_n (by omega), up_s]) (fun j => by
                              rw [up_n (by omega), up_n (by omega), up_n (by omega)]
                              by_cases e9 : j = s 32 14
                              · rw [if_pos e9, e9, up_s]
                              · rw [if_neg e9, up_n (by omega), up_n (by omega)]) (fun j => by
                              rw [up_n (by omega), up_n (by omega)]
                              by_cases e9 : j = s 32 14
                              · rw [if_pos e9, e9, up_s]
                              · rw [if_neg e9, up_n (by omega), up_n (by omega), up_n (by omega)]) (by rw [hf9 139 _ (by unfold FRt; omega)]; (repeat (first | rw [up_s] | rw [up_n (by omega)])); try omega) (by rw [hf9 140 _ (by unfold FRt; omega)]; (repeat (first | rw [up_s] | rw [up_n (by omega)])); try omega) (fun x j z => by rw [hf9 x j (by unfold FRt; omega)]; repeat (first | rw [up_n (by omega)])) (by rw [hf9 143 _ (by unfold FRt; omega)]; (repeat (first | rw [up_s] | rw [up_n (by omega)])); try omega) (fun d z => by rw [hf9 143 d (by unfold FRt; omega)]; repeat (first | rw [up_n (by omega)])) (by rw [hf9 _ _ (by unfold FRt; omega)]; (repeat (first | rw [up_s] | rw [up_n (by omega)])); try omega) (by rw [hf9 _ _ (by unfold FRt; omega)]; (repeat (first | rw [up_s] | rw [up_n (by omega)])); try omega) ?_ ?_ ?_) hq9 (fun a j z9 => by unfold FEs at z9; rw [hf9 a j (by unfold FRt; omega)]; repeat (first | rw [up_n (by omega)]))
                           · rw [hf9 _ _ (by unfold FRt; omega)]; (repeat (first | rw [up_n (by omega)])); exact w50
                           · rw [hf9 _ _ (by unfold FRt; omega)]; (repeat (first | rw [up_s] | rw [up_n (by omega)]))
                           · rw [hf9 _ _ (by unfold FRt; omega)]; (repeat (first | rw [up_s] | rw [up_n (by omega)])))
                  · exact absurd g (by simp [sx_cc])
                · have hty : kT tx n9 i = 21 ∨ (10 ≤ kT tx n9 i ∧ kT tx n9 i ≤ 16) := by omega
                  conv => whnf
                  refine ⟨fun g => ?_, fun g => ?_⟩
                  · exact absurd g (by simp [sx_cc])
                  · skip
                    conv => whnf
                    refine ⟨fun q9 => by first | (simp at q9; done) | omega, ?_⟩
                    rcases hty with ht | ht
                    · exact hF _ _ (Or.inl ⟨ht, by omega, rfl⟩) (fun a j z9 => by unfold FEq at z9; rw [up_n (by omega), up_n (by omega)]) ⟨by rw [up_n (by omega), up_s], by rw [up_s, ha]⟩
                    · exact hF _ _ (Or.inr (Or.inl ⟨ht.1, ht.2, by omega, rfl⟩)) (fun a j z9 => by unfold FEq at z9; rw [up_n (by omega), up_n (by omega)]) ⟨by rw [up_n (by omega), up_s], by rw [up_s, ha]⟩
              · simp only [sx_cc, Classical.not_not] at g
                conv => whnf
                refine ⟨(by first | assumption | rfl), ?_⟩
                try simp (disch := omega) only [Int.cast_ofNat_Int, up_s, up_a, up_i, mp_a, mp_ge]
                try simp only [w50]
                try simp only [w51]
                try simp only [w48]
                try simp only [w22]
                try simp only [w49]
                try simp only [ern]
                conv => whnf
                refine ⟨fun g => ?_, fun g => ?_⟩
                · simp only [sx_cc, Classical.not_not] at g
                  conv => whnf
                  refine ⟨Nat.le_of_ble_eq_true rfl, Nat.le_of_ble_eq_true rfl, (by first | assumption | rfl), ?_⟩
                  refine r_cnt w51 z2 (fun hk9 => ?_) (fun hk9 => ?_)
                  · have hty : kT tx n9 i = 21 ∨ (10 ≤ kT tx n9 i ∧ kT tx n9 i ≤ 16) := by omega
                    conv => whnf
                    refine ⟨fun g => ?_, fun g => ?_⟩
                    · skip
                      conv => whnf
                      refine ⟨fun g => ?_, fun g => ?_⟩
                      · simp only [sx_cc, Classical.not_not] at g
                        conv => whnf
                        refine ⟨fun g => ?_, fun g => ?_⟩
                        · simp only [sx_cc, Classical.not_not] at g
                          conv => whnf
                          refine ⟨(by first | assumption | rfl), ?_⟩
                          try simp (disch := omega) only [Int.cast_ofNat_Int, up_s, up_a, up_i, mp_a, mp_ge]
                          try simp only [w50]
                          try simp only [w51]
                          try simp only [w48]
                          try simp only [w22]
                          try simp only [w49]
                          try simp only [ern]
                          conv => whnf
                          refine ⟨Nat.le_of_ble_eq_true rfl, Nat.le_of_ble_eq_true rfl, (by first | assumption | rfl), ?_⟩
                          refine r_grown (rQ_up hq (by unfold FRd; omega)) (w := s 32 14) (d := dpF (s (p + 11)) lo (s 32 14)) (by rw [up_n (by omega)]; exact w22) (by rw [up_n (by omega)]; exact w49) (by omega) (by omega) ?_
                          conv => whnf
                          refine ⟨(by first | assumption | rfl), by omega, ?_⟩
                          try simp (disch := omega) only [Int.cast_ofNat_Int, up_s, up_a, up_i, mp_a, mp_ge]
                          try simp only [w50]
                          try simp only [w51]
                          try simp only [w48]
                          try simp only [w22]
                          try simp only [w49]
                          try simp only [ern]
                          conv => whnf
                          refine ⟨Nat.le_of_ble_eq_true rfl, Nat.le_of_ble_eq_true rfl, (by first | assumption | rfl), ?_⟩
                          refine r_tok (tx := tx) (n9 := n9) (i := i) (by repeat (first | exact hq | refine rQ_up ?_ (by unfold FRd; omega))) (fun σ9 hf9 hq9 => ?_)
                          conv => whnf
                          refine ⟨fun q9 => by first | (simp at q9; done) | omega, ?_⟩
                          first
                          | (have ht : kT tx n9 i = 21 := by omega
                             have hkv := (pKz_21 hkz).2.2.2.2 ((pKz_21 hkz).1.mpr ht)
                             have ev9 : σ 124 9 = kV tx n9 i := by omega
                             refine hS (sx_up (sx_up (sx_up (sx_up (sx_up s p 14 (s p 14 + 1)) (p + 11) (s 32 14) (21)) (p + 12) (s 32 14) (kV tx n9 i)) 32 14 (s 32 14 + 1)) 32 13 0) _ (Or.inl ⟨ht, by omega, by omega, rfl⟩) (eC_leaf (s := s) (r := σ) (c := 21) (v := kV tx n9 i) (k := 0) (a := σ 124 9) hp hk hc0 (Or.inl rfl) (Or.inl ⟨rfl, rfl, ev9⟩) (by rw [up_n (by omega), up_n (by omega), up_n (by omega), up_n (by omega), up_n (by omega)]) (funext fun j => by rw [up_n (by omega), up_n (by omega), up_n (by omega), up_n (by omega), up_n (by omega)]) up_s (by rw [up_n (by omega), up_s]) (fun j => by
                                rw [up_n (by omega), up_n (by omega), up_n (by omega)]
                                by_cases e9 : j = s 32 14
                                · rw [if_pos e9, e9, up_s]
                                · rw [if_neg e9, up_n (by omega), up_n (by omega)]) (fun j => by
                                rw [up_n (by omega), up_n (by omega)]
                                by_cases e9 : j = s 32 14
                                · rw [if_pos e9, e9, up_s]
                                · rw [if_neg e9, up_n (by omega), up_n (by omega), up_n (by omega)]) (by rw [hf9 139 _ (by unfold FRt; omega)]; (repeat (first | rw [up_s] | rw [up_n (by omega)])); try omega) (by rw [hf9 140 _ (by unfold FRt; omega)]; (repeat (first | rw [up_s] | rw [up_n (by omega)])); try omega) (fun x j z => by rw [hf9 x j (by unfold FRt; omega)]; repeat (first | rw [up_n (by omega)])) (by rw [hf9 143 _ (by unfold FRt; omega)]; (repeat (first | rw [up_s] | rw [up_n (by omega)])); try omega) (fun d z => by rw [hf9 143 d (by unfold FRt; omega)]; repeat (first | rw [up_n (by omega)])) (by rw [hf9 _ _ (by unfold FRt; omega)]; (repeat (first | rw [up_s] | rw [up_n (by omega)])); try omega) (by rw [hf9 _ _ (by unfold FRt; omega)]; (repeat (first | rw [up_s] | rw [up_n (by omega)])); try omega) ?_ ?_ ?_) hq9 (fun a j z9 => by unfold FEs at z9; rw [hf9 a j (by unfold FRt; omega)]; repeat (first | rw [up_n (by omega)]))
                             · rw [hf9 _ _ (by unfold FRt; omega)]; (repeat (first | rw [up_n (by omega)])); exact w50
                             · rw [hf9 _ _ (by unfold FRt; omega)]; (repeat (first | rw [up_s] | rw [up_n (by omega)]))
                             · rw [hf9 _ _ (by unfold FRt; omega)]; (repeat (first | rw [up_s] | rw [up_n (by omega)])))
                          | (have ht : 10 ≤ kT tx n9 i ∧ kT tx n9 i ≤ 16 := by omega
                             refine hS (sx_up (sx_up (sx_up (sx_up (sx_up s p 14 (s p 14 + 1)) (p + 11) (s 32 14) (kT tx n9 i)) (p + 12) (s 32 14) (0)) 32 14 (s 32 14 + 1)) 32 13 0) _ (Or.inr (Or.inl ⟨ht.1, ht.2, by omega, rfl⟩)) (eC_leaf (s := s) (r := σ) (c := kT tx n9 i) (v := 0) (k := 1) (a := fPn (kT tx n9 i)) hp hk hc0 (Or.inr ht) (Or.inr ⟨by omega, rfl, rfl⟩) (by rw [up_n (by omega), up_n (by omega), up_n (by omega), up_n (by omega), up_n (by omega)]) (funext fun j => by rw [up_n (by omega), up_n (by omega), up_n (by omega), up_n (by omega), up_n (by omega)]) up_s (by rw [up_n (by omega), up_s]) (fun j => by
                                rw [up_n (by omega), up_n (by omega), up_n (by omega)]
                                by_cases e9 : j = s 32 14
                                · rw [if_pos e9, e9, up_s]
                                · rw [if_neg e9, up_n (by omega), up_n (by omega)]) (fun j => by
                                rw [up_n (by omega), up_n (by omega)]
                                by_cases e9 : j = s 32 14
                                · rw [if_pos e9, e9, up_s]
                                · rw [if_neg e9, up_n (by omega), up_n (by omega), up_n (by omega)]) (by rw [hf9 139 _ (by unfold FRt; omega)]; (repeat (first | rw [up_s] | rw [up_n (by omega)])); try omega) (by rw [hf9 140 _ (by unfold FRt; omega)]; (repeat (first | rw [up_s] | rw [up_n (by omega)])); try omega) (fun x j z => by rw [hf9 x j (by unfold FRt; omega)]; repeat (first | rw [up_n (by omega)])) (by rw [hf9 143 _ (by unfold FRt; omega)]; (repeat (first | rw [up_s] | rw [up_n (by omega)])); try omega) (fun d z => by rw [hf9 143 d (by unfold FRt; omega)]; repeat (first | rw [up_n (by omega)])) (by rw [hf9 _ _ (by unfold FRt; omega)]; (repeat (first | rw [up_s] | rw [up_n (by omega)])); try omega) (by rw [hf9 _ _ (by unfold FRt; omega)]; (repeat (first | rw [up_s] | rw [up_n (by omega)])); try omega) ?_ ?_ ?_) hq9 (fun a j z9 => by unfold FEs at z9; rw [hf9 a j (by unfold FRt; omega)]; repeat (first | rw [up_n (by omega)]))
                             · rw [hf9 _ _ (by unfold FRt; omega)]; (repeat (first | rw [up_n (by omega)])); exact w50
                             · rw [hf9 _ _ (by unfold FRt; omega)]; (repeat (first | rw [up_s] | rw [up_n (by omega)]))
                             · rw [hf9 _ _ (by unfold FRt; omega)]; (repeat (first | rw [up_s] | rw [up_n (by omega)])))
                        · simp only [sx_cc, Classical.not_not] at g
                          conv => whnf
                          refine ⟨Nat.le_of_ble_eq_true rfl, Nat.le_of_ble_eq_true rfl, (by first | assumption | rfl), ?_⟩
                          refine r_grown (rQ_up hq (by unfold FRd; omega)) (w := s 32 14) (d := dpF (s (p + 11)) lo (s 32 14)) (by rw [up_n (by omega)]; exact w22) (by rw [up_n (by omega)]; exact w49) (by omega) (by omega) ?_
                          conv => whnf
                          refine ⟨(by first | assumption | rfl), by omega, ?_⟩
                          try simp (disch := omega) only [Int.cast_ofNat_Int, up_s, up_a, up_i, mp_a, mp_ge]
                          try simp only [w50]
                          try simp only [w51]
                          try simp only [w48]
                          try simp only [w22]
                          try simp only [w49]
                          try simp only [ern]
                          conv => whnf
                          refine ⟨Nat.le_of_ble_eq_true rfl, Nat.le_of_ble_eq_true rfl, (by first | assumption | rfl), ?_⟩
                          refine r_tok (tx := tx) (n9 := n9) (i := i) (by repeat (first | exact hq | refine rQ_up ?_ (by unfold FRd; omega))) (fun σ9 hf9 hq9 => ?_)
                          conv => whnf
                          refine ⟨fun q9 => by first | (simp at q9; done) | omega, ?_⟩
                          first
                          | (have ht : kT tx n9 i = 21 := by omega
                             have hkv := (pKz_21 hkz).2.2.2.2 ((pKz_21 hkz).1.mpr ht)
                             have ev9 : σ 124 9 = kV tx n9 i := by omega
                             refine hS (sx_up (sx_up (sx_up (sx_up (sx_up s p 14 (s p 14 + 1)) (p + 11) (s 32 14) (21)) (p + 12) (s 32 14) (kV tx n9 i)) 32 14 (s 32 14 + 1)) 32 13 0) _ (Or.inl ⟨ht, by omega, by omega, rfl⟩) (eC_leaf (s := s) (r := σ) (c := 21) (v := kV tx n9 i) (k := 0) (a := σ 124 9) hp hk hc0 (Or.inl rfl) (Or.inl ⟨rfl, rfl, ev9⟩) (by rw [up_n (by omega), up_n (by omega), up_n (by omega), up_n (by omega), up_n (by omega)]) (funext fun j => by rw [up_n (by omega), up_n (by omega), up_n (by omega), up_n (by omega), up_n (by omega)]) up_s (by rw [up_n (by omega), up_s]) (fun j => by
                                rw [up_n (by omega), up_n (by omega), up_n (by omega)]
                                by_cases e9 : j = s 32 14
                                · rw [if_pos e9, e9, up_s]
                                · rw [if_neg e9, up_n (by omega), up_n (by omega)]) (fun j => by
                                rw [up_n (by omega), up_n (by omega)]
                                by_cases e9 : j = s 32 14
                                · rw [if_pos e9, e9, up_s]
                                · rw [if_neg e9, up_n (by omega), up_n (by omega), up_n (by omega)]) (by rw [hf9 139 _ (by unfold FRt; omega)]; (repeat (first | rw [up_s] | rw [up_n (by omega)])); try omega) (by rw [hf9 140 _ (by unfold FRt; omega)]; (repeat (first | rw [up_s] | rw [up_n (by omega)])); try omega) (fun x j z => by rw [hf9 x j (by unfold FRt; omega)]; repeat (first | rw [up_n (by omega)])) (by rw [hf9 143 _ (by unfold FRt; omega)]; (repeat (first | rw [up_s] | rw [up_n (by omega)])); try omega) (fun d z => by rw [hf9 143 d (by unfold FRt; omega)]; repeat (first | rw [up_n (by omega)])) (by rw [hf9 _ _ (by unfold FRt; omega)]; (repeat (first | rw [up_s] | rw [up_n (by omega)])); try omega) (by rw [hf9 _ _ (by unfold FRt; omega)]; (repeat (first | rw [up_s] | rw [up_n (by omega)])); try omega) ?_ ?_ ?_) hq9 (fun a j z9 => by unfold FEs at z9; rw [hf9 a j (by unfold FRt; omega)]; repeat (first | rw [up_n (by omega)]))
                             · rw [hf9 _ _ (by unfold FRt; omega)]; (repeat (first | rw [up_n (by omega)])); exact w50
                             · rw [hf9 _ _ (by unfold FRt; omega)]; (repeat (first | rw [up_s] | rw [up_n (by omega)]))
                             · rw [hf9 _ _ (by unfold FRt; omega)]; (repeat (first | rw [up_s] | rw [up_n (by omega)])))
                          | (have ht : 10 ≤ kT tx n9 i ∧ kT tx n9 i ≤ 16 := by omega
                             refine hS (sx_up (sx_up (sx_up (sx_up (sx_up s p 14 (s p 14 + 1)) (p + 11) (s 32 14) (kT tx n9 i)) (p + 12) (s 32 14) (0)) 32 14 (s 32 14 + 1)) 32 13 0) _ (Or.inr (Or.inl ⟨ht.1, ht.2, by omega, rfl⟩)) (eC_leaf (s := s) (r := σ) (c := kT tx n9 i) (v := 0) (k := 1) (a := fPn (kT tx n9 i)) hp hk hc0 (Or.inr ht) (Or.inr ⟨by omega, rfl, rfl⟩) (by rw [up_n (by omega), up_n (by omega), up_n (by omega), up_n (by omega), up_n (by omega)]) (funext fun j => by rw [up_n (by omega), up_n (by omega), up_n (by omega), up_n (by omega), up_n (by omega)]) up_s (by rw [up_n (by omega), up_s]) (fun j => by
                                rw [up_n (by omega), up_n (by omega), up_n (by omega)]
                                by_cases e9 : j = s 32 14
                                · rw [if_pos e9, e9, up_s]
                                · rw [if_neg e9, up_n (by omega), up_n (by omega)]) (fun j => by
                                rw [up_n (by omega), up_n (by omega)]
                                by_cases e9 : j = s 32 14
                                · rw [if_pos e9, e9, up_s]
                                · rw [if_neg e9, up_n (by omega), up_n (by omega), up_n (by omega)]) (by rw [hf9 139 _ (by unfold FRt; omega)]; (repeat (first | rw [up_s] | rw [up_n (by omega)])); try omega) (by rw [hf9 140 _ (by unfold FRt; omega)]; (repeat (first | rw [up_s] | rw [up_n (by omega)])); try omega) (fun x j z => by rw [hf9 x j (by unfold FRt; omega)]; repeat (first | rw [up_n (by omega)])) (by rw [hf9 143 _ (by unfold FRt; omega)]; (repeat (first | rw [up_s] | rw [up_n (by omega)])); try omega) (fun d z => by rw [hf9 143 d (by unfold FRt; omega)]; repeat (first | rw [up_n (by omega)])) (by rw [hf9 _ _ (by unfold FRt; omega)]; (repeat (first | rw [up_s] | rw [up_n (by omega)])); try omega) (by rw [hf9 _ _ (by unfold FRt; omega)]; (repeat (first | rw [up_s] | rw [up_n (by omega)])); try omega) ?_ ?_ ?_) hq9 (fun a j z9 => by unfold FEs at z9; rw [hf9 a j (by unfold FRt; omega)]; repeat (first | rw [up_n (by omega)]))
                             · rw [hf9 _ _ (by unfold FRt; omega)]; (repeat (first | rw [up_n (by omega)])); exact w50
                             · rw [hf9 _ _ (by unfold FRt; omega)]; (repeat (first | rw [up_s] | rw [up_n (by omega)]))
                             · rw [hf9 _ _ (by unfold FRt; omega)]; (repeat (first | rw [up_s] | rw [up_n (by omega)])))
                      · simp only [sx_cc, Classical.not_not] at g
                        conv => whnf
                        refine ⟨fun g => ?_, fun g => ?_⟩
                        · simp only [sx_cc, Classical.not_not] at g
                          conv => whnf
                          refine ⟨(by first | assumption | rfl), ?_⟩
                          try simp (disch := omega) only [Int.cast_ofNat_Int, up_s, up_a, up_i, mp_a, mp_ge]
                          try simp only [w50]
                          try simp only [w51]
                          try simp only [w48]
                          try simp only [w22]
                          try simp only [w49]
                          try simp only [ern]
                          conv => whnf
                          refine ⟨Nat.le_of_ble_eq_true rfl, Nat.le_of_ble_eq_true rfl, (by first | assumption | rfl), ?_⟩
                          refine r_grown (rQ_up hq (by unfold FRd; omega)) (w := s 32 14) (d := dpF (s (p + 11)) lo (s 32 14)) (by rw [up_n (by omega)]; exact w22) (by rw [up_n (by omega)]; exact w49) (by omega) (by omega) ?_
                          conv => whnf
                          refine ⟨(by first | assumption | rfl), by omega, ?_⟩
                          try simp (disch := omega) only [Int.cast_ofNat_Int, up_s, up_a, up_i, mp_a, mp_ge]
                          try simp only [w50]
                          try simp only [w51]
                          try simp only [w48]
                          try simp only [w22]
                          try simp only [w49]
                          try simp only [ern]
                          conv => whnf
                          refine ⟨Nat.le_of_ble_eq_true rfl, Nat.le_of_ble_eq_true rfl, (by first | assumption | rfl), ?_⟩
                          refine r_tok (tx := tx) (n9 := n9) (i := i) (by repeat (first | exact hq | refine rQ_up ?_ (by unfold FRd; omega))) (fun σ9 hf9 hq9 => ?_)
                          conv => whnf
                          refine ⟨fun q9 => by first | (simp at q9; done) | omega, ?_⟩
                          first
                          | (have ht : kT tx n9 i = 21 := by omega
                             have hkv := (pKz_21 hkz).2.2.2.2 ((pKz_21 hkz).1.mpr ht)
                             have ev9 : σ 124 9 = kV tx n9 i := by omega
                             refine hS (sx_up (sx_up (sx_up (sx_up (sx_up s p 14 (s p 14 + 1)) (p + 11) (s 32 14) (21)) (p + 12) (s 32 14) (kV tx n9 i)) 32 14 (s 32 14 + 1)) 32 13 0) _ (Or.inl ⟨ht, by omega, by omega, rfl⟩) (eC_leaf (s := s) (r := σ) (c := 21) (v := kV tx n9 i) (k := 0) (a := σ 124 9) hp hk hc0 (Or.inl rfl) (Or.inl ⟨rfl, rfl, ev9⟩) (by rw [up_n (by omega), up_n (by omega), up_n (by omega), up_n (by omega), up_n (by omega)]) (funext fun j => by rw [up_n (by omega), up_n (by omega), up_n (by omega), up_n (by omega), up_n (by omega)]) up_s (by rw [up_n (by omega), up_s]) (fun j => by
                                rw [up_n (by omega), up_n (by omega), up_n (by omega)]
                                by_cases e9 : j = s 32 14
                                · rw [if_pos e9, e9, up_s]
                                · rw [if_neg e9, up_n (by omega), up_n (by omega)]) (fun j => by
                                rw [up_n (by omega), up_n (by omega)]
                                by_cases e9 : j = s 32 14
                                · rw [if_pos e9, e9, up_s]
                                · rw [if_neg e9, up_n (by omega), up_n (by omega), up_n (by omega)]) (by rw [hf9 139 _ (by unfold FRt; omega)]; (repeat (first | rw [up_s] | rw [up_n (by omega)])); try omega) (by rw [hf9 140 _ (by unfold FRt; omega)]; (repeat (first | rw [up_s] | rw [up_n (by omega)])); try omega) (fun x j z => by rw [hf9 x j (by unfold FRt; omega)]; repeat (first | rw [up_n (by omega)])) (by rw [hf9 143 _ (by unfold FRt; omega)]; (repeat (first | rw [up_s] | rw [up_n (by omega)])); try omega) (fun d z => by rw [hf9 143 d (by unfold FRt; omega)]; repeat (first | rw [up_n (by omega)])) (by rw [hf9 _ _ (by unfold FRt; omega)]; (repeat (first | rw [up_s] | rw [up_n (by omega)])); try omega) (by rw [hf9 _ _ (by unfold FRt; omega)]; (repeat (first | rw [up_s] | rw [up_n (by omega)])); try omega) ?_ ?_ ?_) hq9 (fun a j z9 => by unfold FEs at z9; rw [hf9 a j (by unfold FRt; omega)]; repeat (first | rw [up_n (by omega)]))
                             · rw [hf9 _ _ (by unfold FRt; omega)]; (repeat (first | rw [up_n (by omega)])); exact w50
                             · rw [hf9 _ _ (by unfold FRt; omega)]; (repeat (first | rw [up_s] | rw [up_n (by omega)]))
                             · rw [hf9 _ _ (by unfold FRt; omega)]; (repeat (first | rw [up_s] | rw [up_n (by omega)])))
                          | (have ht : 10 ≤ kT tx n9 i ∧ kT tx n9 i ≤ 16 := by omega
                             refine hS (sx_up (sx_up (sx_up (sx_up (sx_up s p 14 (s p 14 + 1)) (p + 11) (s 32 14) (kT tx n9 i)) (p + 12) (s 32 14) (0)) 32 14 (s 32 14 + 1)) 32 13 0) _ (Or.inr (Or.inl ⟨ht.1, ht.2, by omega, rfl⟩)) (eC_leaf (s := s) (r := σ) (c := kT tx n9 i) (v := 0) (k := 1) (a := fPn (kT tx n9 i)) hp hk hc0 (Or.inr ht) (Or.inr ⟨by omega, rfl, rfl⟩) (by rw [up_n (by omega), up_n (by omega), up_n (by omega), up_n (by omega), up_n (by omega)]) (funext fun j => by rw [up_n (by omega), up_n (by omega), up_n (by omega), up_n (by omega), up_n (by omega)]) up_s (by rw [up_n (by omega), up_s]) (fun j => by
                                rw [up_n (by omega), up_n (by omega), up_n (by omega)]
                                by_cases e9 : j = s 32 14
                                · rw [if_pos e9, e9, up_s]
                                · rw [if_neg e9, up_n (by omega), up_n (by omega)]) (fun j => by
                                rw [up_n (by omega), up_n (by omega)]
                                by_cases e9 : j = s 32 14
                                · rw [if_pos e9, e9, up_s]
                                · rw [if_neg e9, up_n (by omega), up_n (by omega), up_n (by omega)]) (by rw [hf9 139 _ (by unfold FRt; omega)]; (repeat (first | rw [up_s] | rw [up_n (by omega)])); try omega) (by rw [hf9 140 _ (by unfold FRt; omega)]; (repeat (first | rw [up_s] | rw [up_n (by omega)])); try omega) (fun x j z => by rw [hf9 x j (by unfold FRt; omega)]; repeat (first | rw [up_n (by omega)])) (by rw [hf9 143 _ (by unfold FRt; omega)]; (repeat (first | rw [up_s] | rw [up_n (by omega)])); try omega) (fun d z => by rw [hf9 143 d (by unfold FRt; omega)]; repeat (first | rw [up_n (by omega)])) (by rw [hf9 _ _ (by unfold FRt; omega)]; (repeat (first | rw [up_s] | rw [up_n (by omega)])); try omega) (by rw [hf9 _ _ (by unfold FRt; omega)]; (repeat (first | rw [up_s] | rw [up_n (by omega)])); try omega) ?_ ?_ ?_) hq9 (fun a j z9 => by unfold FEs at z9; rw [hf9 a j (by unfold FRt; omega)]; repeat (first | rw [up_n (by omega)]))
                             · rw [hf9 _ _ (by unfold FRt; omega)]; (repeat (first | rw [up_n (by omega)])); exact w50
                             · rw [hf9 _ _ (by unfold FRt; omega)]; (repeat (first | rw [up_s] | rw [up_n (by omega)]))
                             · rw [hf9 _ _ (by unfold FRt; omega)]; (repeat (first | rw [up_s] | rw [up_n (by omega)])))
                        · simp only [sx_cc, Classical.not_not] at g
                          conv => whnf
                          refine ⟨Nat.le_of_ble_eq_true rfl, Nat.le_of_ble_eq_true rfl, (by first | assumption | rfl), ?_⟩
                          refine r_grown (rQ_up hq (by unfold FRd; omega)) (w := s 32 14) (d := dpF (s (p + 11)) lo (s 32 14)) (by rw [up_n (by omega)]; exact w22) (by rw [up_n (by omega)]; exact w49) (by omega) (by omega) ?_
                          conv => whnf
                          refine ⟨(by first | assumption | rfl), by omega, ?_⟩
                          try simp (disch := omega) only [Int.cast_ofNat_Int, up_s, up_a, up_i, mp_a, mp_ge]
                          try simp only [w50]
                          try simp only [w51]
                          try simp only [w48]
                          try simp only [w22]
                          try simp only [w49]
                          try simp only [ern]
                          conv => whnf
                          refine ⟨Nat.le_of_ble_eq_true rfl, Nat.le_of_ble_eq_true rfl, (by first | assumption | rfl), ?_⟩
                          refine r_tok (tx := tx) (n9 := n9) (i := i) (by repeat (first | exact hq | refine rQ_up ?_ (by unfold FRd; omega))) (fun σ9 hf9 hq9 => ?_)
                          conv => whnf
                          refine ⟨fun q9 => by first | (simp at q9; done) | omega, ?_⟩
                          first
                          | (have ht : kT tx n9 i = 21 := by omega
                             have hkv := (pKz_21 hkz).2.2.2.2 ((pKz_21 hkz).1.mpr ht)
                             have ev9 : σ 124 9 = kV tx n9 i := by omega
                             refine hS (sx_up (sx_up (sx_up (sx_up (sx_up s p 14 (s p 14 + 1)) (p + 11) (s 32 14) (21)) (p + 12) (s 32 14) (kV tx n9 i)) 32 14 (s 32 14 + 1)) 32 13 0) _ (Or.inl ⟨ht, by omega, by omega, rfl⟩) (eC_leaf (s := s) (r := σ) (c := 21) (v := kV tx n9 i) (k := 0) (a := σ 124 9) hp hk hc0 (Or.inl rfl) (Or.inl ⟨rfl, rfl, ev9⟩) (by rw [up_n (by omega), up_n (by omega), up_n (by omega), up_n (by omega), up_n (by omega)]) (funext fun j => by rw [up_n (by omega), up_n (by omega), up_n (by omega), up_n (by omega), up_n (by omega)]) up_s (by rw [up_n (by omega), up_s]) (fun j => by
                                rw [up_n (by omega), up_n (by omega), up_n (by omega)]
                                by_cases e9 : j = s 32 14
                                · rw [if_pos e9, e9, up_s]
                                · rw [if_neg e9, up_n (by omega), up_n (by omega)]) (fun j => by
                                rw [up_n (by omega), up_n (by omega)]
                                by_cases e9 : j = s 32 14
                                · rw [if_pos e9, e9, up_s]
                                · rw [if_neg e9, up_n (by omega), up_n (by omega), up_n (by omega)]) (by rw [hf9 139 _ (by unfold FRt; omega)]; (repeat (first | rw [up_s] | rw [up_n (by omega)])); try omega) (by rw [hf9 140 _ (by unfold FRt; omega)]; (repeat (first | rw [up_s] | rw [up_n (by omega)])); try omega) (fun x j z => by rw [hf9 x j (by unfold FRt; omega)]; repeat (first | rw [up_n (by omega)])) (by rw [hf9 143 _ (by unfold FRt; omega)]; (repeat (first | rw [up_s] | rw [up_n (by omega)])); try omega) (fun d z => by rw [hf9 143 d (by unfold FRt; omega)]; repeat (first | rw [up_n (by omega)])) (by rw [hf9 _ _ (by unfold FRt; omega)]; (repeat (first | rw [up_s] | rw [up_n (by omega)])); try omega) (by rw [hf9 _ _ (by unfold FRt; omega)]; (repeat (first | rw [up_s] | rw [up_n (by omega)])); try omega) ?_ ?_ ?_) hq9 (fun a j z9 => by unfold FEs at z9; rw [hf9 a j (by unfold FRt; omega)]; repeat (first | rw [up_n (by omega)]))
                             · rw [hf9 _ _ (by unfold FRt; omega)]; (repeat (first | rw [up_n (by omega)])); exact w50
                             · rw [hf9 _ _ (by unfold FRt; omega)]; (repeat (first | rw [up_s] | rw [up_n (by omega)]))
                             · rw [hf9 _ _ (by unfold FRt; omega)]; (repeat (first | rw [up_s] | rw [up_n (by omega)])))
                          | (have ht : 10 ≤ kT tx n9 i ∧ kT tx n9 i ≤ 16 := by omega
                             refine hS (sx_up (sx_up (sx_up (sx_up (sx_up s p 14 (s p 14 + 1)) (p + 11) (s 32 14) (kT tx n9 i)) (p + 12) (s 32 14) (0)) 32 14 (s 32 14 + 1)) 32 13 0) _ (Or.inr (Or.inl ⟨ht.1, ht.2, by omega, rfl⟩)) (eC_leaf (s := s) (r := σ) (c := kT tx n9 i) (v := 0) (k := 1) (a := fPn (kT tx n9 i)) hp hk hc0 (Or.inr ht) (Or.inr ⟨by omega, rfl, rfl⟩) (by rw [up_n (by omega), up_n (by omega), up_n (by omega), up_n (by omega), up_n (by omega)]) (funext fun j => by rw [up_n (by omega), up_n (by omega), up_n (by omega), up_n (by omega), up_n (by omega)]) up_s (by rw [up_n (by omega), up_s]) (fun j => by
                                rw [up_n (by omega), up_n (by omega), up_n (by omega)]
                                by_cases e9 : j = s 32 14
                                · rw [if_pos e9, e9, up_s]
                                · rw [if_neg e9, up_n (by omega), up_n (by omega)]) (fun j => by
                                rw [up_n (by omega), up_n (by omega)]
                                by_cases e9 : j = s 32 14
                                · rw [if_pos e9, e9, up_s]
                                · rw [if_neg e9, up_n (by omega), up_n (by omega), up_n (by omega)]) (by rw [hf9 139 _ (by unfold FRt; omega)]; (repeat (first | rw [up_s] | rw [up_n (by omega)])); try omega) (by rw [hf9 140 _ (by unfold FRt; omega)]; (repeat (first | rw [up_s] | rw [up_n (by omega)])); try omega) (fun x j z => by rw [hf9 x j (by unfold FRt; omega)]; repeat (first | rw [up_n (by omega)])) (by rw [hf9 143 _ (by unfold FRt; omega)]; (repeat (first | rw [up_s] | rw [up_n (by omega)])); try omega) (fun d z => by rw [hf9 143 d (by unfold FRt; omega)]; repeat (first | rw [up_n (by omega)])) (by rw [hf9 _ _ (by unfold FRt; omega)]; (repeat (first | rw [up_s] | rw [up_n (by omega)])); try omega) (by rw [hf9 _ _ (by unfold FRt; omega)]; (repeat (first | rw [up_s] | rw [up_n (by omega)])); try omega) ?_ ?_ ?_) hq9 (fun a j z9 => by unfold FEs at z9; rw [hf9 a j (by unfold FRt; omega)]; repeat (first | rw [up_n (by omega)]))
                             · rw [hf9 _ _ (by unfold FRt; omega)]; (repeat (first | rw [up_n (by omega)])); exact w50
                             · rw [hf9 _ _ (by unfold FRt; omega)]; (repeat (first | rw [up_s] | rw [up_n (by omega)]))
                             · rw [hf9 _ _ (by unfold FRt; omega)]; (repeat (first | rw [up_s] | rw [up_n (by omega)])))
                    · exact absurd g (by simp [sx_cc])
                  · have hty : kT tx n9 i = 21 ∨ (10 ≤ kT tx n9 i ∧ kT tx n9 i ≤ 16) := by omega
                    conv => whnf
                    refine ⟨fun g => ?_, fun g => ?_⟩
                    · exact absurd g (by simp [sx_cc])
                    · skip
                      conv => whnf
                      refine ⟨fun q9 => by first | (simp at q9; done) | omega, ?_⟩
                      rcases hty with ht | ht
                      · exact hF _ _ (Or.inl ⟨ht, by omega, rfl⟩) (fun a j z9 => by unfold FEq at z9; rw [up_n (by omega), up_n (by omega)]) ⟨by rw [up_n (by omega), up_s], by rw [up_s, ha]⟩
                      · exact hF _ _ (Or.inr (Or.inl ⟨ht.1, ht.2, by omega, rfl⟩)) (fun a j z9 => by unfold FEq at z9; rw [up_n (by omega), up_n (by omega)]) ⟨by rw [up_n (by omega), up_s], by rw [up_s, ha]⟩
                · simp only [sx_cc, Classical.not_not] at g
                  conv => whnf
                  refine ⟨Nat.le_of_ble_eq_true rfl, Nat.le_of_ble_eq_true rfl, (by first | assumption | rfl), ?_⟩
                  refine r_wrong ?_
                  conv => whnf
                  refine ⟨fun q9 => by first | (simp at q9; done) | omega, ?_⟩
                  exact hF _ _ (Or.inl ⟨by omega, by omega, rfl⟩) (fun a j z9 => by unfold FEq at z9; rw [up_n (by omega), up_n (by omega)]) ⟨by rw [up_n (by omega), up_s], by rw [up_s, ha]⟩
            · simp only [sx_cc, Classical.not_not] at g
              have g3 := g
              have hnn : ¬ (10 ≤ kT tx n9 i ∧ kT tx n9 i ≤ 16) := by omega
              skip
              conv => whnf
              refine ⟨Nat.le_of_ble_eq_true rfl, Nat.le_of_ble_eq_true rfl, (by first | assumption | rfl), ?_⟩
              refine r_wrong ?_
              conv => whnf
              refine ⟨fun q9 => by first | (simp at q9; done) | omega, ?_⟩
              exact hF _ _ (Or.inr (Or.inr (Or.inr (Or.inr (⟨fun z => g3 ((pKz_21 hkz).1.mpr z), hnn, n23, n19, rfl⟩))))) (fun a j z9 => by unfold FEq at z9; rw [up_n (by omega), up_n (by omega)]) ⟨by rw [up_n (by omega), up_s], by rw [up_s, ha]⟩
        · exact absurd g (by simp [sx_cc])
    · exact absurd g (by simp [sx_cc])
end SXR7
