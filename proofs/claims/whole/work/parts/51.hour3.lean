/-! AN HOUR, reference side: its loop (by wip/whole) -/
section SXK11
variable {X : sx_X} {σ σ0 : sx_S} {Q : sx_R}
set_option maxRecDepth 20000 in
theorem c_Rhour (hT : PT σ) (hd : RD σ) (hsc0 : SCK σ) {b : Int} (hb : b = 0 ∨ b = 1) (hn : 0 ≤ σ 154 b ∧ σ 154 b ≤ 90) (hmk : ∀ m : Int, 0 ≤ m → m < σ 154 b → (0 ≤ σ 146 (90 * b + m) ∧ σ 146 (90 * b + m) < 5) ∧ (0 ≤ σ 147 (90 * b + m) ∧ σ 147 (90 * b + m) < 48) ∧ (0 ≤ σ 149 (90 * b + m) ∧ σ 149 (90 * b + m) ≤ 9999) ∧ (0 ≤ σ 150 (90 * b + m) ∧ σ 150 (90 * b + m) ≤ 1000000) ∧ 0 ≤ σ 151 (90 * b + m)) (hho : ∀ i : Int, 0 ≤ i → i < 5 → 0 ≤ σ 134 i ∧ σ 134 i < 48) (hhr : 0 ≤ σ 156 b ∧ σ 156 b ≤ 9999) (ht : ¬ σ 136 1 = 0) (hlo : 0 ≤ σ 137 1 ∧ σ 137 1 < σ 138 1 ∧ σ 138 1 ≤ 64) (hkn : ∀ i : Int, σ 137 1 ≤ i → i < σ 138 1 → pKn (σ 139) (σ 140) (σ 141) i ∧ pKl (σ 139) (σ 140) (σ 141) (σ 137 1) i) {o : Int → Option Int} (hnb : ∀ m : Int, 0 ≤ m → m < σ 154 b → ∀ j : Int, 0 ≤ j → j < 7 → pB12 ((fNm (σ 132 (σ 146 (90 * b + m))) (σ 133 (σ 146 (90 * b + m))) (fFar (σ 124 12) (σ 147 (90 * b + m)) (σ 134 (σ 146 (90 * b + m)))) (σ 150 (90 * b + m)) (σ 156 b - σ 149 (90 * b + m)) (σ 155 b) (fB (σ 128 (σ 147 (90 * b + m)) = σ 131 (σ 146 (90 * b + m))))) j)) (ho : ∀ m : Int, 0 ≤ m → m < σ 154 b → o m = fLaw (σ 139) (σ 140) (σ 141) (fNm (σ 132 (σ 146 (90 * b + m))) (σ 133 (σ 146 (90 * b + m))) (fFar (σ 124 12) (σ 147 (90 * b + m)) (σ 134 (σ 146 (90 * b + m)))) (σ 150 (90 * b + m)) (σ 156 b - σ 149 (90 * b + m)) (σ 155 b) (fB (σ 128 (σ 147 (90 * b + m)) = σ 131 (σ 146 (90 * b + m))))) (σ 137 1) (σ 138 1)) (h : ∀ σ', eqR (sx_up (sx_mq σ 150 (90 * b) (σ 154 b) (fHr (fun j => σ 150 (90 * b + j)) (fun j => σ 151 (90 * b + j)) o)) 156 b (σ 156 b + 1)) σ' → SCK σ' → Q none shM σ') : sx_Run X 243 [.inr (.inr 124), .inl b] shM σ Q := by
  refine sx_rule2 (own := 12) (cd := kX12_anHour) (nL := 5) (by decide +kernel) (by decide +kernel) kX12_anHour_ok (by decide +kernel) (Nat.le_of_ble_eq_true rfl) [2] 40 (fun n t L st _ σ' => (t = 2 ∧ ∃ i : Int, ∃ w3 : Option sx_V, ∃ w4 : Option sx_V, st = [] ∧ L = [some (.inr (.inr (124))), some (.inl (b)), some (.inl (i)), w3, w4] ∧ (eqR (sx_mq σ 150 (90 * b) i (fHr (fun j => σ 150 (90 * b + j)) (fun j => σ 151 (90 * b + j)) o)) σ' ∧ SCK σ' ∧ 0 ≤ i ∧ i ≤ σ 154 b) ∧ n = (σ 154 b - i).toNat)) ?_ ?_
  · skip
    conv => whnf
    refine ⟨_, ⟨rfl, _, _, _, rfl, rfl, ?_, rfl⟩⟩
    exact ⟨by rw [mq_0]; exact eqR_rfl σ, hsc0, by omega, by omega⟩
  · intro n t L st σ' hk
    obtain ⟨rfl, i, w3, w4, rfl, rfl, hc, rfl⟩ := hk
    obtain ⟨heq, hsc, hi0, hi1⟩ := hc
    have hT' := heq.pt (PT_mq hT lk_150 (by decide))
    have f39 := pt_124_39 hT'
    have f61 := pt_124_61 hT'
    have f62 := pt_124_62 hT'
    have f65 := pt_124_65 hT'
    have f67 := pt_124_67 hT'
    have e128 : σ' 128 = σ 128 := (heq.row (by decide) (by decide) (by decide)).trans (funext fun j => mq_a (by decide))
    have e131 : σ' 131 = σ 131 := (heq.row (by decide) (by decide) (by decide)).trans (funext fun j => mq_a (by decide))
    have e132 : σ' 132 = σ 132 := (heq.row (by decide) (by decide) (by decide)).trans (funext fun j => mq_a (by decide))
    have e133 : σ' 133 = σ 133 := (heq.row (by decide) (by decide) (by decide)).trans (funext fun j => mq_a (by decide))
    have e134 : σ' 134 = σ 134 := (heq.row (by decide) (by decide) (by decide)).trans (funext fun j => mq_a (by decide))
    have e136 : σ' 136 = σ 136 := (heq.row (by decide) (by decide) (by decide)).trans (funext fun j => mq_a (by decide))
    have e137 : σ' 137 = σ 137 := (heq.row (by decide) (by decide) (by decide)).trans (funext fun j => mq_a (by decide))
    have e138 : σ' 138 = σ 138 := (heq.row (by decide) (by decide) (by decide)).trans (funext fun j => mq_a (by decide))
    have e139 : σ' 139 = σ 139 := (heq.row (by decide) (by decide) (by decide)).trans (funext fun j => mq_a (by decide))
    have e140 : σ' 140 = σ 140 := (heq.row (by decide) (by decide) (by decide)).trans (funext fun j => mq_a (by decide))
    have e141 : σ' 141 = σ 141 := (heq.row (by decide) (by decide) (by decide)).trans (funext fun j => mq_a (by decide))
    have e146 : σ' 146 = σ 146 := (heq.row (by decide) (by decide) (by decide)).trans (funext fun j => mq_a (by decide))
    have e147 : σ' 147 = σ 147 := (heq.row (by decide) (by decide) (by decide)).trans (funext fun j => mq_a (by decide))
    have e149 : σ' 149 = σ 149 := (heq.row (by decide) (by decide) (by decide)).trans (funext fun j => mq_a (by decide))
    have e151 : σ' 151 = σ 151 := (heq.row (by decide) (by decide) (by decide)).trans (funext fun j => mq_a (by decide))
    have e154 : σ' 154 = σ 154 := (heq.row (by decide) (by decide) (by decide)).trans (funext fun j => mq_a (by decide))
    have e155 : σ' 155 = σ 155 := (heq.row (by decide) (by decide) (by decide)).trans (funext fun j => mq_a (by decide))
    have e156 : σ' 156 = σ 156 := (heq.row (by decide) (by decide) (by decide)).trans (funext fun j => mq_a (by decide))
    have e12 : σ' 124 12 = σ 124 12 := (heq 124 12 (by decide) (by decide) (by decide)).trans (mq_a (by decide))
    have e13 : σ' 124 13 = σ 124 13 := (heq 124 13 (by decide) (by decide) (by decide)).trans (mq_a (by decide))
    have e150 : σ' 150 (90 * b + i) = σ 150 (90 * b + i) := by rw [heq.row (by decide) (by decide) (by decide), mq_ge (by omega)]
    have hmi := hmk i hi0
    conv => whnf
    refine ⟨(by first | assumption | rfl), ?_⟩
    try simp (disch := omega) only [Int.cast_ofNat_Int, up_s, up_a, up_i, mp_a, mp_ge, f39, f61, f62, f65, f67, e154, e136, e150, e151, e156]
    conv => whnf
    refine ⟨sx_ixI (by first | assumption | rfl) (by omega) (by omega), ?_⟩
    try simp (disch := omega) only [Int.cast_ofNat_Int, up_s, up_a, up_i, mp_a, mp_ge, f39, f61, f62, f65, f67, e154, e136, e150, e151, e156]
    conv => whnf
    refine ⟨fun g => ?_, fun g => ?_⟩
    · simp only [sx_cc, Classical.not_not] at g
      conv => whnf
      refine ⟨(by first | assumption | rfl), ?_⟩
      try simp (disch := omega) only [Int.cast_ofNat_Int, up_s, up_a, up_i, mp_a, mp_ge, f39, f61, f62, f65, f67, e154, e136, e150, e151, e156]
      conv => whnf
      refine ⟨sx_ixI (by first | assumption | rfl) (by omega) (by omega), ?_⟩
      try simp (disch := omega) only [Int.cast_ofNat_Int, up_s, up_a, up_i, mp_a, mp_ge, f39, f61, f62, f65, f67, e154, e136, e150, e151, e156]
      conv => whnf
      refine ⟨⟨by omega, by omega⟩, ?_⟩
      conv => whnf
      refine ⟨sx_ixI (by first | assumption | rfl) (by omega) (by omega), ?_⟩
      conv => whnf
      refine ⟨rfl, ?_⟩
      have e9 : i = σ 154 b := by omega
      subst e9
      exact h _ heq.up (SCK_up hsc (by decide) (by decide))
    · simp only [sx_cc, Classical.not_not] at g
      conv => whnf
      refine ⟨(by first | assumption | rfl), ?_⟩
      try simp (disch := omega) only [Int.cast_ofNat_Int, up_s, up_a, up_i, mp_a, mp_ge, f39, f61, f62, f65, f67, e154, e136, e150, e151, e156]
      conv => whnf
      refine ⟨by decide, ?_⟩
      conv => whnf
      refine ⟨sx_ixI (by first | assumption | rfl) (by omega) (by omega), ?_⟩
      try simp (disch := omega) only [Int.cast_ofNat_Int, up_s, up_a, up_i, mp_a, mp_ge, f39, f61, f62, f65, f67, e154, e136, e150, e151, e156]
      conv => whnf
      refine ⟨fun g => ?_, fun g => ?_⟩
      · simp only [sx_cc, Classical.not_not] at g
        exact absurd g ht
      · simp only [sx_cc, Classical.not_not] at g
        conv => whnf
        refine ⟨⟨by omega, by omega⟩, ?_⟩
        conv => whnf
        refine ⟨⟨by omega, by omega⟩, ?_⟩
        conv => whnf
        refine ⟨(by first | assumption | rfl), ?_⟩
        try simp (disch := omega) only [Int.cast_ofNat_Int, up_s, up_a, up_i, mp_a, mp_ge, f39, f61, f62, f65, f67, e154, e136, e150, e151, e156]
        conv => whnf
        refine ⟨sx_ixI (by first | assumption | rfl) (by omega) (by omega), ?_⟩
        try simp (disch := omega) only [Int.cast_ofNat_Int, up_s, up_a, up_i, mp_a, mp_ge, f39, f61, f62, f65, f67, e154, e136, e150, e151, e156]
        conv => whnf
        refine ⟨fun g => ?_, fun g => ?_⟩
        · simp only [sx_cc, Classical.not_not] at g
          conv => whnf
          refine ⟨⟨by omega, by omega⟩, ?_⟩
          conv => whnf
          refine ⟨_, ?_, ⟨rfl, _, _, _, rfl, rfl, ?_, rfl⟩⟩
          · omega
          · first | exact ⟨by rw [← mq_s hi0 (v := σ 150 (90 * b + i) - v) (show _ = (fHr (fun j => σ 150 (90 * b + j)) (fun j => σ 151 (90 * b + j)) o) i from by show _ = (if 0 < σ 150 (90 * b + i) ∧ σ 151 (90 * b + i) = 0 then fMax0 (σ 150 (90 * b + i) - fBl (o i) 0 0 99) else _); rw [if_pos ⟨by omega, by omega⟩, ← hv']; unfold fMax0; rw [if_pos (by omega)])]; exact (heq.trans heq3).up, SCK_up hsc2 (by decide) (by decide), by omega, by omega⟩ | exact ⟨by rw [← mq_s hi0 (v := 0) (show _ = (fHr (fun j => σ 150 (90 * b + j)) (fun j => σ 151 (90 * b + j)) o) i from by show _ = (if 0 < σ 150 (90 * b + i) ∧ σ 151 (90 * b + i) = 0 then fMax0 (σ 150 (90 * b + i) - fBl (o i) 0 0 99) else _); rw [if_pos ⟨by omega, by omega⟩, ← hv']; unfold fMax0; rw [if_neg (by omega)])]; exact (heq.trans heq3).up, SCK_up hsc2 (by decide) (by decide), by omega, by omega⟩ | exact ⟨by rw [← mq_n hi0 (show σ 150 (90 * b + i) = (fHr (fun j => σ 150 (90 * b + j)) (fun j => σ 151 (90 * b + j)) o) i from (if_neg (c := 0 < σ 150 (90 * b + i) ∧ σ 151 (90 * b + i) = 0) (by omega)).symm)]; exact heq, hsc, by omega, by omega⟩
        · simp only [sx_cc, Classical.not_not] at g
          conv => whnf
          refine ⟨(by first | assumption | rfl), ?_⟩
          try simp (disch := omega) only [Int.cast_ofNat_Int, up_s, up_a, up_i, mp_a, mp_ge, f39, f61, f62, f65, f67, e154, e136, e150, e151, e156]
          conv => whnf
          refine ⟨sx_ixI (by first | assumption | rfl) (by omega) (by omega), ?_⟩
          try simp (disch := omega) only [Int.cast_ofNat_Int, up_s, up_a, up_i, mp_a, mp_ge, f39, f61, f62, f65, f67, e154, e136, e150, e151, e156]
          conv => whnf
          refine ⟨fun g => ?_, fun g => ?_⟩
          · simp only [sx_cc, Classical.not_not] at g
            conv => whnf
            refine ⟨Nat.le_of_ble_eq_true rfl, Nat.le_of_ble_eq_true rfl, (by first | assumption | rfl), ?_⟩
            obtain ⟨u1, u2, u3, u4, u5⟩ := hmi (by omega)
            refine c_Rlaymark hT' (by unfold RD; rw [e12, e13]; exact hd) hb ⟨by omega, by omega⟩ (by rw [e146]; exact u1) (by rw [e147]; exact u2) (by rw [e134, e146]; exact hho _ u1.1 u1.2) (by rw [e156, e149]; exact ⟨hhr.1, hhr.2, u3.1, u3.2⟩) ?_
            simp only [e128, e131, e132, e133, e134, e136, e137, e138, e139, e140, e141, e146, e147, e149, e151, e154, e155, e156, e12, e13, e150]
            generalize e1 : sx_mp σ' 144 7 _ = σ1
            have hT1 : PT σ1 := by rw [← e1]; exact PT_mp hT' lk_144 (by decide)
            have hsc1 : SCK σ1 := by rw [← e1]; exact SCK_mp hsc _
            have d136 : σ1 136 = σ 136 := by rw [← e1, ← e136]; exact funext fun j => mp_a (by decide)
            have d137 : σ1 137 = σ 137 := by rw [← e1, ← e137]; exact funext fun j => mp_a (by decide)
            have d138 : σ1 138 = σ 138 := by rw [← e1, ← e138]; exact funext fun j => mp_a (by decide)
            have d139 : σ1 139 = σ 139 := by rw [← e1, ← e139]; exact funext fun j => mp_a (by decide)
            have d140 : σ1 140 = σ 140 := by rw [← e1, ← e140]; exact funext fun j => mp_a (by decide)
            have d141 : σ1 141 = σ 141 := by rw [← e1, ← e141]; exact funext fun j => mp_a (by decide)
            have d144 : ∀ j : Int, 0 ≤ j → j < 7 → σ1 144 j = (fNm (σ 132 (σ 146 (90 * b + i))) (σ 133 (σ 146 (90 * b + i))) (fFar (σ 124 12) (σ 147 (90 * b + i)) (σ 134 (σ 146 (90 * b + i)))) (σ 150 (90 * b + i)) (σ 156 b - σ 149 (90 * b + i)) (σ 155 b) (fB (σ 128 (σ 147 (90 * b + i)) = σ 131 (σ 146 (90 * b + i))))) j := fun j y0 y1 => by rw [← e1, mp_in y0 y1]
            conv => whnf
            refine ⟨Nat.le_of_ble_eq_true rfl, Nat.le_of_ble_eq_true rfl, (by first | assumption | rfl), ?_⟩
            refine c_Rboundlaw hT1 hsc1 (by decide) ⟨by decide, by decide, by decide⟩ (by rw [d137, d138]; exact fun _ => hlo) (by rw [d137, d138, d139, d140, d141]; exact fun _ => hkn) (fun j y0 y1 => by rw [d144 j y0 y1]; exact hnb i hi0 (by omega) j y0 y1) (fun z => absurd z (by rw [d136]; exact ht)) (fun _ σ2 v heq2 hsc2 hv => ?_)
            have hv' : v = fBl (o i) 0 0 99 := by
              rw [hv, d137, d138, d139, d140, d141, ho i hi0 (by omega), fLaw_nm (by omega) (fun x y0 y1 y2 => d144 _ ((hkn x y0 y1).1.2.2.2.1 y2).1 ((hkn x y0 y1).1.2.2.2.1 y2).2)]
            have hvb := fBl_bd (o := o i) (lo := 0) (df := 0) (by decide) (by decide)
            have heq3 := eqR_of e1.symm heq2
            have hT2 := heq3.pt hT'
            have c61 := pt_124_61 hT2
            have c150 : σ2 150 (90 * b + i) = σ 150 (90 * b + i) := by rw [heq3.row (by decide) (by decide) (by decide), e150]
            conv => whnf
            refine ⟨(by first | assumption | rfl), ?_⟩
            try simp (disch := omega) only [Int.cast_ofNat_Int, up_s, up_a, up_i, mp_a, mp_ge, f39, f61, f62, f65, f67, e154, e136, e150, e151, e156, c61, c150]
            conv => whnf
            refine ⟨(by first | assumption | rfl), ?_⟩
            try simp (disch := omega) only [Int.cast_ofNat_Int, up_s, up_a, up_i, mp_a, mp_ge, f39, f61, f62, f65, f67, e154, e136, e150, e151, e156, c61, c150]
            conv => whnf
            refine ⟨sx_ixI (by first | assumption | rfl) (by omega) (by omega), ?_⟩
            try simp (disch := omega) only [Int.cast_ofNat_Int, up_s, up_a, up_i, mp_a, mp_ge, f39, f61, f62, f65, f67, e154, e136, e150, e151, e156, c61, c150]
            conv => whnf
            refine ⟨fun g => ?_, fun g => ?_⟩
            · simp only [sx_cc, Classical.not_not] at g
              conv => whnf
              refine ⟨sx_ixI (by first | assumption | rfl) (by omega) (by omega), ?_⟩
              conv => whnf
              refine ⟨⟨by omega, by omega⟩, ?_⟩
              conv => whnf
              refine ⟨_, ?_, ⟨rfl, _, _, _, rfl, rfl, ?_, rfl⟩⟩
              · omega
              · first | exact ⟨by rw [← mq_s hi0 (v := σ 150 (90 * b + i) - v) (show _ = (fHr (fun j => σ 150 (90 * b + j)) (fun j => σ 151 (90 * b + j)) o) i from by show _ = (if 0 < σ 150 (90 * b + i) ∧ σ 151 (90 * b + i) = 0 then fMax0 (σ 150 (90 * b + i) - fBl (o i) 0 0 99) else _); rw [if_pos ⟨by omega, by omega⟩, ← hv']; unfold fMax0; rw [if_pos (by omega)])]; exact (heq.trans heq3).up, SCK_up hsc2 (by decide) (by decide), by omega, by omega⟩ | exact ⟨by rw [← mq_s hi0 (v := 0) (show _ = (fHr (fun j => σ 150 (90 * b + j)) (fun j => σ 151 (90 * b + j)) o) i from by show _ = (if 0 < σ 150 (90 * b + i) ∧ σ 151 (90 * b + i) = 0 then fMax0 (σ 150 (90 * b + i) - fBl (o i) 0 0 99) else _); rw [if_pos ⟨by omega, by omega⟩, ← hv']; unfold fMax0; rw [if_neg (by omega)])]; exact (heq.trans heq3).up, SCK_up hsc2 (by decide) (by decide), by omega, by omega⟩ | exact ⟨by rw [← mq_n hi0 (show σ 150 (90 * b + i) = (fHr (fun j => σ 150 (90 * b + j)) (fun j => σ 151 (90 * b + j)) o) i from (if_neg (c := 0 < σ 150 (90 * b + i) ∧ σ 151 (90 * b + i) = 0) (by omega)).symm)]; exact heq, hsc, by omega, by omega⟩
            · simp only [sx_cc, Classical.not_not] at g
              conv => whnf
              refine ⟨(by first | assumption | rfl), ?_⟩
              try simp (disch := omega) only [Int.cast_ofNat_Int, up_s, up_a, up_i, mp_a, mp_ge, f39, f61, f62, f65, f67, e154, e136, e150, e151, e156, c61, c150]
              conv => whnf
              refine ⟨sx_ixI (by first | assumption | rfl) (by omega) (by omega), ?_⟩
              try simp (disch := omega) only [Int.cast_ofNat_Int, up_s, up_a, up_i, mp_a, mp_ge, f39, f61, f62, f65, f67, e154, e136, e150, e151, e156, c61, c150]
              conv => whnf
              refine ⟨⟨by omega, by omega⟩, ?_⟩
              conv => whnf
              refine ⟨sx_ixI (by first | assumption | rfl) (by omega) (by omega), ?_⟩
              conv => whnf
              refine ⟨⟨by omega, by omega⟩, ?_⟩
              conv => whnf
              refine ⟨_, ?_, ⟨rfl, _, _, _, rfl, rfl, ?_, rfl⟩⟩
              · omega
              · first | exact ⟨by rw [← mq_s hi0 (v := σ 150 (90 * b + i) - v) (show _ = (fHr (fun j => σ 150 (90 * b + j)) (fun j => σ 151 (90 * b + j)) o) i from by show _ = (if 0 < σ 150 (90 * b + i) ∧ σ 151 (90 * b + i) = 0 then fMax0 (σ 150 (90 * b + i) - fBl (o i) 0 0 99) else _); rw [if_pos ⟨by omega, by omega⟩, ← hv']; unfold fMax0; rw [if_pos (by omega)])]; exact (heq.trans heq3).up, SCK_up hsc2 (by decide) (by decide), by omega, by omega⟩ | exact ⟨by rw [← mq_s hi0 (v := 0) (show _ = (fHr (fun j => σ 150 (90 * b + j)) (fun j => σ 151 (90 * b + j)) o) i from by show _ = (if 0 < σ 150 (90 * b + i) ∧ σ 151 (90 * b + i) = 0 then fMax0 (σ 150 (90 * b + i) - fBl (o i) 0 0 99) else _); rw [if_pos ⟨by omega, by omega⟩, ← hv']; unfold fMax0; rw [if_neg (by omega)])]; exact (heq.trans heq3).up, SCK_up hsc2 (by decide) (by decide), by omega, by omega⟩ | exact ⟨by rw [← mq_n hi0 (show σ 150 (90 * b + i) = (fHr (fun j => σ 150 (90 * b + j)) (fun j => σ 151 (90 * b + j)) o) i from (if_neg (c := 0 < σ 150 (90 * b + i) ∧ σ 151 (90 * b + i) = 0) (by omega)).symm)]; exact heq, hsc, by omega, by omega⟩
          · simp only [sx_cc, Classical.not_not] at g
            conv => whnf
            refine ⟨⟨by omega, by omega⟩, ?_⟩
            conv => whnf
            refine ⟨_, ?_, ⟨rfl, _, _, _, rfl, rfl, ?_, rfl⟩⟩
            · omega
            · first | exact ⟨by rw [← mq_s hi0 (v := σ 150 (90 * b + i) - v) (show _ = (fHr (fun j => σ 150 (90 * b + j)) (fun j => σ 151 (90 * b + j)) o) i from by show _ = (if 0 < σ 150 (90 * b + i) ∧ σ 151 (90 * b + i) = 0 then fMax0 (σ 150 (90 * b + i) - fBl (o i) 0 0 99) else _); rw [if_pos ⟨by omega, by omega⟩, ← hv']; unfold fMax0; rw [if_pos (by omega)])]; exact (heq.trans heq3).up, SCK_up hsc2 (by decide) (by decide), by omega, by omega⟩ | exact ⟨by rw [← mq_s hi0 (v := 0) (show _ = (fHr (fun j => σ 150 (90 * b + j)) (fun j => σ 151 (90 * b + j)) o) i from by show _ = (if 0 < σ 150 (90 * b + i) ∧ σ 151 (90 * b + i) = 0 then fMax0 (σ 150 (90 * b + i) - fBl (o i) 0 0 99) else _); rw [if_pos ⟨by omega, by omega⟩, ← hv']; unfold fMax0; rw [if_neg (by omega)])]; exact (heq.trans heq3).up, SCK_up hsc2 (by decide) (by decide), by omega, by omega⟩ | exact ⟨by rw [← mq_n hi0 (show σ 150 (90 * b + i) = (fHr (fun j => σ 150 (90 * b + j)) (fun j => σ 151 (90 * b + j)) o) i from (if_neg (c := 0 < σ 150 (90 * b + i) ∧ σ 151 (90 * b + i) = 0) (by omega)).symm)]; exact heq, hsc, by omega, by omega⟩
end SXK11
