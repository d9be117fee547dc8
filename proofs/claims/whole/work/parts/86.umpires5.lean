/-! UMPIRES, reference side: laid, told (by wip/whole) -/
section SXM19
variable {X : sx_X} {Q : sx_R} {p : Int} {σ σ0 σ' σ1 σ2 : sx_S} {P : aP} {A : aM}
abbrev FUm (a i : Int) : Prop := a = 165 ∨ a = 166 ∨ (a = 124 ∧ i = 81)
theorem FUm_pts : ptL.all (fun q => decide (¬ FUm q.1 q.2.1)) = true := by decide +kernel
theorem fr.ptum {σ σ' : sx_S} (h : fr FUm σ σ') (hT : PT σ) : PT σ' := hT.fr (fun q hq => h _ _ (of_decide_eq_true (List.all_eq_true.mp FUm_pts q hq)))
theorem fum_rp (h : fr FUm σ σ') (g : rP σ P) : rP σ' P := g.of (fun a i z1 z2 => h _ _ (by unfold FUm; omega)) (fun i z1 z2 => h _ _ (by unfold FUm; omega))
set_option maxRecDepth 20000 in
theorem c_Rlayu (wp : wP P) (hT : PT σ) (gp : rP σ P) {g9 : Int} (hg : -9223372036854775808 ≤ g9 ∧ g9 ≤ 9223372036854775807) (h0 : ∀ σ', fr FUm σ σ' → σ' 124 81 = -1 → pUm P (P.w * P.h) g9 (-2) (σ' 166) → Q none shM σ') (h1 : ∀ σ', fr FUm σ σ' → 0 ≤ σ' 124 81 → pUm P (P.w * P.h) g9 (σ' 124 81) (σ' 166) → Q none shM σ') : sx_Run X 289 [.inr (.inr 124), .inr (.inl g9)] shM σ Q := by
  have v4 := wp.wh
  refine sx_rule2 (own := 12) (cd := kX12_layUmpires) (nL := 4) (by decide +kernel) (by decide +kernel) kX12_layUmpires_ok (by decide +kernel) (Nat.le_of_ble_eq_true rfl) [19, 60] 40 (fun n t L st _ σ' => (t = 19 ∧ ∃ i : Int, st = [] ∧ L = [some (.inr (.inr (124))), some (.inr (.inl (g9))), none, some (.inl (i))] ∧ (fr FUm σ σ' ∧ σ' 124 81 = -1 ∧ ¬ g9 = 0 ∧ (∀ c : Int, 0 ≤ c → c < i → σ' 165 c = fS P c) ∧ 0 ≤ i ∧ i ≤ (P.w * P.h)) ∧ n = (500 - i).toNat) ∨ (t = 60 ∧ ∃ x : Int, st = [] ∧ L = [some (.inr (.inr (124))), some (.inr (.inl (g9))), none, some (.inl (x))] ∧ (fr FUm σ σ' ∧ ¬ g9 = 0 ∧ (∀ c : Int, 0 ≤ c → c < (P.w * P.h) → σ' 165 c = fS P c) ∧ 1 ≤ x ∧ x ≤ 4 ∧ (σ' 124 81 = -1 → (1 < x → pN1 P (P.w * P.h) g9) ∧ (2 < x → pN2 P (P.w * P.h) 0 g9) ∧ (3 < x → pN3 P (P.w * P.h) g9)) ∧ (¬ σ' 124 81 = -1 → 0 ≤ σ' 124 81 ∧ pUm P (P.w * P.h) g9 (σ' 124 81) (σ' 166))) ∧ n = (10 - x).toNat)) ?_ ?_
  · skip
    conv => whnf
    refine ⟨(by first | assumption | rfl), ?_⟩
    try simp (disch := omega) only [Int.cast_ofNat_Int, up_s, up_a, up_i, mp_a, mp_ge]
    try simp only [r80]
    try simp only [r30]
    try simp only [eki]
    generalize e1 : sx_up σ 124 81 (-1) = σ1
    have f1 : fr FUm σ σ1 := fun a i z9 => by rw [← e1, up_n (by unfold FUm at z9; omega)]
    have y1 : σ1 124 81 = -1 := by rw [← e1, up_s]
    conv => whnf
    refine ⟨fun g => ?_, fun g => ?_⟩
    · simp only [sx_cc, Classical.not_not] at g
      try simp only [cmp_eq, cmp_lt, cmp_ge, Classical.not_not] at g
      conv => whnf
      refine ⟨_, Or.inl ⟨rfl, _, rfl, rfl, ?_, rfl⟩⟩
      exact ⟨f1, y1, by assumption, fun c w0 w1 => by omega, by omega, by omega⟩
    · simp only [sx_cc, Classical.not_not] at g
      try simp only [cmp_eq, cmp_lt, cmp_ge, Classical.not_not] at g
      conv => whnf
      refine ⟨(by first | assumption | rfl), ?_⟩
      try simp (disch := omega) only [Int.cast_ofNat_Int, up_s, up_a, up_i, mp_a, mp_ge]
      try simp only [r80]
      try simp only [r30]
      try simp only [eki]
      conv => whnf
      refine ⟨rfl, ?_⟩
      exact h1 _ (f1.trans (fun a i z9 => by rw [up_n (by unfold FUm at z9; omega)])) (by rw [up_s]; decide) (by rw [up_s]; exact Or.inl ⟨rfl, by assumption⟩)
  · intro n t L st σ' hk
    rcases hk with hk | hk
    · obtain ⟨rfl, i, rfl, rfl, hc, rfl⟩ := hk
      obtain ⟨hfi, ym, hg0, hs, hi0, hi1⟩ := hc
      have Tc := hfi.ptum hT
      have gc := fum_rp hfi gp
      have r80 := pt_124_80 Tc
      have r30 := pt_124_30 Tc
      conv => whnf
      refine ⟨Nat.le_of_ble_eq_true rfl, Nat.le_of_ble_eq_true rfl, (by first | assumption | rfl), ?_⟩
      refine c_Rcells (gc.rd wp) ?_
      rw [gc.w, gc.h]
      conv => whnf
      refine ⟨fun g => ?_, fun g => ?_⟩
      · simp only [sx_cc, Classical.not_not] at g
        conv => whnf
        refine ⟨_, ?_, Or.inr (⟨rfl, _, rfl, rfl, ?_, rfl⟩)⟩
        · omega
        · exact ⟨hfi, hg0, fun c w0 w1 => hs c w0 (by omega), by omega, by omega, fun _ => ⟨fun z9 => by omega, fun z9 => by omega, fun z9 => by omega⟩, fun z9 => absurd ym z9⟩
      · simp only [sx_cc, Classical.not_not] at g
        have eki := gc.ki i hi0 (by omega)
        conv => whnf
        refine ⟨(by first | assumption | rfl), ?_⟩
        try simp (disch := omega) only [Int.cast_ofNat_Int, up_s, up_a, up_i, mp_a, mp_ge]
        try simp only [r80]
        try simp only [r30]
        try simp only [eki]
        conv => whnf
        refine ⟨(by first | assumption | rfl), ?_⟩
        try simp (disch := omega) only [Int.cast_ofNat_Int, up_s, up_a, up_i, mp_a, mp_ge]
        try simp only [r80]
        try simp only [r30]
        try simp only [eki]
        conv => whnf
        refine ⟨sx_ixI (by first | assumption | rfl) (by omega) (by omega), ?_⟩
        try simp (disch := omega) only [Int.cast_ofNat_Int, up_s, up_a, up_i, mp_a, mp_ge]
        try simp only [r80]
        try simp only [r30]
        try simp only [eki]
        conv => whnf
        refine ⟨fun g => ?_, fun g => ?_⟩
        · simp only [sx_cc, Classical.not_not] at g
          conv => whnf
          refine ⟨Nat.le_of_ble_eq_true rfl, Nat.le_of_ble_eq_true rfl, (by first | assumption | rfl), ?_⟩
          refine c_Rsee wp Tc gc ⟨hi0, by omega⟩ ?_
          conv => whnf
          refine ⟨sx_ixI (by first | assumption | rfl) (by omega) (by omega), ?_⟩
          conv => whnf
          refine ⟨⟨by omega, by omega⟩, ?_⟩
          conv => whnf
          refine ⟨_, ?_, Or.inl ⟨rfl, _, rfl, rfl, ?_, rfl⟩⟩
          · omega
          · refine ⟨hfi.trans (fun a j z9 => by rw [up_n (by unfold FUm at z9; omega)]), by rw [up_a (by decide)]; exact ym, hg0, fun c w0 w1 => ?_, by omega, by omega⟩
            by_cases e9 : c = i
            · rw [e9, up_s]; unfold fS; first | (rw [if_pos (by assumption)]; rfl) | rw [if_neg (by assumption)]
            · rw [up_i e9]; exact hs c w0 (by omega)
        · simp only [sx_cc, Classical.not_not] at g
          conv => whnf
          refine ⟨sx_ixI (by first | assumption | rfl) (by omega) (by omega), ?_⟩
          conv => whnf
          refine ⟨⟨by omega, by omega⟩, ?_⟩
          conv => whnf
          refine ⟨_, ?_, Or.inl ⟨rfl, _, rfl, rfl, ?_, rfl⟩⟩
          · omega
          · refine ⟨hfi.trans (fun a j z9 => by rw [up_n (by unfold FUm at z9; omega)]), by rw [up_a (by decide)]; exact ym, hg0, fun c w0 w1 => ?_, by omega, by omega⟩
            by_cases e9 : c = i
            · rw [e9, up_s]; unfold fS; first | (rw [if_pos (by assumption)]; rfl) | rw [if_neg (by assumption)]
            · rw [up_i e9]; exact hs c w0 (by omega)
    · obtain ⟨rfl, x, rfl, rfl, hc, rfl⟩ := hk
      obtain ⟨hfi, hg0, hs, hx0, hx1, hfail, hfd⟩ := hc
      have Tc := hfi.ptum hT
      have gc := fum_rp hfi gp
      conv => whnf
      refine ⟨fun g => ?_, fun g => ?_⟩
      · simp only [sx_cc, Classical.not_not] at g
        conv => whnf
        refine ⟨rfl, ?_⟩
        by_cases em : σ' 124 81 = -1
        · have ex : x = 4 := by omega
          subst ex
          have hf9 := hfail em
          exact h0 _ hfi em (Or.inr (Or.inr (Or.inr (Or.inr ⟨hg0, rfl, hf9.1 (by decide), hf9.2.1 (by decide), hf9.2.2 (by decide)⟩))))
        · exact h1 _ hfi (hfd em).1 (hfd em).2
      · simp only [sx_cc, Classical.not_not] at g
        conv => whnf
        refine ⟨(by first | assumption | rfl), ?_⟩
        try simp (disch := omega) only [Int.cast_ofNat_Int, up_s, up_a, up_i, mp_a, mp_ge]
        try simp only [r80]
        try simp only [r30]
        try simp only [eki]
        conv => whnf
        refine ⟨fun g => ?_, fun g => ?_⟩
        · simp only [sx_cc, Classical.not_not] at g
          conv => whnf
          refine ⟨rfl, ?_⟩
          by_cases em : σ' 124 81 = -1
          · have ex : x = 4 := by omega
            subst ex
            have hf9 := hfail em
            exact h0 _ hfi em (Or.inr (Or.inr (Or.inr (Or.inr ⟨hg0, rfl, hf9.1 (by decide), hf9.2.1 (by decide), hf9.2.2 (by decide)⟩))))
          · exact h1 _ hfi (hfd em).1 (hfd em).2
        · simp only [sx_cc, Classical.not_not] at g
          conv => whnf
          refine ⟨Nat.le_of_ble_eq_true rfl, Nat.le_of_ble_eq_true rfl, (by first | assumption | rfl), ?_⟩
          have em : σ' 124 81 = -1 := Decidable.byContradiction (fun z9 => by have h9 := (hfd z9).1; omega)
          have hfl := hfail em
          refine c_Rtake wp Tc gc hs ⟨by omega, by omega⟩ (fun a b c ht => ?_) (fun ht => ?_)
          · have hxu : x = 1 ∨ x = 2 ∨ x = 3 := (by omega)
            generalize e5 : sx_up (sx_up (sx_up (sx_up σ' 124 81 x) 166 0 a) 166 1 b) 166 2 c = σ5
            have f5 : fr FUm σ' σ5 := fun a i z9 => by unfold FUm at z9; rw [← e5, up_n (by omega), up_n (by omega), up_n (by omega), up_n (by omega)]
            have u0 : σ5 166 0 = a := by rw [← e5, up_i (by decide), up_i (by decide), up_s]
            have u1 : σ5 166 1 = b := by rw [← e5, up_i (by decide), up_s]
            have u2 : σ5 166 2 = c := by rw [← e5, up_s]
            have um : σ5 124 81 = x := by rw [← e5, up_a (by decide), up_a (by decide), up_a (by decide), up_s]
            have hs5 : ∀ c : Int, 0 ≤ c → c < (P.w * P.h) → σ5 165 c = fS P c := fun c w0 w1 => by rw [← e5, up_a (by decide), up_a (by decide), up_a (by decide), up_a (by decide)]; exact hs c w0 w1
            have hfound : pUm P (P.w * P.h) g9 x (σ5 166) := by
              rcases hxu with e9 | e9 | e9
              · subst e9; refine Or.inr (Or.inl ⟨hg0, rfl, ?_⟩); rw [u0]; exact tA_1 hg hg0 ht
              · subst e9; refine Or.inr (Or.inr (Or.inl ⟨hg0, rfl, hfl.1 (by decide), ?_⟩)); rw [u0, u1]; exact tA_2 hg (hfl.1 (by decide)) ht
              · subst e9; refine Or.inr (Or.inr (Or.inr (Or.inl ⟨hg0, rfl, hfl.1 (by decide), hfl.2.1 (by decide), ?_⟩))); rw [u0, u1, u2]; exact tA_3 hg (hfl.2.1 (by decide)) ht
            conv => whnf
            refine ⟨⟨by omega, by omega⟩, ?_⟩
            conv => whnf
            refine ⟨_, ?_, Or.inr (⟨rfl, _, rfl, rfl, ?_, rfl⟩)⟩
            · omega
            · first | exact ⟨hfi.trans f5, hg0, hs5, by omega, by omega, fun z9 => by omega, fun _ => by rw [um]; exact ⟨by omega, hfound⟩⟩ | exact ⟨hfi, hg0, hs, by omega, by omega, fun _ => hmore, hfd⟩
          · have hxu : x = 1 ∨ x = 2 ∨ x = 3 := (by omega)
            have hmore : (1 < x + 1 → pN1 P (P.w * P.h) g9) ∧ (2 < x + 1 → pN2 P (P.w * P.h) 0 g9) ∧ (3 < x + 1 → pN3 P (P.w * P.h) g9) := by
              rcases hxu with e9 | e9 | e9
              · subst e9; exact ⟨fun _ => tN_1 hg hg0 ht, fun z9 => by omega, fun z9 => by omega⟩
              · subst e9; exact ⟨fun _ => hfl.1 (by decide), fun _ => tN_2 hg (hfl.1 (by decide)) ht, fun z9 => by omega⟩
              · subst e9; exact ⟨fun _ => hfl.1 (by decide), fun _ => hfl.2.1 (by decide), fun _ => tN_3 hg (hfl.2.1 (by decide)) ht⟩
            conv => whnf
            refine ⟨⟨by omega, by omega⟩, ?_⟩
            conv => whnf
            refine ⟨_, ?_, Or.inr (⟨rfl, _, rfl, rfl, ?_, rfl⟩)⟩
            · omega
            · first | exact ⟨hfi.trans f5, hg0, hs5, by omega, by omega, fun z9 => by omega, fun _ => by rw [um]; exact ⟨by omega, hfound⟩⟩ | exact ⟨hfi, hg0, hs, by omega, by omega, fun _ => hmore, hfd⟩
set_option maxRecDepth 20000 in
theorem r_umpires (e0 : σ0 = sx_up σ 124 2 0) (wp : wP P) (hT : PT σ0) (gp : rP σ0 P) {g9 : Int} (hg : -9223372036854775808 ≤ g9 ∧ g9 ≤ 9223372036854775807) (h0 : ¬ pGnd P g9 → Q (some (.inl (-1))) shM σ0) (h : pGnd P g9 → ∀ σ' m u, fr FUm σ0 σ' → pUm P (P.w * P.h) g9 m u → Q (some (.inl m)) shM σ') : sx_Run X 291 [.inr (.inr 124), .inr (.inl g9)] shM σ Q := by
  refine sx_rule0 (own := 12) (cd := kX12_umpires) (nL := 3) (by decide +kernel) (by decide +kernel) kX12_umpires_ok (by decide +kernel) (Nat.le_of_ble_eq_true rfl) 40 ?_
  conv => whnf
  refine ⟨(by first | assumption | rfl), ?_⟩
  try simp (disch := omega) only [Int.cast_ofNat_Int, up_s, up_a, up_i, mp_a, mp_ge]
  rw [← e0]
  conv => whnf
  refine ⟨Nat.le_of_ble_eq_true rfl, Nat.le_of_ble_eq_true rfl, (by first | assumption | rfl), ?_⟩
  refine r_gnd wp hT gp (fun yg => ?_) (fun yg => ?_)
  · skip
    conv => whnf
    refine ⟨fun g => ?_, fun g => ?_⟩
    · skip
      conv => whnf
      refine ⟨Nat.le_of_ble_eq_true rfl, Nat.le_of_ble_eq_true rfl, (by first | assumption | rfl), ?_⟩
      refine c_Rlayu wp hT gp hg (fun σ2 f2 e2 u2 => ?_) (fun σ2 f2 e2 u2 => ?_)
      · skip
        conv => whnf
        refine ⟨(by first | assumption | rfl), ?_⟩
        try simp (disch := omega) only [Int.cast_ofNat_Int, up_s, up_a, up_i, mp_a, mp_ge]
        conv => whnf
        refine ⟨fun g => ?_, fun g => ?_⟩
        · simp only [sx_cc, Classical.not_not] at g
          conv => whnf
          refine ⟨(by first | assumption | rfl), ?_⟩
          try simp (disch := omega) only [Int.cast_ofNat_Int, up_s, up_a, up_i, mp_a, mp_ge]
          conv => whnf
          refine ⟨fun q9 => by first | (simp at q9; done) | omega, ?_⟩
          first | exact h yg _ _ _ f2 u2 | (exfalso; omega)
        · simp only [sx_cc, Classical.not_not] at g
          conv => whnf
          refine ⟨fun q9 => by first | (simp at q9; done) | omega, ?_⟩
          first | exact h yg _ _ _ f2 u2 | (exfalso; omega)
      · skip
        conv => whnf
        refine ⟨(by first | assumption | rfl), ?_⟩
        try simp (disch := omega) only [Int.cast_ofNat_Int, up_s, up_a, up_i, mp_a, mp_ge]
        conv => whnf
        refine ⟨fun g => ?_, fun g => ?_⟩
        · simp only [sx_cc, Classical.not_not] at g
          conv => whnf
          refine ⟨(by first | assumption | rfl), ?_⟩
          try simp (disch := omega) only [Int.cast_ofNat_Int, up_s, up_a, up_i, mp_a, mp_ge]
          conv => whnf
          refine ⟨fun q9 => by first | (simp at q9; done) | omega, ?_⟩
          first | exact h yg _ _ _ f2 u2 | (exfalso; omega)
        · simp only [sx_cc, Classical.not_not] at g
          conv => whnf
          refine ⟨fun q9 => by first | (simp at q9; done) | omega, ?_⟩
          first | exact h yg _ _ _ f2 u2 | (exfalso; omega)
    · exact absurd g (by simp [sx_cc])
  · skip
    conv => whnf
    refine ⟨fun g => ?_, fun g => ?_⟩
    · exact absurd g (by simp [sx_cc])
    · skip
      conv => whnf
      refine ⟨fun q9 => by first | (simp at q9; done) | omega, ?_⟩
      exact h0 yg
set_option maxRecDepth 20000 in
theorem r_umpire (e0 : σ0 = sx_up σ 124 2 0) (wp : wP P) (hT : PT σ0) (gp : rP σ0 P) {g9 k : Int} (hg : -9223372036854775808 ≤ g9 ∧ g9 ≤ 9223372036854775807) (h0 : ¬ (pGnd P g9 ∧ 0 ≤ k) → Q (some (.inl (-1))) shM σ0) (h : pGnd P g9 → 0 ≤ k → ∀ σ' m u, fr FUm σ0 σ' → pUm P (P.w * P.h) g9 m u → Q (some (.inl (if k < m then u k else -2))) shM σ') : sx_Run X 292 [.inr (.inr 124), .inr (.inl g9), .inl k] shM σ Q := by
  refine sx_rule0 (own := 12) (cd := kX12_umpire) (nL := 4) (by decide +kernel) (by decide +kernel) kX12_umpire_ok (by decide +kernel) (Nat.le_of_ble_eq_true rfl) 40 ?_
  conv => whnf
  refine ⟨(by first | assumption | rfl), ?_⟩
  try simp (disch := omega) only [Int.cast_ofNat_Int, up_s, up_a, up_i, mp_a, mp_ge]
  try simp only [r82]
  rw [← e0]
  conv => whnf
  refine ⟨Nat.le_of_ble_eq_true rfl, Nat.le_of_ble_eq_true rfl, (by first | assumption | rfl), ?_⟩
  refine r_gnd wp hT gp (fun yg => ?_) (fun yg => ?_)
  · skip
    conv => whnf
    refine ⟨fun g => ?_, fun g => ?_⟩
    · exact absurd g (by simp [sx_cc])
    · skip
      conv => whnf
      refine ⟨fun g => ?_, fun g => ?_⟩
      · simp only [sx_cc, Classical.not_not] at g
        conv => whnf
        refine ⟨Nat.le_of_ble_eq_true rfl, Nat.le_of_ble_eq_true rfl, (by first | assumption | rfl), ?_⟩
        refine c_Rlayu wp hT gp hg (fun σ2 f2 e2 u2 => ?_) (fun σ2 f2 e2 u2 => ?_)
        · have r82 := pt_124_82 (f2.ptum hT)
          have hm2 := pUm_m u2
          conv => whnf
          refine ⟨(by first | assumption | rfl), ?_⟩
          try simp (disch := omega) only [Int.cast_ofNat_Int, up_s, up_a, up_i, mp_a, mp_ge]
          try simp only [r82]
          conv => whnf
          refine ⟨fun g => ?_, fun g => ?_⟩
          · simp only [sx_cc, Classical.not_not] at g
            conv => whnf
            refine ⟨(by first | assumption | rfl), ?_⟩
            try simp (disch := omega) only [Int.cast_ofNat_Int, up_s, up_a, up_i, mp_a, mp_ge]
            try simp only [r82]
            conv => whnf
            refine ⟨sx_ixI (by first | assumption | rfl) (by omega) (by omega), ?_⟩
            try simp (disch := omega) only [Int.cast_ofNat_Int, up_s, up_a, up_i, mp_a, mp_ge]
            try simp only [r82]
            conv => whnf
            refine ⟨fun q9 => by first | (simp at q9; done) | omega, ?_⟩
            have h9 := h yg (by omega) _ _ _ f2 u2
            first | (rw [if_pos (by omega)] at h9; exact h9) | (rw [if_neg (by omega)] at h9; exact h9)
          · simp only [sx_cc, Classical.not_not] at g
            conv => whnf
            refine ⟨fun q9 => by first | (simp at q9; done) | omega, ?_⟩
            have h9 := h yg (by omega) _ _ _ f2 u2
            first | (rw [if_pos (by omega)] at h9; exact h9) | (rw [if_neg (by omega)] at h9; exact h9)
        · have r82 := pt_124_82 (f2.ptum hT)
          have hm2 := pUm_m u2
          conv => whnf
          refine ⟨(by first | assumption | rfl), ?_⟩
          try simp (disch := omega) only [Int.cast_ofNat_Int, up_s, up_a, up_i, mp_a, mp_ge]
          try simp only [r82]
          conv => whnf
          refine ⟨fun g => ?_, fun g => ?_⟩
          · simp only [sx_cc, Classical.not_not] at g
            conv => whnf
            refine ⟨(by first | assumption | rfl), ?_⟩
            try simp (disch := omega) only [Int.cast_ofNat_Int, up_s, up_a, up_i, mp_a, mp_ge]
            try simp only [r82]
            conv => whnf
            refine ⟨sx_ixI (by first | assumption | rfl) (by omega) (by omega), ?_⟩
            try simp (disch := omega) only [Int.cast_ofNat_Int, up_s, up_a, up_i, mp_a, mp_ge]
            try simp only [r82]
            conv => whnf
            refine ⟨fun q9 => by first | (simp at q9; done) | omega, ?_⟩
            have h9 := h yg (by omega) _ _ _ f2 u2
            first | (rw [if_pos (by omega)] at h9; exact h9) | (rw [if_neg (by omega)] at h9; exact h9)
          · simp only [sx_cc, Classical.not_not] at g
            conv => whnf
            refine ⟨fun q9 => by first | (simp at q9; done) | omega, ?_⟩
            have h9 := h yg (by omega) _ _ _ f2 u2
            first | (rw [if_pos (by omega)] at h9; exact h9) | (rw [if_neg (by omega)] at h9; exact h9)
      · simp only [sx_cc, Classical.not_not] at g
        conv => whnf
        refine ⟨fun q9 => by first | (simp at q9; done) | omega, ?_⟩
        first | exact h0 (fun z9 => yg z9.1) | exact h0 (fun z9 => by omega)
  · skip
    conv => whnf
    refine ⟨fun g => ?_, fun g => ?_⟩
    · skip
      conv => whnf
      refine ⟨fun q9 => by first | (simp at q9; done) | omega, ?_⟩
      first | exact h0 (fun z9 => yg z9.1) | exact h0 (fun z9 => by omega)
    · exact absurd g (by simp [sx_cc])
end SXM19
