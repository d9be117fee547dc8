/-! QUIET, HUSHED, reference side (by wip/whole) -/
section SXN8
variable {X : sx_X} {Q : sx_R} {p to N c9 : Int} {σ σ0 σ' σ1 σ2 : sx_S} {P : aP} {A : aM} {G H : Int → Int}
theorem gOf_d (hd : pDe N σ) {c : Int} (hc : 0 ≤ c ∧ c < N) (hr : ¬ gOf σ c = fBig) : gOf σ c = 100 * σ 163 c + σ 164 c ∧ (0 ≤ σ 163 c ∧ σ 163 c ≤ 47) ∧ (0 ≤ σ 164 c ∧ σ 164 c ≤ 47) := by
  have e : ¬ σ 163 c = 99999 := fun z => hr ((gOf_nb hd hc).mpr z)
  exact ⟨gOf_r e, hd c hc.1 hc.2 e⟩
theorem gOf_q (hd : pDe N σ) {c : Int} (hc : 0 ≤ c ∧ c < N) (hr : ¬ gOf σ c = fBig) : σ 163 c = (gOf σ c).tdiv 100 ∧ σ 164 c = gOf σ c % 100 := by
  have h := gOf_d hd hc hr
  rw [Int.tdiv_eq_ediv_of_nonneg (by omega)]
  omega
set_option maxRecDepth 20000 in
theorem r_quiet (e0 : σ0 = sx_up σ 124 2 0) (wp : wP P) (wm : wM P A c9) (gg : GR 0 P A σ0) {a q : Int} (hMn : 0 ≤ to ∧ to < (P.w * P.h) → pMn P (P.w * P.h) to (fTl P A) G) (h0 : ¬ (0 ≤ a ∧ a < (P.w * P.h) ∧ 0 ≤ to ∧ to < (P.w * P.h)) → Q (some (.inl (-1))) shM σ0) (h2 : ¬ (q = 0 ∨ q = 1) → Q (some (.inl (-1))) shM σ0) (h1 : (0 ≤ a ∧ a < (P.w * P.h) ∧ 0 ≤ to ∧ to < (P.w * P.h)) → ∀ σ', fr FQ σ0 σ' → GR 0 P A σ' → Q (some (.inl (aQui G a q))) shM σ') : sx_Run X 272 [.inr (.inr 124), .inl a, .inl to, .inl q] shM σ Q := by
  have v4 := wp.wh
  refine sx_rule0 (own := 12) (cd := kX12_quiet) (nL := 4) (by decide +kernel) (by decide +kernel) kX12_quiet_ok (by decide +kernel) (Nat.le_of_ble_eq_true rfl) 40 ?_
  conv => whnf
  refine ⟨(by first | assumption | rfl), ?_⟩
  try simp (disch := omega) only [Int.cast_ofNat_Int, up_s, up_a, up_i, mp_a, mp_ge]
  try simp only [r78]
  try simp only [r79]
  try simp only [eq1]
  try simp only [eq2]
  rw [← e0]
  conv => whnf
  refine ⟨Nat.le_of_ble_eq_true rfl, Nat.le_of_ble_eq_true rfl, (by first | assumption | rfl), ?_⟩
  refine c_Riscell (gg.rp.rd wp) (fun y1 y2 => ?_) (fun y0 => ?_)
  · rw [gg.rp.w, gg.rp.h] at y2
    conv => whnf
    refine ⟨fun g => ?_, fun g => ?_⟩
    · exact absurd g (by simp [sx_cc])
    · skip
      conv => whnf
      refine ⟨Nat.le_of_ble_eq_true rfl, Nat.le_of_ble_eq_true rfl, (by first | assumption | rfl), ?_⟩
      refine c_Riscell (gg.rp.rd wp) (fun y3 y4 => ?_) (fun y0 => ?_)
      · rw [gg.rp.w, gg.rp.h] at y4
        conv => whnf
        refine ⟨fun g => ?_, fun g => ?_⟩
        · exact absurd g (by simp [sx_cc])
        · skip
          conv => whnf
          refine ⟨Nat.le_of_ble_eq_true rfl, Nat.le_of_ble_eq_true rfl, ?_⟩
          refine c_Rin (fun y5 y6 => ?_) (fun y0 => ?_)
          · skip
            conv => whnf
            refine ⟨fun g => ?_, fun g => ?_⟩
            · skip
              conv => whnf
              refine ⟨Nat.le_of_ble_eq_true rfl, Nat.le_of_ble_eq_true rfl, (by first | assumption | rfl), ?_⟩
              refine c_Rquiet wp wm gg ⟨by omega, by omega⟩ ?_
              intro σ2 f2 d2 j2 x2
              have g2 := frq_gr f2 gg
              have hM2 := pMn_of wp fTl_o ⟨by omega, by omega⟩ j2 x2
              have hM := hMn ⟨by omega, by omega⟩
              have eG : ∀ c : Int, 0 ≤ c → c < (P.w * P.h) → G c = gOf σ2 c := fun c y0 y1 => pMn_u rfl fTl_o hM hM2 ⟨y0, y1⟩
              have eqa := gOf_q d2 (c := a) ⟨by omega, by omega⟩ (hM2.2.2 a (by omega) (by omega))
              rw [← eG a (by omega) (by omega)] at eqa
              have eq1 := eqa.1
              have eq2 := eqa.2
              have r78 := pt_124_78 g2.pt
              have r79 := pt_124_79 g2.pt
              conv => whnf
              refine ⟨fun g => ?_, fun g => ?_⟩
              · simp only [sx_cc, Classical.not_not] at g
                conv => whnf
                refine ⟨(by first | assumption | rfl), ?_⟩
                try simp (disch := omega) only [Int.cast_ofNat_Int, up_s, up_a, up_i, mp_a, mp_ge]
                try simp only [r78]
                try simp only [r79]
                try simp only [eq1]
                try simp only [eq2]
                conv => whnf
                refine ⟨sx_ixI (by first | assumption | rfl) (by omega) (by omega), ?_⟩
                try simp (disch := omega) only [Int.cast_ofNat_Int, up_s, up_a, up_i, mp_a, mp_ge]
                try simp only [r78]
                try simp only [r79]
                try simp only [eq1]
                try simp only [eq2]
                conv => whnf
                refine ⟨fun q9 => by first | (simp at q9; done) | omega, ?_⟩
                have h9 := h1 ⟨by omega, by omega, by omega, by omega⟩ _ f2 g2
                first | (rw [show aQui G a q = (G a).tdiv 100 from if_pos (by omega)] at h9; exact h9) | (rw [show aQui G a q = G a % 100 from (if_neg (by omega)).trans (if_pos (by omega))] at h9; exact h9)
              · simp only [sx_cc, Classical.not_not] at g
                conv => whnf
                refine ⟨(by first | assumption | rfl), ?_⟩
                try simp (disch := omega) only [Int.cast_ofNat_Int, up_s, up_a, up_i, mp_a, mp_ge]
                try simp only [r78]
                try simp only [r79]
                try simp only [eq1]
                try simp only [eq2]
                conv => whnf
                refine ⟨sx_ixI (by first | assumption | rfl) (by omega) (by omega), ?_⟩
                try simp (disch := omega) only [Int.cast_ofNat_Int, up_s, up_a, up_i, mp_a, mp_ge]
                try simp only [r78]
                try simp only [r79]
                try simp only [eq1]
                try simp only [eq2]
                conv => whnf
                refine ⟨fun q9 => by first | (simp at q9; done) | omega, ?_⟩
                have h9 := h1 ⟨by omega, by omega, by omega, by omega⟩ _ f2 g2
                first | (rw [show aQui G a q = (G a).tdiv 100 from if_pos (by omega)] at h9; exact h9) | (rw [show aQui G a q = G a % 100 from (if_neg (by omega)).trans (if_pos (by omega))] at h9; exact h9)
            · exact absurd g (by simp [sx_cc])
          · skip
            conv => whnf
            refine ⟨fun g => ?_, fun g => ?_⟩
            · exact absurd g (by simp [sx_cc])
            · skip
              conv => whnf
              refine ⟨fun q9 => by first | (simp at q9; done) | omega, ?_⟩
              first | exact h0 (by omega) | exact h2 (by omega)
      · rw [gg.rp.w, gg.rp.h] at y0
        conv => whnf
        refine ⟨fun g => ?_, fun g => ?_⟩
        · skip
          conv => whnf
          refine ⟨fun q9 => by first | (simp at q9; done) | omega, ?_⟩
          first | exact h0 (by omega) | exact h2 (by omega)
        · exact absurd g (by simp [sx_cc])
  · rw [gg.rp.w, gg.rp.h] at y0
    conv => whnf
    refine ⟨fun g => ?_, fun g => ?_⟩
    · skip
      conv => whnf
      refine ⟨fun q9 => by first | (simp at q9; done) | omega, ?_⟩
      first | exact h0 (by omega) | exact h2 (by omega)
    · exact absurd g (by simp [sx_cc])
set_option maxRecDepth 20000 in
theorem c_Rison (wp : wP P) (wm : wM P A c9) (gg : GR 0 P A σ) (hd : pDe (P.w * P.h) σ) {c m : Int} (hc : 0 ≤ c ∧ c < (P.w * P.h)) (hcr : ¬ gOf σ c = fBig) (hm : m = -1 ∨ (0 ≤ m ∧ m < (P.w * P.h) ∧ ¬ gOf σ m = fBig)) (h1 : ¬ m = -1 → gOf σ m + fTl P A m = gOf σ c → Q (some (.inl 1)) shM σ) (h0 : ¬ (¬ m = -1 ∧ gOf σ m + fTl P A m = gOf σ c) → Q (some (.inl 0)) shM σ) : sx_Run X 273 [.inr (.inr 124), .inl c, .inl m] shM σ Q := by
  have r78 := pt_124_78 gg.pt
  have r79 := pt_124_79 gg.pt
  have v4 := wp.wh
  have hdc := gOf_d hd hc hcr
  refine sx_rule0 (own := 12) (cd := kX12_isOn) (nL := 3) (by decide +kernel) (by decide +kernel) kX12_isOn_ok (by decide +kernel) (Nat.le_of_ble_eq_true rfl) 40 ?_
  conv => whnf
  refine ⟨fun g => ?_, fun g => ?_⟩
  · simp only [sx_cc, Classical.not_not] at g
    conv => whnf
    refine ⟨fun q9 => by first | (simp at q9; done) | omega, ?_⟩
    first | exact h1 (by omega) (by omega) | exact h0 (fun z9 => by omega)
  · simp only [sx_cc, Classical.not_not] at g
    have hmr : 0 ≤ m ∧ m < (P.w * P.h) ∧ ¬ gOf σ m = fBig := (by rcases hm with z | z; exact absurd z (by omega); exact z)
    have hdm := gOf_d hd ⟨hmr.1, hmr.2.1⟩ hmr.2.2
    conv => whnf
    refine ⟨(by first | assumption | rfl), ?_⟩
    try simp (disch := omega) only [Int.cast_ofNat_Int, up_s, up_a, up_i, mp_a, mp_ge]
    try simp only [r78]
    try simp only [r79]
    conv => whnf
    refine ⟨sx_ixI (by first | assumption | rfl) (by omega) (by omega), ?_⟩
    try simp (disch := omega) only [Int.cast_ofNat_Int, up_s, up_a, up_i, mp_a, mp_ge]
    try simp only [r78]
    try simp only [r79]
    conv => whnf
    refine ⟨Nat.le_of_ble_eq_true rfl, Nat.le_of_ble_eq_true rfl, (by first | assumption | rfl), ?_⟩
    refine a_Rnew wp wm gg ⟨hmr.1, hmr.2.1⟩ ?_
    have hnw : fTl P A m = 100 * fNw P A m + 1 ∧ 0 ≤ fNw P A m ∧ fNw P A m ≤ 1 := fNw_tl m
    conv => whnf
    refine ⟨⟨by omega, by omega⟩, ?_⟩
    conv => whnf
    refine ⟨(by first | assumption | rfl), ?_⟩
    try simp (disch := omega) only [Int.cast_ofNat_Int, up_s, up_a, up_i, mp_a, mp_ge]
    try simp only [r78]
    try simp only [r79]
    conv => whnf
    refine ⟨sx_ixI (by first | assumption | rfl) (by omega) (by omega), ?_⟩
    try simp (disch := omega) only [Int.cast_ofNat_Int, up_s, up_a, up_i, mp_a, mp_ge]
    try simp only [r78]
    try simp only [r79]
    conv => whnf
    refine ⟨fun g => ?_, fun g => ?_⟩
    · simp only [sx_cc, Classical.not_not] at g
      conv => whnf
      refine ⟨fun q9 => by first | (simp at q9; done) | omega, ?_⟩
      first | exact h1 (by omega) (by omega) | exact h0 (fun z9 => by omega)
    · simp only [sx_cc, Classical.not_not] at g
      conv => whnf
      refine ⟨(by first | assumption | rfl), ?_⟩
      try simp (disch := omega) only [Int.cast_ofNat_Int, up_s, up_a, up_i, mp_a, mp_ge]
      try simp only [r78]
      try simp only [r79]
      conv => whnf
      refine ⟨sx_ixI (by first | assumption | rfl) (by omega) (by omega), ?_⟩
      try simp (disch := omega) only [Int.cast_ofNat_Int, up_s, up_a, up_i, mp_a, mp_ge]
      try simp only [r78]
      try simp only [r79]
      conv => whnf
      refine ⟨⟨by omega, by omega⟩, ?_⟩
      conv => whnf
      refine ⟨(by first | assumption | rfl), ?_⟩
      try simp (disch := omega) only [Int.cast_ofNat_Int, up_s, up_a, up_i, mp_a, mp_ge]
      try simp only [r78]
      try simp only [r79]
      conv => whnf
      refine ⟨sx_ixI (by first | assumption | rfl) (by omega) (by omega), ?_⟩
      try simp (disch := omega) only [Int.cast_ofNat_Int, up_s, up_a, up_i, mp_a, mp_ge]
      try simp only [r78]
      try simp only [r79]
      conv => whnf
      refine ⟨fun g => ?_, fun g => ?_⟩
      · simp only [sx_cc, Classical.not_not] at g
        conv => whnf
        refine ⟨fun q9 => by first | (simp at q9; done) | omega, ?_⟩
        first | exact h1 (by omega) (by omega) | exact h0 (fun z9 => by omega)
      · simp only [sx_cc, Classical.not_not] at g
        conv => whnf
        refine ⟨fun q9 => by first | (simp at q9; done) | omega, ?_⟩
        first | exact h1 (by omega) (by omega) | exact h0 (fun z9 => by omega)
set_option maxRecDepth 20000 in
theorem r_hushed (e0 : σ0 = sx_up σ 124 2 0) (wp : wP P) (wm : wM P A c9) (gg : GR 0 P A σ0) {a k : Int} (hMn : 0 ≤ to ∧ to < (P.w * P.h) → pMn P (P.w * P.h) to (fTl P A) G) (h0 : ¬ ((0 ≤ a ∧ a < (P.w * P.h) ∧ 0 ≤ to ∧ to < (P.w * P.h)) ∧ 0 ≤ k) → Q (some (.inl (-1))) shM σ0) (h1 : ((0 ≤ a ∧ a < (P.w * P.h) ∧ 0 ≤ to ∧ to < (P.w * P.h)) ∧ 0 ≤ k) → ∀ σ', fr FQ σ0 σ' → GR 0 P A σ' → Q (some (.inl (aHus P A G a k))) shM σ') : sx_Run X 274 [.inr (.inr 124), .inl a, .inl to, .inl k] shM σ Q := by
  have v4 := wp.wh
  refine sx_rule2 (own := 12) (cd := kX12_hushed) (nL := 7) (by decide +kernel) (by decide +kernel) kX12_hushed_ok (by decide +kernel) (Nat.le_of_ble_eq_true rfl) [51, 60] 40 (fun n t L st _ σ' => (t = 51 ∧ ∃ u i : Int, ∃ w6 : Option sx_V, st = [] ∧ L = [some (.inr (.inr (124))), some (.inl (a)), some (.inl (to)), some (.inl (k)), some (.inl (u)), some (.inl (i)), w6] ∧ (fr FQ σ0 σ' ∧ pDe (P.w * P.h) σ' ∧ pMn P (P.w * P.h) to (fTl P A) (gOf σ') ∧ (∀ c : Int, 0 ≤ c → c < (P.w * P.h) → G c = gOf σ' c) ∧ 0 ≤ i ∧ i ≤ k ∧ k ≤ G a % 100 ∧ u = fCh P (fTl P A) (gOf σ') a i.toNat ∧ (0 ≤ a ∧ a < (P.w * P.h) ∧ 0 ≤ to ∧ to < (P.w * P.h))) ∧ n = ((k - i) * 10 + 8).toNat) ∨ (t = 60 ∧ ∃ u i y : Int, st = [] ∧ L = [some (.inr (.inr (124))), some (.inl (a)), some (.inl (to)), some (.inl (k)), some (.inl (u)), some (.inl (i)), some (.inl (y))] ∧ (fr FQ σ0 σ' ∧ pDe (P.w * P.h) σ' ∧ pMn P (P.w * P.h) to (fTl P A) (gOf σ') ∧ (∀ c : Int, 0 ≤ c → c < (P.w * P.h) → G c = gOf σ' c) ∧ 0 ≤ i ∧ i ≤ k ∧ k ≤ G a % 100 ∧ u = fCh P (fTl P A) (gOf σ') a i.toNat ∧ (0 ≤ a ∧ a < (P.w * P.h) ∧ 0 ≤ to ∧ to < (P.w * P.h)) ∧ i < k ∧ (∀ z : Int, 0 ≤ z → z < y → ¬ pOn P (fTl P A) (gOf σ') u z) ∧ 0 ≤ y ∧ y ≤ 3) ∧ n = ((k - i) * 10 + (4 - y)).toNat)) ?_ ?_
  · skip
    conv => whnf
    refine ⟨(by first | assumption | rfl), ?_⟩
    try simp (disch := omega) only [Int.cast_ofNat_Int, up_s, up_a, up_i, mp_a, mp_ge]
    try simp only [r79]
    try simp only [eq2]
    rw [← e0]
    conv => whnf
    refine ⟨Nat.le_of_ble_eq_true rfl, Nat.le_of_ble_eq_true rfl, (by first | assumption | rfl), ?_⟩
    refine c_Riscell (gg.rp.rd wp) (fun y1 y2 => ?_) (fun y0 => ?_)
    · rw [gg.rp.w, gg.rp.h] at y2
      conv => whnf
      refine ⟨fun g => ?_, fun g => ?_⟩
      · exact absurd g (by simp [sx_cc])
      · skip
        conv => whnf
        refine ⟨Nat.le_of_ble_eq_true rfl, Nat.le_of_ble_eq_true rfl, (by first | assumption | rfl), ?_⟩
        refine c_Riscell (gg.rp.rd wp) (fun y3 y4 => ?_) (fun y0 => ?_)
        · rw [gg.rp.w, gg.rp.h] at y4
          conv => whnf
          refine ⟨fun g => ?_, fun g => ?_⟩
          · exact absurd g (by simp [sx_cc])
          · skip
            conv => whnf
            refine ⟨fun g => ?_, fun g => ?_⟩
            · simp only [sx_cc, Classical.not_not] at g
              conv => whnf
              refine ⟨Nat.le_of_ble_eq_true rfl, Nat.le_of_ble_eq_true rfl, (by first | assumption | rfl), ?_⟩
              refine c_Rquiet wp wm gg ⟨by omega, by omega⟩ ?_
              intro σ2 f2 d2 j2 x2
              have g2 := frq_gr f2 gg
              have hM2 := pMn_of wp fTl_o ⟨by omega, by omega⟩ j2 x2
              have hM := hMn ⟨by omega, by omega⟩
              have eG : ∀ c : Int, 0 ≤ c → c < (P.w * P.h) → G c = gOf σ2 c := fun c y0 y1 => pMn_u rfl fTl_o hM hM2 ⟨y0, y1⟩
              have eqa := gOf_q d2 (c := a) ⟨by omega, by omega⟩ (hM2.2.2 a (by omega) (by omega))
              rw [← eG a (by omega) (by omega)] at eqa
              have eq1 := eqa.1
              have eq2 := eqa.2
              have r78 := pt_124_78 g2.pt
              have r79 := pt_124_79 g2.pt
              conv => whnf
              refine ⟨(by first | assumption | rfl), ?_⟩
              try simp (disch := omega) only [Int.cast_ofNat_Int, up_s, up_a, up_i, mp_a, mp_ge]
              try simp only [r79]
              try simp only [eq2]
              conv => whnf
              refine ⟨sx_ixI (by first | assumption | rfl) (by omega) (by omega), ?_⟩
              try simp (disch := omega) only [Int.cast_ofNat_Int, up_s, up_a, up_i, mp_a, mp_ge]
              try simp only [r79]
              try simp only [eq2]
              conv => whnf
              refine ⟨fun g => ?_, fun g => ?_⟩
              · simp only [sx_cc, Classical.not_not] at g
                conv => whnf
                refine ⟨_, Or.inl ⟨rfl, _, _, _, rfl, rfl, ?_, rfl⟩⟩
                exact ⟨f2, d2, hM2, eG, by omega, by omega, by omega, rfl, by omega⟩
              · simp only [sx_cc, Classical.not_not] at g
                conv => whnf
                refine ⟨fun q9 => by first | (simp at q9; done) | omega, ?_⟩
                have h9 := h1 ⟨⟨by omega, by omega, by omega, by omega⟩, by omega⟩ _ f2 g2
                rw [show aHus P A G a k = -2 from if_neg (by omega)] at h9
                exact h9
            · simp only [sx_cc, Classical.not_not] at g
              conv => whnf
              refine ⟨fun q9 => by first | (simp at q9; done) | omega, ?_⟩
              exact h0 (by omega)
        · rw [gg.rp.w, gg.rp.h] at y0
          conv => whnf
          refine ⟨fun g => ?_, fun g => ?_⟩
          · skip
            conv => whnf
            refine ⟨fun q9 => by first | (simp at q9; done) | omega, ?_⟩
            exact h0 (by omega)
          · exact absurd g (by simp [sx_cc])
    · rw [gg.rp.w, gg.rp.h] at y0
      conv => whnf
      refine ⟨fun g => ?_, fun g => ?_⟩
      · skip
        conv => whnf
        refine ⟨fun q9 => by first | (simp at q9; done) | omega, ?_⟩
        exact h0 (by omega)
      · exact absurd g (by simp [sx_cc])
  · intro n t L st σ' hk
    rcases hk with hk | hk
    · obtain ⟨rfl, u, i, w6, rfl, rfl, hc, rfl⟩ := hk
      obtain ⟨hfi, hde, hM2, eG, hi0, hi1, hk1, hu, hq⟩ := hc
      have gi := frq_gr hfi gg
      have hN : (P.w * P.h) = P.w * P.h ∧ (P.w * P.h) ≤ 48 := ⟨rfl, by omega⟩
      have ega := eG a (by omega) (by omega)
      have hcs := fCh_st hN fTl_o (to := to) ⟨by omega, by omega⟩ hM2 (a := a) ⟨by omega, by omega⟩ i.toNat (by omega)
      rw [← hu] at hcs
      conv => whnf
      refine ⟨fun g => ?_, fun g => ?_⟩
      · simp only [sx_cc, Classical.not_not] at g
        conv => whnf
        refine ⟨fun q9 => by first | (simp at q9; done) | omega, ?_⟩
        have h9 := h1 ⟨hq, by omega⟩ _ hfi gi
        have hM := hMn ⟨hq.2.2.1, hq.2.2.2⟩
        rw [show aHus P A G a k = _ from if_pos hk1, fCh_cg hN fTl_o ⟨hq.2.2.1, hq.2.2.2⟩ hM eG ⟨hq.1, hq.2.1⟩ k.toNat (by omega), show k = i by omega, ← hu] at h9
        exact h9
      · simp only [sx_cc, Classical.not_not] at g
        conv => whnf
        refine ⟨_, ?_, Or.inr (⟨rfl, _, _, _, rfl, rfl, ?_, rfl⟩)⟩
        · omega
        · exact ⟨hfi, hde, hM2, eG, hi0, hi1, hk1, hu, hq, by omega, fun z z0 z1 => by omega, by omega, by omega⟩
    · obtain ⟨rfl, u, i, y, rfl, rfl, hc, rfl⟩ := hk
      obtain ⟨hfi, hde, hM2, eG, hi0, hi1, hk1, hu, hq, hik, hno, hy0, hy1⟩ := hc
      have gi := frq_gr hfi gg
      have hN : (P.w * P.h) = P.w * P.h ∧ (P.w * P.h) ≤ 48 := ⟨rfl, by omega⟩
      have ega := eG a (by omega) (by omega)
      have hcs := fCh_st hN fTl_o (to := to) ⟨by omega, by omega⟩ hM2 (a := a) ⟨by omega, by omega⟩ i.toNat (by omega)
      rw [← hu] at hcs
      have hne : ¬ u = to := fun z9 => by rw [z9, hM2.1.1] at hcs; omega
      obtain ⟨z, z0, z1, z2, z3, z4⟩ := fNxt_o (pMn_n hN fTl_o hM2 hcs.1 hne)
      have hyz : y ≤ z := by
        apply Classical.byContradiction
        intro w
        exact hno z z0 (by omega) z2
      have hbo := fBes_o (P := P) (a := u) (y := y)
      conv => whnf
      refine ⟨Nat.le_of_ble_eq_true rfl, Nat.le_of_ble_eq_true rfl, (by first | assumption | rfl), ?_⟩
      refine c_Rbeside (gi.rp.rd wp) hcs.1.1 (by rw [gi.rp.w, gi.rp.h]; exact hcs.1.2) ?_
      rw [gi.rp.w, gi.rp.h]
      conv => whnf
      refine ⟨Nat.le_of_ble_eq_true rfl, Nat.le_of_ble_eq_true rfl, (by first | assumption | rfl), ?_⟩
      refine c_Rison wp wm gi hde hcs.1 (hM2.2.2 u hcs.1.1 hcs.1.2) (by rcases hbo with w | w; exact Or.inl w; exact Or.inr ⟨w.1, w.2, hM2.2.2 _ w.1 w.2⟩) (fun o1 o2 => ?_) (fun o0 => ?_)
      · skip
        conv => whnf
        refine ⟨fun g => ?_, fun g => ?_⟩
        · skip
          conv => whnf
          refine ⟨Nat.le_of_ble_eq_true rfl, Nat.le_of_ble_eq_true rfl, (by first | assumption | rfl), ?_⟩
          refine c_Rbeside (gi.rp.rd wp) hcs.1.1 (by rw [gi.rp.w, gi.rp.h]; exact hcs.1.2) ?_
          rw [gi.rp.w, gi.rp.h]
          conv => whnf
          refine ⟨⟨by omega, by omega⟩, ?_⟩
          conv => whnf
          refine ⟨_, ?_, Or.inl ⟨rfl, _, _, _, rfl, rfl, ?_, rfl⟩⟩
          · omega
          · exact ⟨hfi, hde, hM2, eG, by omega, by omega, hk1, by rw [fCh_s hi0, ← hu, fNxt_y ⟨hy0, by omega⟩ hno ⟨o1, o2⟩], hq⟩
        · exact absurd g (by simp [sx_cc])
      · skip
        conv => whnf
        refine ⟨fun g => ?_, fun g => ?_⟩
        · exact absurd g (by simp [sx_cc])
        · skip
          conv => whnf
          refine ⟨⟨by omega, by omega⟩, ?_⟩
          conv => whnf
          refine ⟨_, ?_, Or.inr (⟨rfl, _, _, _, rfl, rfl, ?_, rfl⟩)⟩
          · omega
          · have hyn : ¬ y = z := fun w => o0 (by rw [w]; exact z2)
            refine ⟨hfi, hde, hM2, eG, hi0, hi1, hk1, hu, hq, hik, fun z' w0 w1 => ?_, by omega, by omega⟩
            by_cases e9 : z' = y
            · rw [e9]; exact o0
            · exact hno z' w0 (by omega)
end SXN8
