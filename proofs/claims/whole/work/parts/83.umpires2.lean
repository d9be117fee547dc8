/-! UMPIRES, class side: the fewest (by wip/whole) -/
section SXM16
variable {X : sx_X} {Q : sx_R} {p : Int} {σ σ0 σ' σ1 σ2 : sx_S} {P : aP} {A : aM}
abbrev pSg (σ σ' : sx_S) : Prop := ∀ b i : Int, ¬ b = 122 → ¬ b = 123 → σ' b i = σ b i
theorem pSg_pts : ptL.all (fun q => decide (¬ q.1 = 122 ∧ ¬ q.1 = 123)) = true := by decide +kernel
theorem pSg_pt (h : pSg σ σ') (hT : PT σ) : PT σ' := hT.fr (fun q hq => by have h1 := of_decide_eq_true (List.all_eq_true.mp pSg_pts q hq); exact h _ _ h1.1 h1.2)
theorem pSg_cp (h : pSg σ σ') (hp : isP p) (g : cP p σ P) : cP p σ' P := g.of (fun a i z1 z2 => h _ _ (by rcases hp with h9 | h9 <;> omega) (by rcases hp with h9 | h9 <;> omega))
set_option maxRecDepth 20000 in
theorem c_few (hp : isP p) (wp : wP P) (hT : PT σ) (gp : cP p σ P) {g9 : Int} (h : ∀ σ' m, pSg σ σ' → pUm P (P.w * P.h) g9 m (σ' 122) → Q (some (.inl m)) shM σ') : sx_Run X 72 [.inr (.inr 121), .inr (.inr p), .inr (.inl g9)] shM σ Q := by
  have q0 := lkP0 hp
  have q1 := lkP1 hp
  have v4 := wp.wh
  have hN : 0 ≤ (P.w * P.h) ∧ (P.w * P.h) ≤ 48 := by omega
  refine sx_rule2 (own := 8) (cd := kX8_fewest) (nL := 6) (by decide +kernel) (by decide +kernel) kX8_fewest_ok (by decide +kernel) (Nat.le_of_ble_eq_true rfl) [9, 90] 40 (fun n t L st _ σ' => (t = 9 ∧ ∃ i : Int, st = [] ∧ L = [some (.inr (.inr (121))), some (.inr (.inr (p))), some (.inr (.inl (g9))), none, some (.inl ((P.w * P.h))), some (.inl (i))] ∧ (pSg σ σ' ∧ (∀ c : Int, 0 ≤ c → c < i → σ' 123 c = fS P c) ∧ 0 ≤ i ∧ i ≤ (P.w * P.h)) ∧ n = (500 - i).toNat) ∨ (t = 90 ∧ ∃ i : Int, st = [] ∧ L = [some (.inr (.inr (121))), some (.inr (.inr (p))), some (.inr (.inl (g9))), none, some (.inl ((P.w * P.h))), some (.inl (i))] ∧ (pSg σ σ' ∧ (∀ c : Int, 0 ≤ c → c < (P.w * P.h) → σ' 123 c = fS P c) ∧ ¬ g9 = 0 ∧ pN1 P (P.w * P.h) g9 ∧ pN2 P (P.w * P.h) 0 g9 ∧ (∀ j : Int, 0 ≤ j → j < i → pN2 P (P.w * P.h) (j + 1) (cv P g9 j)) ∧ 0 ≤ i ∧ i ≤ (P.w * P.h)) ∧ n = (100 - i).toNat)) ?_ ?_
  · skip
    conv => whnf
    refine ⟨Nat.le_of_ble_eq_true rfl, Nat.le_of_ble_eq_true rfl, (by first | assumption | rfl), ?_⟩
    refine c_Pcells hp (gp.pd wp) ?_
    rw [gp.w, gp.h]
    conv => whnf
    refine ⟨_, Or.inl ⟨rfl, _, rfl, rfl, ?_, rfl⟩⟩
    exact ⟨fun b i _ _ => rfl, fun c y0 y1 => by omega, by omega, by omega⟩
  · intro n t L st σ' hk
    rcases hk with hk | hk
    · obtain ⟨rfl, i, rfl, rfl, hc, rfl⟩ := hk
      obtain ⟨xc, hs, hi0, hi1⟩ := hc
      have Tc := pSg_pt xc hT
      have gc := pSg_cp xc hp gp
      have a1 := pt_121_1 Tc
      have t2 := ptP_2 Tc hp
      conv => whnf
      refine ⟨fun g => ?_, fun g => ?_⟩
      · simp only [sx_cc, Classical.not_not] at g
        conv => whnf
        refine ⟨fun g => ?_, fun g => ?_⟩
        · simp only [sx_cc, Classical.not_not] at g
          try simp only [cmp_eq, cmp_lt, cmp_ge, Classical.not_not] at g
          have hs' : ∀ c : Int, 0 ≤ c → c < (P.w * P.h) → σ' 123 c = fS P c := fun c y0 y1 => hs c y0 (by omega)
          conv => whnf
          refine ⟨Nat.le_of_ble_eq_true rfl, Nat.le_of_ble_eq_true rfl, (by first | assumption | rfl), ?_⟩
          refine c_one (N := (P.w * P.h)) (P := P) Tc hs' hN ⟨by decide, by decide⟩ (by decide) (fun c z1 z2 z3 z4 => ?_) (fun z0 => ?_)
          · skip
            conv => whnf
            refine ⟨fun g => ?_, fun g => ?_⟩
            · exact absurd g (by simp [sx_cc])
            · skip
              conv => whnf
              refine ⟨fun q9 => by first | (simp at q9; done) | omega, ?_⟩
              refine h _ 1 (fun b j y1 y2 => by rw [up_a y1]; exact xc b j y1 y2) (Or.inr (Or.inl ⟨by assumption, rfl, ?_⟩))
              rw [up_s]
              exact ⟨z1, z2, z3, z4⟩
          · skip
            conv => whnf
            refine ⟨fun g => ?_, fun g => ?_⟩
            · skip
              conv => whnf
              refine ⟨Nat.le_of_ble_eq_true rfl, Nat.le_of_ble_eq_true rfl, (by first | assumption | rfl), ?_⟩
              refine c_two (N := (P.w * P.h)) (P := P) Tc hs' hN ⟨by decide, by decide⟩ (by decide) (fun a c σ6 z1 z2 z3 z4 z5 => ?_) (fun σ6 y0 y1 y2 => ?_)
              · skip
                conv => whnf
                refine ⟨fun g => ?_, fun g => ?_⟩
                · exact absurd g (by simp [sx_cc])
                · skip
                  conv => whnf
                  refine ⟨fun q9 => by first | (simp at q9; done) | omega, ?_⟩
                  refine h _ 2 (fun b j y1 y2 => (z2 b j y1).trans (xc b j y1 y2)) (Or.inr (Or.inr (Or.inl ⟨by assumption, rfl, z0, ?_⟩)))
                  rw [z3, show (1 : Int) = 0 + 1 from rfl, z4]
                  exact z1
              · skip
                conv => whnf
                refine ⟨fun g => ?_, fun g => ?_⟩
                · skip
                  conv => whnf
                  refine ⟨_, ?_, Or.inr (⟨rfl, _, rfl, rfl, ?_, rfl⟩)⟩
                  · omega
                  · exact ⟨fun b j z1 z2 => (y1 b j z1).trans (xc b j z1 z2), fun c w0 w1 => (y1 _ _ (by decide)).trans (hs' c w0 w1), by assumption, z0, y0, fun j w0 w1 => by omega, by omega, by omega⟩
                · exact absurd g (by simp [sx_cc])
            · exact absurd g (by simp [sx_cc])
        · simp only [sx_cc, Classical.not_not] at g
          try simp only [cmp_eq, cmp_lt, cmp_ge, Classical.not_not] at g
          conv => whnf
          refine ⟨fun q9 => by first | (simp at q9; done) | omega, ?_⟩
          exact h _ 0 xc (Or.inl ⟨rfl, by assumption⟩)
      · simp only [sx_cc, Classical.not_not] at g
        have eki := gc.ki i hi0 (by omega)
        conv => whnf
        refine ⟨(by first | assumption | rfl), ?_⟩
        try simp (disch := omega) only [Int.cast_ofNat_Int, up_s, up_a, up_i, mp_a, mp_ge]
        try simp only [a0]
        try simp only [a1]
        try simp only [t2]
        try simp only [eki]
        try simp only [es]
        conv => whnf
        refine ⟨(by first | assumption | rfl), ?_⟩
        try simp (disch := omega) only [Int.cast_ofNat_Int, up_s, up_a, up_i, mp_a, mp_ge]
        try simp only [a0]
        try simp only [a1]
        try simp only [t2]
        try simp only [eki]
        try simp only [es]
        conv => whnf
        refine ⟨sx_ixI (by first | assumption | rfl) (by omega) (by omega), ?_⟩
        try simp (disch := omega) only [Int.cast_ofNat_Int, up_s, up_a, up_i, mp_a, mp_ge]
        try simp only [a0]
        try simp only [a1]
        try simp only [t2]
        try simp only [eki]
        try simp only [es]
        conv => whnf
        refine ⟨fun g => ?_, fun g => ?_⟩
        · simp only [sx_cc, Classical.not_not] at g
          conv => whnf
          refine ⟨Nat.le_of_ble_eq_true rfl, Nat.le_of_ble_eq_true rfl, (by first | assumption | rfl), ?_⟩
          refine c_see hp wp Tc gc ⟨hi0, by omega⟩ ?_
          conv => whnf
          refine ⟨sx_ixI (by first | assumption | rfl) (by omega) (by omega), ?_⟩
          conv => whnf
          refine ⟨⟨by omega, by omega⟩, ?_⟩
          conv => whnf
          refine ⟨_, ?_, Or.inl ⟨rfl, _, rfl, rfl, ?_, rfl⟩⟩
          · omega
          · refine ⟨fun b j z1 z2 => by rw [up_a z2]; exact xc b j z1 z2, fun c y0 y1 => ?_, by omega, by omega⟩
            by_cases e9 : c = i
            · rw [e9, up_s]; unfold fS; first | (rw [if_pos (by assumption)]; rfl) | rw [if_neg (by assumption)]
            · rw [up_i e9]; exact hs c y0 (by omega)
        · simp only [sx_cc, Classical.not_not] at g
          conv => whnf
          refine ⟨sx_ixI (by first | assumption | rfl) (by omega) (by omega), ?_⟩
          conv => whnf
          refine ⟨⟨by omega, by omega⟩, ?_⟩
          conv => whnf
          refine ⟨_, ?_, Or.inl ⟨rfl, _, rfl, rfl, ?_, rfl⟩⟩
          · omega
          · refine ⟨fun b j z1 z2 => by rw [up_a z2]; exact xc b j z1 z2, fun c y0 y1 => ?_, by omega, by omega⟩
            by_cases e9 : c = i
            · rw [e9, up_s]; unfold fS; first | (rw [if_pos (by assumption)]; rfl) | rw [if_neg (by assumption)]
            · rw [up_i e9]; exact hs c y0 (by omega)
    · obtain ⟨rfl, i, rfl, rfl, hc, rfl⟩ := hk
      obtain ⟨xc, hs, hg0, hn1, hn2, hn3, hi0, hi1⟩ := hc
      have Tc := pSg_pt xc hT
      have a0 := pt_121_0 Tc
      conv => whnf
      refine ⟨fun g => ?_, fun g => ?_⟩
      · simp only [sx_cc, Classical.not_not] at g
        conv => whnf
        refine ⟨fun q9 => by first | (simp at q9; done) | omega, ?_⟩
        exact h _ (-2) xc (Or.inr (Or.inr (Or.inr (Or.inr ⟨hg0, rfl, hn1, hn2, fun j y0 y1 => hn3 j y0 (by omega)⟩))))
      · simp only [sx_cc, Classical.not_not] at g
        conv => whnf
        refine ⟨(by first | assumption | rfl), ?_⟩
        try simp (disch := omega) only [Int.cast_ofNat_Int, up_s, up_a, up_i, mp_a, mp_ge]
        try simp only [a0]
        try simp only [a1]
        try simp only [t2]
        try simp only [eki]
        try simp only [es]
        conv => whnf
        refine ⟨sx_ixI (by first | assumption | rfl) (by omega) (by omega), ?_⟩
        generalize e1 : sx_up σ' 122 0 i = σ5
        have x5 : pSg σ σ5 := fun b j z1 z2 => by rw [← e1, up_a z1]; exact xc b j z1 z2
        have T1 := pSg_pt x5 hT
        have a1 := pt_121_1 T1
        have hs5 : ∀ c : Int, 0 ≤ c → c < (P.w * P.h) → σ5 123 c = fS P c := fun c y0 y1 => by rw [← e1, up_a (by decide)]; exact hs c y0 y1
        have es := hs5 i (by omega) (by omega)
        conv => whnf
        refine ⟨(by first | assumption | rfl), ?_⟩
        try simp (disch := omega) only [Int.cast_ofNat_Int, up_s, up_a, up_i, mp_a, mp_ge]
        try simp only [a0]
        try simp only [a1]
        try simp only [t2]
        try simp only [eki]
        try simp only [es]
        conv => whnf
        refine ⟨sx_ixI (by first | assumption | rfl) (by omega) (by omega), ?_⟩
        try simp (disch := omega) only [Int.cast_ofNat_Int, up_s, up_a, up_i, mp_a, mp_ge]
        try simp only [a0]
        try simp only [a1]
        try simp only [t2]
        try simp only [eki]
        try simp only [es]
        conv => whnf
        refine ⟨⟨by omega, by omega⟩, ?_⟩
        conv => whnf
        refine ⟨Nat.le_of_ble_eq_true rfl, Nat.le_of_ble_eq_true rfl, (by first | assumption | rfl), ?_⟩
        refine c_two (N := (P.w * P.h)) (P := P) (g9 := cv P g9 i) T1 hs5 hN ⟨by decide, by decide⟩ (by omega) (fun a c σ6 z1 z2 z3 z4 z5 => ?_) (fun σ6 y0 y1 y2 => ?_)
        · skip
          conv => whnf
          refine ⟨fun g => ?_, fun g => ?_⟩
          · exact absurd g (by simp [sx_cc])
          · skip
            conv => whnf
            refine ⟨fun q9 => by first | (simp at q9; done) | omega, ?_⟩
            refine h _ 3 (fun b j y1 y2 => (z2 b j y1).trans (x5 b j y1 y2)) (Or.inr (Or.inr (Or.inr (Or.inl ⟨hg0, rfl, hn1, hn2, ?_⟩))))
            rw [z5 0 (by decide), ← e1, up_s, z3, show (2 : Int) = 1 + 1 from rfl, z4]
            exact ⟨hi0, by omega, z1, hn3⟩
        · skip
          conv => whnf
          refine ⟨fun g => ?_, fun g => ?_⟩
          · skip
            conv => whnf
            refine ⟨⟨by omega, by omega⟩, ?_⟩
            conv => whnf
            refine ⟨_, ?_, Or.inr (⟨rfl, _, rfl, rfl, ?_, rfl⟩)⟩
            · omega
            · refine ⟨fun b j z1 z2 => (y1 b j z1).trans (x5 b j z1 z2), fun c w0 w1 => (y1 _ _ (by decide)).trans (hs5 c w0 w1), hg0, hn1, hn2, fun j w0 w1 => ?_, by omega, by omega⟩
              by_cases e9 : j = i
              · subst e9; exact y0
              · exact hn3 j w0 (by omega)
          · exact absurd g (by simp [sx_cc])
set_option maxRecDepth 20000 in
theorem c_umpires (hp : isP p) (e2 : σ 0 2 = p) (wp : wP P) (hT : PT σ) (gp : cP p σ P) {g9 : Int} (hg : -9223372036854775808 ≤ g9 ∧ g9 ≤ 9223372036854775807) (h0 : ¬ pGnd P g9 → Q (some (.inl (-1))) shM σ) (h : pGnd P g9 → ∀ σ' m, pSg σ σ' → pUm P (P.w * P.h) g9 m (σ' 122) → Q (some (.inl m)) shM σ') : sx_Run X 159 [.inr (.inr 0), .inr (.inl g9)] shM σ Q := by
  have a13 := pt_0_13 hT
  have q0 := lkP0 hp
  refine sx_rule0 (own := 11) (cd := kX11_umpires) (nL := 3) (by decide +kernel) (by decide +kernel) kX11_umpires_ok (by decide +kernel) (Nat.le_of_ble_eq_true rfl) 40 ?_
  conv => whnf
  refine ⟨(by first | assumption | rfl), ?_⟩
  try simp (disch := omega) only [Int.cast_ofNat_Int, up_s, up_a, up_i, mp_a, mp_ge]
  try simp only [e2]
  try simp only [a13]
  try simp only [a0]
  conv => whnf
  refine ⟨(by first | assumption | rfl), ?_⟩
  try simp (disch := omega) only [Int.cast_ofNat_Int, up_s, up_a, up_i, mp_a, mp_ge]
  try simp only [e2]
  try simp only [a13]
  try simp only [a0]
  conv => whnf
  refine ⟨Nat.le_of_ble_eq_true rfl, Nat.le_of_ble_eq_true rfl, (by first | assumption | rfl), ?_⟩
  refine c_gnd hp wp hT gp hg (fun yg => ?_) (fun yg => ?_)
  · skip
    conv => whnf
    refine ⟨fun g => ?_, fun g => ?_⟩
    · skip
      conv => whnf
      refine ⟨(by first | assumption | rfl), ?_⟩
      try simp (disch := omega) only [Int.cast_ofNat_Int, up_s, up_a, up_i, mp_a, mp_ge]
      try simp only [e2]
      try simp only [a13]
      try simp only [a0]
      conv => whnf
      refine ⟨(by first | assumption | rfl), ?_⟩
      try simp (disch := omega) only [Int.cast_ofNat_Int, up_s, up_a, up_i, mp_a, mp_ge]
      try simp only [e2]
      try simp only [a13]
      try simp only [a0]
      conv => whnf
      refine ⟨Nat.le_of_ble_eq_true rfl, Nat.le_of_ble_eq_true rfl, (by first | assumption | rfl), ?_⟩
      refine c_few hp wp hT gp ?_
      intro σ2 m2 x2 u2
      conv => whnf
      refine ⟨fun q9 => by first | (simp at q9; done) | omega, ?_⟩
      exact h yg _ _ x2 u2
    · exact absurd g (by simp [sx_cc])
  · skip
    conv => whnf
    refine ⟨fun g => ?_, fun g => ?_⟩
    · exact absurd g (by simp [sx_cc])
    · skip
      conv => whnf
      refine ⟨fun q9 => by first | (simp at q9; done) | omega, ?_⟩
      exact h0 yg
theorem pUm_m {N g m : Int} {u : Int → Int} (h : pUm P N g m u) : -2 ≤ m ∧ m ≤ 3 := by
  rcases h with h | h | h | h | h <;> omega
set_option maxRecDepth 20000 in
theorem c_umpire (hp : isP p) (e2 : σ 0 2 = p) (wp : wP P) (hT : PT σ) (gp : cP p σ P) {g9 k : Int} (hg : -9223372036854775808 ≤ g9 ∧ g9 ≤ 9223372036854775807) (h0 : ¬ (pGnd P g9 ∧ 0 ≤ k) → Q (some (.inl (-1))) shM σ) (h : pGnd P g9 → 0 ≤ k → ∀ σ' m, pSg σ σ' → pUm P (P.w * P.h) g9 m (σ' 122) → Q (some (.inl (if k < m then σ' 122 k else -2))) shM σ') : sx_Run X 160 [.inr (.inr 0), .inr (.inl g9), .inl k] shM σ Q := by
  have a13 := pt_0_13 hT
  have q0 := lkP0 hp
  refine sx_rule0 (own := 11) (cd := kX11_umpire) (nL := 5) (by decide +kernel) (by decide +kernel) kX11_umpire_ok (by decide +kernel) (Nat.le_of_ble_eq_true rfl) 40 ?_
  conv => whnf
  refine ⟨(by first | assumption | rfl), ?_⟩
  try simp (disch := omega) only [Int.cast_ofNat_Int, up_s, up_a, up_i, mp_a, mp_ge]
  try simp only [e2]
  try simp only [a13]
  try simp only [a0]
  conv => whnf
  refine ⟨(by first | assumption | rfl), ?_⟩
  try simp (disch := omega) only [Int.cast_ofNat_Int, up_s, up_a, up_i, mp_a, mp_ge]
  try simp only [e2]
  try simp only [a13]
  try simp only [a0]
  conv => whnf
  refine ⟨Nat.le_of_ble_eq_true rfl, Nat.le_of_ble_eq_true rfl, (by first | assumption | rfl), ?_⟩
  refine c_gnd hp wp hT gp hg (fun yg => ?_) (fun yg => ?_)
  · skip
    conv => whnf
    refine ⟨fun g => ?_, fun g => ?_⟩
    · exact absurd g (by simp [sx_cc])
    · skip
      conv => whnf
      refine ⟨fun g => ?_, fun g => ?_⟩
      · simp only [sx_cc, Classical.not_not] at g
        conv => whnf
        refine ⟨(by first | assumption | rfl), ?_⟩
        try simp (disch := omega) only [Int.cast_ofNat_Int, up_s, up_a, up_i, mp_a, mp_ge]
        try simp only [e2]
        try simp only [a13]
        try simp only [a0]
        conv => whnf
        refine ⟨(by first | assumption | rfl), ?_⟩
        try simp (disch := omega) only [Int.cast_ofNat_Int, up_s, up_a, up_i, mp_a, mp_ge]
        try simp only [e2]
        try simp only [a13]
        try simp only [a0]
        conv => whnf
        refine ⟨Nat.le_of_ble_eq_true rfl, Nat.le_of_ble_eq_true rfl, (by first | assumption | rfl), ?_⟩
        refine c_few hp wp hT gp ?_
        intro σ2 m2 x2 u2
        have T2 := pSg_pt x2 hT
        have a13 := pt_0_13 T2
        have a0 := pt_121_0 T2
        have hm2 := pUm_m u2
        conv => whnf
        refine ⟨fun g => ?_, fun g => ?_⟩
        · simp only [sx_cc, Classical.not_not] at g
          conv => whnf
          refine ⟨fun q9 => by first | (simp at q9; done) | omega, ?_⟩
          have h9 := h yg (by omega) _ _ x2 u2
          first | (rw [if_pos (by omega)] at h9; exact h9) | (rw [if_neg (by omega)] at h9; exact h9)
        · simp only [sx_cc, Classical.not_not] at g
          conv => whnf
          refine ⟨fun g => ?_, fun g => ?_⟩
          · simp only [sx_cc, Classical.not_not] at g
            conv => whnf
            refine ⟨fun q9 => by first | (simp at q9; done) | omega, ?_⟩
            have h9 := h yg (by omega) _ _ x2 u2
            first | (rw [if_pos (by omega)] at h9; exact h9) | (rw [if_neg (by omega)] at h9; exact h9)
          · simp only [sx_cc, Classical.not_not] at g
            conv => whnf
            refine ⟨(by first | assumption | rfl), ?_⟩
            try simp (disch := omega) only [Int.cast_ofNat_Int, up_s, up_a, up_i, mp_a, mp_ge]
            try simp only [e2]
            try simp only [a13]
            try simp only [a0]
            conv => whnf
            refine ⟨(by first | assumption | rfl), ?_⟩
            try simp (disch := omega) only [Int.cast_ofNat_Int, up_s, up_a, up_i, mp_a, mp_ge]
            try simp only [e2]
            try simp only [a13]
            try simp only [a0]
            conv => whnf
            refine ⟨sx_ixI (by first | assumption | rfl) (by omega) (by omega), ?_⟩
            try simp (disch := omega) only [Int.cast_ofNat_Int, up_s, up_a, up_i, mp_a, mp_ge]
            try simp only [e2]
            try simp only [a13]
            try simp only [a0]
            conv => whnf
            refine ⟨fun q9 => by first | (simp at q9; done) | omega, ?_⟩
            have h9 := h yg (by omega) _ _ x2 u2
            first | (rw [if_pos (by omega)] at h9; exact h9) | (rw [if_neg (by omega)] at h9; exact h9)
      · simp only [sx_cc, Classical.not_not] at g
        conv => whnf
        refine ⟨fun q9 => by first | (simp at q9; done) | omega, ?_⟩
        first | exact h0 (fun z9 => yg z9.1) | exact h0 (fun z9 => by omega)
  · skip
    conv => whnf
    refine ⟨fun g => ?_, fun g => ?_⟩
    · skip
      conv => whnf
      refine ⟨fun q9 => by first | (simp at q9; done) | omega, ?_⟩
      first | exact h0 (fun z9 => yg z9.1) | exact h0 (fun z9 => by omega)
    · exact absurd g (by simp [sx_cc])
end SXM16
