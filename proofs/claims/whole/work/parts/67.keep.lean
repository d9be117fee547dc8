/-! KEEP AND BACK (by wip/whole) -/
section SXL14
variable {X : sx_X} {Q : sx_R} {s t p b c kk : Int} {σ σ0 σ' σ1 σ2 : sx_S} {P : aP} {A B : aM} {W V : aW}
set_option maxRecDepth 20000 in
theorem c_keep (hp : isP p) (wp : wP P) (wm : wM P A c) (g0 : GC 40 p P A σ) (hW : cW P 40 σ W) (h : ∀ σ', fr (FX 55) σ σ' → GC 55 p P A σ' → cW P 55 σ' W → Q (some (.inl A.hr)) shM (sx_up σ' 0 9 1)) : sx_Run X 168 [.inr (.inr 0)] shM σ Q := by
  have hs4 : isS 40 := Or.inl rfl
  have hs5 : isS 55 := Or.inr (Or.inl rfl)
  have a6 := pt_0_6 g0.pt
  have a7 := pt_0_7 g0.pt
  have k0 := lkS0 hs4
  refine sx_rule0 (own := 11) (cd := kX11_keep) (nL := 1) (by decide +kernel) (by decide +kernel) kX11_keep_ok (by decide +kernel) (Nat.le_of_ble_eq_true rfl) 40 ?_
  conv => whnf
  refine ⟨(by first | assumption | rfl), ?_⟩
  try simp (disch := omega) only [Int.cast_ofNat_Int, up_s, up_a, up_i, mp_a, mp_ge]
  try simp only [a6]
  try simp only [a7]
  try simp only [a10]
  try simp only [ehr]
  conv => whnf
  refine ⟨(by first | assumption | rfl), ?_⟩
  try simp (disch := omega) only [Int.cast_ofNat_Int, up_s, up_a, up_i, mp_a, mp_ge]
  try simp only [a6]
  try simp only [a7]
  try simp only [a10]
  try simp only [ehr]
  conv => whnf
  refine ⟨Nat.le_of_ble_eq_true rfl, Nat.le_of_ble_eq_true rfl, (by first | assumption | rfl), ?_⟩
  refine a_Stake hs5 hs4 hp (by decide) wp wm g0 hW ?_
  intro σ1 hf1 g1 w1
  have a6 := pt_0_6 g1.pt
  have ehr : σ1 40 7 = A.hr := (hf1 _ _ (by decide)).trans g0.cs.hr
  conv => whnf
  refine ⟨(by first | assumption | rfl), by omega, ?_⟩
  try simp (disch := omega) only [Int.cast_ofNat_Int, up_s, up_a, up_i, mp_a, mp_ge]
  try simp only [a6]
  try simp only [a7]
  try simp only [a10]
  try simp only [ehr]
  conv => whnf
  refine ⟨(by first | assumption | rfl), ?_⟩
  try simp (disch := omega) only [Int.cast_ofNat_Int, up_s, up_a, up_i, mp_a, mp_ge]
  try simp only [a6]
  try simp only [a7]
  try simp only [a10]
  try simp only [ehr]
  conv => whnf
  refine ⟨(by first | assumption | rfl), ?_⟩
  try simp (disch := omega) only [Int.cast_ofNat_Int, up_s, up_a, up_i, mp_a, mp_ge]
  try simp only [a6]
  try simp only [a7]
  try simp only [a10]
  try simp only [ehr]
  conv => whnf
  refine ⟨fun q9 => by first | (simp at q9; done) | omega, ?_⟩
  exact h _ hf1 g1 w1
set_option maxRecDepth 20000 in
theorem c_back (hp : isP p) (wp : wP P) (wm : wM P B c) (hT : PT σ) (g0 : σ 0 9 = 1 → GC 55 p P B σ) (hW : σ 0 9 = 1 → cW P 55 σ V) (hk : σ 0 9 = 0 ∨ σ 0 9 = 1) (h0 : σ 0 9 = 0 → Q (some (.inl (-1))) shM σ) (h : σ 0 9 = 1 → ∀ σ', fr (FX 40) σ σ' → GC 40 p P B σ' → cW P 40 σ' V → Q (some (.inl B.hr)) shM (sx_up σ' 85 0 0)) : sx_Run X 169 [.inr (.inr 0)] shM σ Q := by
  have hs4 : isS 40 := Or.inl rfl
  have hs5 : isS 55 := Or.inr (Or.inl rfl)
  have a6 := pt_0_6 hT
  have a7 := pt_0_7 hT
  have k0 := lkS0 hs4
  refine sx_rule0 (own := 11) (cd := kX11_back) (nL := 1) (by decide +kernel) (by decide +kernel) kX11_back_ok (by decide +kernel) (Nat.le_of_ble_eq_true rfl) 40 ?_
  conv => whnf
  refine ⟨(by first | assumption | rfl), ?_⟩
  try simp (disch := omega) only [Int.cast_ofNat_Int, up_s, up_a, up_i, mp_a, mp_ge]
  try simp only [a6]
  try simp only [a7]
  try simp only [a10]
  try simp only [ehr]
  conv => whnf
  refine ⟨fun g => ?_, fun g => ?_⟩
  · simp only [sx_cc, Classical.not_not] at g
    conv => whnf
    refine ⟨(by first | assumption | rfl), ?_⟩
    try simp (disch := omega) only [Int.cast_ofNat_Int, up_s, up_a, up_i, mp_a, mp_ge]
    try simp only [a6]
    try simp only [a7]
    try simp only [a10]
    try simp only [ehr]
    conv => whnf
    refine ⟨(by first | assumption | rfl), ?_⟩
    try simp (disch := omega) only [Int.cast_ofNat_Int, up_s, up_a, up_i, mp_a, mp_ge]
    try simp only [a6]
    try simp only [a7]
    try simp only [a10]
    try simp only [ehr]
    conv => whnf
    refine ⟨Nat.le_of_ble_eq_true rfl, Nat.le_of_ble_eq_true rfl, (by first | assumption | rfl), ?_⟩
    have hk1 : σ 0 9 = 1 := by omega
    refine a_Stake hs4 hs5 hp (by decide) wp wm (g0 hk1) (hW hk1) ?_
    intro σ1 hf1 g1 w1
    have a6 := pt_0_6 g1.pt
    have a10 := pt_0_10 g1.pt
    have ehr := g1.cs.hr
    conv => whnf
    refine ⟨(by first | assumption | rfl), ?_⟩
    try simp (disch := omega) only [Int.cast_ofNat_Int, up_s, up_a, up_i, mp_a, mp_ge]
    try simp only [a6]
    try simp only [a7]
    try simp only [a10]
    try simp only [ehr]
    conv => whnf
    refine ⟨(by first | assumption | rfl), ?_⟩
    try simp (disch := omega) only [Int.cast_ofNat_Int, up_s, up_a, up_i, mp_a, mp_ge]
    try simp only [a6]
    try simp only [a7]
    try simp only [a10]
    try simp only [ehr]
    conv => whnf
    refine ⟨(by first | assumption | rfl), ?_⟩
    try simp (disch := omega) only [Int.cast_ofNat_Int, up_s, up_a, up_i, mp_a, mp_ge]
    try simp only [a6]
    try simp only [a7]
    try simp only [a10]
    try simp only [ehr]
    conv => whnf
    refine ⟨(by first | assumption | rfl), ?_⟩
    try simp (disch := omega) only [Int.cast_ofNat_Int, up_s, up_a, up_i, mp_a, mp_ge]
    try simp only [a6]
    try simp only [a7]
    try simp only [a10]
    try simp only [ehr]
    conv => whnf
    refine ⟨fun q9 => by first | (simp at q9; done) | omega, ?_⟩
    exact h hk1 _ hf1 g1 w1
  · simp only [sx_cc, Classical.not_not] at g
    conv => whnf
    refine ⟨fun q9 => by first | (simp at q9; done) | omega, ?_⟩
    exact h0 (by omega)
abbrev pKw (to i j a y : Int) : Prop := a = to ∧ ((i ≤ y ∧ y < i + j) ∨ (i + 5 ≤ y ∧ y < i + 5 + j) ∨ (i + 10 ≤ y ∧ y < i + 10 + j))
set_option maxRecDepth 20000 in
theorem c_Rkeepw (hT : PT σ) {to i : Int} {len : Nat} (hto : sx_lk shM to = (1, len)) (ht9 : to = 167 ∨ to = 168) (hi : 0 ≤ i) (hil : i + 16 ≤ (len : Int)) (hln : (len : Int) ≤ 100000) (h : ∀ σ', (∀ a y : Int, ¬ (a = to ∧ i ≤ y ∧ y < i + 16) → σ' a y = σ a y) → (∀ w : Int, 0 ≤ w → w < 5 → σ' to (i + w) = σ 157 w ∧ σ' to (i + 5 + w) = σ 158 w ∧ σ' to (i + 10 + w) = σ 159 w) → σ' to (i + 15) = σ 154 0 → Q none shM σ') : sx_Run X 300 [.inr (.inr 124), .inr (.inr to), .inl i] shM σ Q := by
  refine sx_rule2 (own := 12) (cd := kX12_keepWalkers) (nL := 4) (by decide +kernel) (by decide +kernel) kX12_keepWalkers_ok (by decide +kernel) (Nat.le_of_ble_eq_true rfl) [2] 40 (fun n t L st _ σ' => (t = 2 ∧ ∃ j : Int, st = [] ∧ L = [some (.inr (.inr (124))), some (.inr (.inr (to))), some (.inl (i)), some (.inl (j))] ∧ ((∀ a y : Int, ¬ pKw to i j a y → σ' a y = σ a y) ∧ (∀ w : Int, 0 ≤ w → w < j → σ' to (i + w) = σ 157 w) ∧ (∀ w : Int, 0 ≤ w → w < j → σ' to (i + 5 + w) = σ 158 w) ∧ (∀ w : Int, 0 ≤ w → w < j → σ' to (i + 10 + w) = σ 159 w) ∧ 0 ≤ j ∧ j ≤ 5) ∧ n = (5 - j).toNat)) ?_ ?_
  · skip
    conv => whnf
    refine ⟨_, ⟨rfl, _, rfl, rfl, ?_, rfl⟩⟩
    exact ⟨fun a y z => rfl, fun w y0 y1 => by omega, fun w y0 y1 => by omega, fun w y0 y1 => by omega, by omega, by omega⟩
  · intro n t L st σ' hk
    obtain ⟨rfl, j, rfl, rfl, hc, rfl⟩ := hk
    obtain ⟨hfi, hw1, hw2, hw3, hj0, hj1⟩ := hc
    have hT' : PT σ' := PT_ar hT hto (by decide) (fun b9 hb9 => funext fun y9 => hfi _ _ (by unfold pKw; omega))
    have r65 := pt_124_65 hT'
    have r68 := pt_124_68 hT'
    have r69 := pt_124_69 hT'
    have r70 := pt_124_70 hT'
    have e1 : σ' 157 j = σ 157 j := hfi _ _ (by unfold pKw; omega)
    have e2 : σ' 158 j = σ 158 j := hfi _ _ (by unfold pKw; omega)
    have e3 : σ' 159 j = σ 159 j := hfi _ _ (by unfold pKw; omega)
    have e4 : σ' 154 0 = σ 154 0 := hfi _ _ (by unfold pKw; omega)
    conv => whnf
    refine ⟨fun g => ?_, fun g => ?_⟩
    · simp only [sx_cc, Classical.not_not] at g
      conv => whnf
      refine ⟨⟨by omega, by omega⟩, ?_⟩
      conv => whnf
      refine ⟨(by first | assumption | rfl), ?_⟩
      try simp (disch := omega) only [Int.cast_ofNat_Int, up_s, up_a, up_i, mp_a, mp_ge]
      try simp only [r65]
      try simp only [r68]
      try simp only [r69]
      try simp only [r70]
      try simp only [e1]
      try simp only [e2]
      try simp only [e3]
      try simp only [e4]
      conv => whnf
      refine ⟨sx_ixI (by first | assumption | rfl) (by omega) (by omega), ?_⟩
      try simp (disch := omega) only [Int.cast_ofNat_Int, up_s, up_a, up_i, mp_a, mp_ge]
      try simp only [r65]
      try simp only [r68]
      try simp only [r69]
      try simp only [r70]
      try simp only [e1]
      try simp only [e2]
      try simp only [e3]
      try simp only [e4]
      conv => whnf
      refine ⟨sx_ixI (by first | assumption | rfl) (by omega) (by omega), ?_⟩
      conv => whnf
      refine ⟨rfl, ?_⟩
      have ej : j = 5 := by omega
      subst ej
      refine h _ (fun a y z => ?_) (fun w y0 y1 => ⟨?_, ?_, ?_⟩) up_s
      · rw [up_n (by omega)]; exact hfi a y (by unfold pKw; omega)
      · rw [up_i (by omega)]; exact hw1 w y0 y1
      · rw [up_i (by omega)]; exact hw2 w y0 y1
      · rw [up_i (by omega)]; exact hw3 w y0 y1
    · simp only [sx_cc, Classical.not_not] at g
      conv => whnf
      refine ⟨⟨by omega, by omega⟩, ?_⟩
      conv => whnf
      refine ⟨(by first | assumption | rfl), ?_⟩
      try simp (disch := omega) only [Int.cast_ofNat_Int, up_s, up_a, up_i, mp_a, mp_ge]
      try simp only [r65]
      try simp only [r68]
      try simp only [r69]
      try simp only [r70]
      try simp only [e1]
      try simp only [e2]
      try simp only [e3]
      try simp only [e4]
      conv => whnf
      refine ⟨sx_ixI (by first | assumption | rfl) (by omega) (by omega), ?_⟩
      try simp (disch := omega) only [Int.cast_ofNat_Int, up_s, up_a, up_i, mp_a, mp_ge]
      try simp only [r65]
      try simp only [r68]
      try simp only [r69]
      try simp only [r70]
      try simp only [e1]
      try simp only [e2]
      try simp only [e3]
      try simp only [e4]
      conv => whnf
      refine ⟨sx_ixI (by first | assumption | rfl) (by omega) (by omega), ?_⟩
      conv => whnf
      refine ⟨⟨by omega, by omega⟩, ?_⟩
      conv => whnf
      refine ⟨⟨by omega, by omega⟩, ?_⟩
      conv => whnf
      refine ⟨(by first | assumption | rfl), ?_⟩
      try simp (disch := omega) only [Int.cast_ofNat_Int, up_s, up_a, up_i, mp_a, mp_ge]
      try simp only [r65]
      try simp only [r68]
      try simp only [r69]
      try simp only [r70]
      try simp only [e1]
      try simp only [e2]
      try simp only [e3]
      try simp only [e4]
      conv => whnf
      refine ⟨sx_ixI (by first | assumption | rfl) (by omega) (by omega), ?_⟩
      try simp (disch := omega) only [Int.cast_ofNat_Int, up_s, up_a, up_i, mp_a, mp_ge]
      try simp only [r65]
      try simp only [r68]
      try simp only [r69]
      try simp only [r70]
      try simp only [e1]
      try simp only [e2]
      try simp only [e3]
      try simp only [e4]
      conv => whnf
      refine ⟨sx_ixI (by first | assumption | rfl) (by omega) (by omega), ?_⟩
      conv => whnf
      refine ⟨⟨by omega, by omega⟩, ?_⟩
      conv => whnf
      refine ⟨⟨by omega, by omega⟩, ?_⟩
      conv => whnf
      refine ⟨(by first | assumption | rfl), ?_⟩
      try simp (disch := omega) only [Int.cast_ofNat_Int, up_s, up_a, up_i, mp_a, mp_ge]
      try simp only [r65]
      try simp only [r68]
      try simp only [r69]
      try simp only [r70]
      try simp only [e1]
      try simp only [e2]
      try simp only [e3]
      try simp only [e4]
      conv => whnf
      refine ⟨sx_ixI (by first | assumption | rfl) (by omega) (by omega), ?_⟩
      try simp (disch := omega) only [Int.cast_ofNat_Int, up_s, up_a, up_i, mp_a, mp_ge]
      try simp only [r65]
      try simp only [r68]
      try simp only [r69]
      try simp only [r70]
      try simp only [e1]
      try simp only [e2]
      try simp only [e3]
      try simp only [e4]
      conv => whnf
      refine ⟨sx_ixI (by first | assumption | rfl) (by omega) (by omega), ?_⟩
      conv => whnf
      refine ⟨⟨by omega, by omega⟩, ?_⟩
      conv => whnf
      refine ⟨_, ?_, ⟨rfl, _, rfl, rfl, ?_, rfl⟩⟩
      · omega
      · have hne : ∀ w : Int, 0 ≤ w → w < 5 → w < 5 := fun _ _ z => z
        refine ⟨fun a y z => ?_, fun w y0 y1 => ?_, fun w y0 y1 => ?_, fun w y0 y1 => ?_, by omega, by omega⟩
        · rw [up_n (by unfold pKw at z; omega), up_n (by unfold pKw at z; omega), up_n (by unfold pKw at z; omega)]; exact hfi a y (by unfold pKw at z ⊢; omega)
        · by_cases e9 : w = j
          · subst e9; rw [up_i (by omega), up_i (by omega), up_s]
          · rw [up_i (by omega), up_i (by omega), up_i (by omega)]; exact hw1 w y0 (by omega)
        · by_cases e9 : w = j
          · subst e9; rw [up_i (by omega), up_s]
          · rw [up_i (by omega), up_i (by omega), up_i (by omega)]; exact hw2 w y0 (by omega)
        · by_cases e9 : w = j
          · subst e9; rw [up_s]
          · rw [up_i (by omega), up_i (by omega), up_i (by omega)]; exact hw3 w y0 (by omega)
abbrev pTw (j a y : Int) : Prop := 157 ≤ a ∧ a ≤ 159 ∧ 0 ≤ y ∧ y < j
theorem pTw_pt {j : Int} (hT : PT σ) (h : ∀ a y : Int, ¬ pTw j a y → σ' a y = σ a y) : PT σ' := hT.fr (fun q hq => h _ _ (by
  have h1 := of_decide_eq_true (List.all_eq_true.mp FV_pts q hq)
  unfold FV at h1
  unfold pTw
  omega))
set_option maxRecDepth 20000 in
theorem c_Rtakew (hT : PT σ) {to i : Int} {len : Nat} (hto : sx_lk shM to = (1, len)) (ht9 : to = 167 ∨ to = 168) (hi : 0 ≤ i) (hil : i + 16 ≤ (len : Int)) (hln : (len : Int) ≤ 100000) (h : ∀ σ', (∀ a y : Int, ¬ (157 ≤ a ∧ a ≤ 159 ∧ 0 ≤ y ∧ y < 5) → ¬ (a = 154 ∧ y = 0) → σ' a y = σ a y) → (∀ w : Int, 0 ≤ w → w < 5 → σ' 157 w = σ to (i + w) ∧ σ' 158 w = σ to (i + 5 + w) ∧ σ' 159 w = σ to (i + 10 + w)) → σ' 154 0 = σ to (i + 15) → Q none shM σ') : sx_Run X 301 [.inr (.inr 124), .inr (.inr to), .inl i] shM σ Q := by
  refine sx_rule2 (own := 12) (cd := kX12_takeWalkers) (nL := 4) (by decide +kernel) (by decide +kernel) kX12_takeWalkers_ok (by decide +kernel) (Nat.le_of_ble_eq_true rfl) [2] 40 (fun n t L st _ σ' => (t = 2 ∧ ∃ j : Int, st = [] ∧ L = [some (.inr (.inr (124))), some (.inr (.inr (to))), some (.inl (i)), some (.inl (j))] ∧ ((∀ a y : Int, ¬ pTw j a y → σ' a y = σ a y) ∧ (∀ w : Int, 0 ≤ w → w < j → σ' 157 w = σ to (i + w)) ∧ (∀ w : Int, 0 ≤ w → w < j → σ' 158 w = σ to (i + 5 + w)) ∧ (∀ w : Int, 0 ≤ w → w < j → σ' 159 w = σ to (i + 10 + w)) ∧ 0 ≤ j ∧ j ≤ 5) ∧ n = (5 - j).toNat)) ?_ ?_
  · skip
    conv => whnf
    refine ⟨_, ⟨rfl, _, rfl, rfl, ?_, rfl⟩⟩
    exact ⟨fun a y z => rfl, fun w y0 y1 => by omega, fun w y0 y1 => by omega, fun w y0 y1 => by omega, by omega, by omega⟩
  · intro n t L st σ' hk
    obtain ⟨rfl, j, rfl, rfl, hc, rfl⟩ := hk
    obtain ⟨hfi, hw1, hw2, hw3, hj0, hj1⟩ := hc
    have hT' : PT σ' := pTw_pt hT hfi
    have r65 := pt_124_65 hT'
    have r68 := pt_124_68 hT'
    have r69 := pt_124_69 hT'
    have r70 := pt_124_70 hT'
    have e0 : ∀ y : Int, σ' to y = σ to y := fun y => hfi _ _ (by unfold pTw; omega)
    have ea : ∀ y : Int, to = 157 ∨ to = 158 ∨ to = 159 → False := fun y z => by omega
    conv => whnf
    refine ⟨fun g => ?_, fun g => ?_⟩
    · simp only [sx_cc, Classical.not_not] at g
      conv => whnf
      refine ⟨(by first | assumption | rfl), ?_⟩
      try simp (disch := omega) only [Int.cast_ofNat_Int, up_s, up_a, up_i, mp_a, mp_ge]
      try simp only [r65]
      try simp only [r68]
      try simp only [r69]
      try simp only [r70]
      try simp only [e0]
      conv => whnf
      refine ⟨⟨by omega, by omega⟩, ?_⟩
      conv => whnf
      refine ⟨sx_ixI (by first | assumption | rfl) (by omega) (by omega), ?_⟩
      try simp (disch := omega) only [Int.cast_ofNat_Int, up_s, up_a, up_i, mp_a, mp_ge]
      try simp only [r65]
      try simp only [r68]
      try simp only [r69]
      try simp only [r70]
      try simp only [e0]
      conv => whnf
      refine ⟨sx_ixI (by first | assumption | rfl) (by omega) (by omega), ?_⟩
      conv => whnf
      refine ⟨rfl, ?_⟩
      have ej : j = 5 := by omega
      subst ej
      refine h _ (fun a y z z2 => ?_) (fun w y0 y1 => ⟨?_, ?_, ?_⟩) up_s
      · rw [up_n z2]; exact hfi a y (by unfold pTw; omega)
      · rw [up_a (by decide)]; exact hw1 w y0 y1
      · rw [up_a (by decide)]; exact hw2 w y0 y1
      · rw [up_a (by decide)]; exact hw3 w y0 y1
    · simp only [sx_cc, Classical.not_not] at g
      conv => whnf
      refine ⟨(by first | assumption | rfl), ?_⟩
      try simp (disch := omega) only [Int.cast_ofNat_Int, up_s, up_a, up_i, mp_a, mp_ge]
      try simp only [r65]
      try simp only [r68]
      try simp only [r69]
      try simp only [r70]
      try simp only [e0]
      conv => whnf
      refine ⟨⟨by omega, by omega⟩, ?_⟩
      conv => whnf
      refine ⟨sx_ixI (by first | assumption | rfl) (by omega) (by omega), ?_⟩
      try simp (disch := omega) only [Int.cast_ofNat_Int, up_s, up_a, up_i, mp_a, mp_ge]
      try simp only [r65]
      try simp only [r68]
      try simp only [r69]
      try simp only [r70]
      try simp only [e0]
      conv => whnf
      refine ⟨sx_ixI (by first | assumption | rfl) (by omega) (by omega), ?_⟩
      conv => whnf
      refine ⟨(by first | assumption | rfl), ?_⟩
      try simp (disch := omega) only [Int.cast_ofNat_Int, up_s, up_a, up_i, mp_a, mp_ge]
      try simp only [r65]
      try simp only [r68]
      try simp only [r69]
      try simp only [r70]
      try simp only [e0]
      conv => whnf
      refine ⟨⟨by omega, by omega⟩, ?_⟩
      conv => whnf
      refine ⟨⟨by omega, by omega⟩, ?_⟩
      conv => whnf
      refine ⟨sx_ixI (by first | assumption | rfl) (by omega) (by omega), ?_⟩
      try simp (disch := omega) only [Int.cast_ofNat_Int, up_s, up_a, up_i, mp_a, mp_ge]
      try simp only [r65]
      try simp only [r68]
      try simp only [r69]
      try simp only [r70]
      try simp only [e0]
      conv => whnf
      refine ⟨sx_ixI (by first | assumption | rfl) (by omega) (by omega), ?_⟩
      conv => whnf
      refine ⟨(by first | assumption | rfl), ?_⟩
      try simp (disch := omega) only [Int.cast_ofNat_Int, up_s, up_a, up_i, mp_a, mp_ge]
      try simp only [r65]
      try simp only [r68]
      try simp only [r69]
      try simp only [r70]
      try simp only [e0]
      conv => whnf
      refine ⟨⟨by omega, by omega⟩, ?_⟩
      conv => whnf
      refine ⟨⟨by omega, by omega⟩, ?_⟩
      conv => whnf
      refine ⟨sx_ixI (by first | assumption | rfl) (by omega) (by omega), ?_⟩
      try simp (disch := omega) only [Int.cast_ofNat_Int, up_s, up_a, up_i, mp_a, mp_ge]
      try simp only [r65]
      try simp only [r68]
      try simp only [r69]
      try simp only [r70]
      try simp only [e0]
      conv => whnf
      refine ⟨sx_ixI (by first | assumption | rfl) (by omega) (by omega), ?_⟩
      conv => whnf
      refine ⟨⟨by omega, by omega⟩, ?_⟩
      conv => whnf
      refine ⟨_, ?_, ⟨rfl, _, rfl, rfl, ?_, rfl⟩⟩
      · omega
      · refine ⟨fun a y z => ?_, fun w y0 y1 => ?_, fun w y0 y1 => ?_, fun w y0 y1 => ?_, by omega, by omega⟩
        · rw [up_n (by unfold pTw at z; omega), up_n (by unfold pTw at z; omega), up_n (by unfold pTw at z; omega)]; exact hfi a y (by unfold pTw at z ⊢; omega)
        · rw [up_a (by decide), up_a (by decide)]
          by_cases e9 : w = j
          · subst e9; rw [up_s]
          · rw [up_i (by omega)]; exact hw1 w y0 (by omega)
        · rw [up_a (by decide)]
          by_cases e9 : w = j
          · subst e9; rw [up_s]
          · rw [up_i (by omega), up_a (by decide)]; exact hw2 w y0 (by omega)
        · by_cases e9 : w = j
          · subst e9; rw [up_s]
          · rw [up_i (by omega), up_a (by decide), up_a (by decide)]; exact hw3 w y0 (by omega)
end SXL14
