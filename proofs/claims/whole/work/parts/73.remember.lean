/-! REMEMBER, reference side (by wip/whole) -/
section SXM5
variable {X : sx_X} {Q : sx_R} {s t p b c kk : Int} {σ σ0 σ' σ1 σ2 : sx_S} {P : aP} {A B : aM} {W V : aW}
def fRr (z : Int) : Int := if z < 20 then z else 19
abbrev FM (a i : Int) : Prop := a = 167 ∨ (a = 124 ∧ i = 83)
theorem FM_pts : ptL.all (fun q => decide (¬ FM q.1 q.2.1)) = true := by decide +kernel
theorem fr.ptm {σ σ' : sx_S} (h : fr FM σ σ') (hT : PT σ) : PT σ' := hT.fr (fun q hq => h _ _ (of_decide_eq_true (List.all_eq_true.mp FM_pts q hq)))
/-- a snapshot more: z of them stood, n marks -/
def pRm (z n : Int) (σ σ' : sx_S) : Prop := fr FM σ σ' ∧ σ' 124 83 = fM20 (z + 1) ∧ (∀ w : Int, 0 ≤ w → w < 5 → σ' 167 (106 * fRr z + w) = σ 157 w ∧ σ' 167 (106 * fRr z + 5 + w) = σ 158 w ∧ σ' 167 (106 * fRr z + 10 + w) = σ 159 w) ∧ σ' 167 (106 * fRr z + 15) = σ 154 0 ∧ (∀ m : Int, 0 ≤ m → m < n → σ' 167 (106 * fRr z + 16 + m) = σ 153 m) ∧ (z < 20 → ∀ y : Int, 0 ≤ y → y < 106 * z → σ' 167 y = σ 167 y) ∧ (z = 20 → ∀ y : Int, 106 ≤ y → y < 2120 → σ' 167 (y - 106) = σ 167 y)
set_option maxRecDepth 20000 in
theorem c_Rrem (hT : PT σ) {z n9 : Int} (ez : σ 124 83 = z) (hz : 0 ≤ z ∧ z ≤ 20) (en : σ 154 0 = n9) (hn : 0 ≤ n9 ∧ n9 ≤ 90) (hbl0 : ∀ m : Int, 0 ≤ m → m < n9 → σ 153 m = 0 ∨ σ 153 m = 1) (h : ∀ σ', pRm z n9 σ σ' → Q none shM σ') : sx_Run X 302 [.inr (.inr 124)] shM σ Q := by
  have r84 := pt_124_84 hT
  refine sx_rule2 (own := 12) (cd := kX12_remember) (nL := 3) (by decide +kernel) (by decide +kernel) kX12_remember_ok (by decide +kernel) (Nat.le_of_ble_eq_true rfl) [11, 49, 68] 40 (fun n t L st _ σ' => (t = 11 ∧ ∃ i : Int, ∃ w2 : Option sx_V, st = [] ∧ L = [some (.inr (.inr (124))), some (.inl (i)), w2] ∧ (fr FM σ σ' ∧ (∀ y : Int, 106 ≤ y → y < 106 + i → σ' 167 (y - 106) = σ 167 y) ∧ (∀ y : Int, i ≤ y → σ' 167 y = σ 167 y) ∧ σ' 124 83 = z ∧ z = 20 ∧ 0 ≤ i ∧ i ≤ 2014) ∧ n = (5000 - i).toNat) ∨ (t = 49 ∧ ∃ w1 : Option sx_V, ∃ w2 : Option sx_V, st = [] ∧ L = [some (.inr (.inr (124))), w1, w2] ∧ (fr FM σ σ' ∧ σ' 124 83 = fRr z ∧ (z < 20 → ∀ y : Int, 0 ≤ y → y < 106 * z → σ' 167 y = σ 167 y) ∧ (z = 20 → ∀ y : Int, 106 ≤ y → y < 2120 → σ' 167 (y - 106) = σ 167 y)) ∧ n = 1000) ∨ (t = 68 ∧ ∃ j : Int, st = [] ∧ L = [some (.inr (.inr (124))), some (.inl (106 * fRr z)), some (.inl (j))] ∧ (fr FM σ σ' ∧ σ' 124 83 = fRr z ∧ (∀ w : Int, 0 ≤ w → w < 5 → σ' 167 (106 * fRr z + w) = σ 157 w ∧ σ' 167 (106 * fRr z + 5 + w) = σ 158 w ∧ σ' 167 (106 * fRr z + 10 + w) = σ 159 w) ∧ σ' 167 (106 * fRr z + 15) = σ 154 0 ∧ (∀ m : Int, 0 ≤ m → m < j → σ' 167 (106 * fRr z + 16 + m) = σ 153 m) ∧ (z < 20 → ∀ y : Int, 0 ≤ y → y < 106 * z → σ' 167 y = σ 167 y) ∧ (z = 20 → ∀ y : Int, 106 ≤ y → y < 2120 → σ' 167 (y - 106) = σ 167 y) ∧ 0 ≤ j ∧ j ≤ n9) ∧ n = (200 - j).toNat)) ?_ ?_
  · skip
    conv => whnf
    refine ⟨(by first | assumption | rfl), ?_⟩
    try simp (disch := omega) only [Int.cast_ofNat_Int, up_s, up_a, up_i, mp_a, mp_ge]
    try simp only [r84]
    try simp only [r65]
    try simp only [r64]
    try simp only [ez9]
    try simp only [en9]
    try simp only [eb]
    try simp only [ez]
    conv => whnf
    refine ⟨fun g => ?_, fun g => ?_⟩
    · simp only [sx_cc, Classical.not_not] at g
      conv => whnf
      refine ⟨_, Or.inr (Or.inl ⟨rfl, _, _, rfl, rfl, ?_, rfl⟩)⟩
      exact ⟨fr.rfl, by rw [ez]; unfold fRr; rw [if_pos (by omega)], fun _ y _ _ => rfl, fun y0 => by omega⟩
    · simp only [sx_cc, Classical.not_not] at g
      conv => whnf
      refine ⟨_, Or.inl ⟨rfl, _, _, rfl, rfl, ?_, rfl⟩⟩
      exact ⟨fr.rfl, fun y y0 y1 => by omega, fun y y0 => rfl, ez, by omega, by omega, by omega⟩
  · intro n t L st σ' hk
    rcases hk with hk | hk | hk
    · obtain ⟨rfl, i, w2, rfl, rfl, hc, rfl⟩ := hk
      obtain ⟨hfi, hs1, hs2, ez9, hz9, hi0, hi1⟩ := hc
      have hT' : PT σ' := hfi.ptm hT
      have r84 := pt_124_84 hT'
      conv => whnf
      refine ⟨fun g => ?_, fun g => ?_⟩
      · simp only [sx_cc, Classical.not_not] at g
        conv => whnf
        refine ⟨(by first | assumption | rfl), ?_⟩
        try simp (disch := omega) only [Int.cast_ofNat_Int, up_s, up_a, up_i, mp_a, mp_ge]
        try simp only [r84]
        try simp only [r65]
        try simp only [r64]
        try simp only [ez9]
        try simp only [en9]
        try simp only [eb]
        try simp only [ez]
        conv => whnf
        refine ⟨⟨by omega, by omega⟩, ?_⟩
        conv => whnf
        refine ⟨(by first | assumption | rfl), ?_⟩
        try simp (disch := omega) only [Int.cast_ofNat_Int, up_s, up_a, up_i, mp_a, mp_ge]
        try simp only [r84]
        try simp only [r65]
        try simp only [r64]
        try simp only [ez9]
        try simp only [en9]
        try simp only [eb]
        try simp only [ez]
        conv => whnf
        refine ⟨_, ?_, Or.inr (Or.inl ⟨rfl, _, _, rfl, rfl, ?_, rfl⟩)⟩
        · omega
        · refine ⟨hfi.trans (fun a y z9 => by unfold FM at z9; rw [up_n (by omega)]), by rw [up_s]; unfold fRr; rw [if_neg (by omega)]; omega, fun y0 => by omega, fun _ y y0 y1 => ?_⟩
          rw [up_a (by decide)]; exact hs1 y y0 (by omega)
      · simp only [sx_cc, Classical.not_not] at g
        conv => whnf
        refine ⟨(by first | assumption | rfl), ?_⟩
        try simp (disch := omega) only [Int.cast_ofNat_Int, up_s, up_a, up_i, mp_a, mp_ge]
        try simp only [r84]
        try simp only [r65]
        try simp only [r64]
        try simp only [ez9]
        try simp only [en9]
        try simp only [eb]
        try simp only [ez]
        conv => whnf
        refine ⟨(by first | assumption | rfl), ?_⟩
        try simp (disch := omega) only [Int.cast_ofNat_Int, up_s, up_a, up_i, mp_a, mp_ge]
        try simp only [r84]
        try simp only [r65]
        try simp only [r64]
        try simp only [ez9]
        try simp only [en9]
        try simp only [eb]
        try simp only [ez]
        conv => whnf
        refine ⟨⟨by omega, by omega⟩, ?_⟩
        conv => whnf
        refine ⟨sx_ixI (by first | assumption | rfl) (by omega) (by omega), ?_⟩
        try simp (disch := omega) only [Int.cast_ofNat_Int, up_s, up_a, up_i, mp_a, mp_ge]
        try simp only [r84]
        try simp only [r65]
        try simp only [r64]
        try simp only [ez9]
        try simp only [en9]
        try simp only [eb]
        try simp only [ez]
        conv => whnf
        refine ⟨sx_ixI (by first | assumption | rfl) (by omega) (by omega), ?_⟩
        conv => whnf
        refine ⟨⟨by omega, by omega⟩, ?_⟩
        conv => whnf
        refine ⟨_, ?_, Or.inl ⟨rfl, _, _, rfl, rfl, ?_, rfl⟩⟩
        · omega
        · refine ⟨hfi.trans (fun a y z9 => by unfold FM at z9; rw [up_a (by omega)]), fun y y0 y1 => ?_, fun y y0 => ?_, by rw [up_a (by decide)]; exact ez9, hz9, by omega, by omega⟩
          · by_cases e9 : y - 106 = i
            · rw [e9, up_s, hs2 _ (by omega)]; congr 1; omega
            · rw [up_i e9]; exact hs1 y y0 (by omega)
          · rw [up_i (by omega)]; exact hs2 y (by omega)
    · obtain ⟨rfl, w1, w2, rfl, rfl, hc, rfl⟩ := hk
      obtain ⟨hfi, ez9, hold1, hold2⟩ := hc
      have hT' : PT σ' := hfi.ptm hT
      have r84 := pt_124_84 hT'
      have hrr : fRr z = z ∨ fRr z = 19 := by unfold fRr; split <;> omega
      have hrb : 0 ≤ fRr z ∧ fRr z ≤ 19 ∧ fRr z ≤ z := by unfold fRr; split <;> omega
      have hrc : (z < 20 ∧ fRr z = z) ∨ (z = 20 ∧ fRr z = 19) := by unfold fRr; split <;> omega
      conv => whnf
      refine ⟨(by first | assumption | rfl), ?_⟩
      try simp (disch := omega) only [Int.cast_ofNat_Int, up_s, up_a, up_i, mp_a, mp_ge]
      try simp only [r84]
      try simp only [r65]
      try simp only [r64]
      try simp only [ez9]
      try simp only [en9]
      try simp only [eb]
      try simp only [ez]
      conv => whnf
      refine ⟨⟨by omega, by omega⟩, ?_⟩
      conv => whnf
      refine ⟨(by first | assumption | rfl), ?_⟩
      try simp (disch := omega) only [Int.cast_ofNat_Int, up_s, up_a, up_i, mp_a, mp_ge]
      try simp only [r84]
      try simp only [r65]
      try simp only [r64]
      try simp only [ez9]
      try simp only [en9]
      try simp only [eb]
      try simp only [ez]
      conv => whnf
      refine ⟨Nat.le_of_ble_eq_true rfl, Nat.le_of_ble_eq_true rfl, (by first | assumption | rfl), ?_⟩
      refine c_Rkeepw hT' (show sx_lk shM 167 = (1, 2120) from rfl) (Or.inl rfl) (by omega) (by show 106 * fRr z + 16 ≤ (2120 : Int); omega) (by decide) ?_
      intro σ2 hf2 hw2 hn2
      conv => whnf
      refine ⟨_, ?_, Or.inr (Or.inr (⟨rfl, _, rfl, rfl, ?_, rfl⟩))⟩
      · omega
      · refine ⟨hfi.trans (fun a y z9 => hf2 a y (by unfold FM at z9; omega)), (hf2 _ _ (by omega)).trans ez9, fun w y0 y1 => ?_, ?_, fun m y0 y1 => by omega, fun y0 y y1 y2 => ?_, fun y0 y y1 y2 => ?_, by omega, by omega⟩
        · obtain ⟨b1, b2, b3⟩ := hw2 w y0 y1
          exact ⟨b1.trans (hfi _ _ (by unfold FM; omega)), b2.trans (hfi _ _ (by unfold FM; omega)), b3.trans (hfi _ _ (by unfold FM; omega))⟩
        · exact hn2.trans (hfi _ _ (by decide))
        · rw [hf2 _ _ (by omega)]; exact hold1 y0 y y1 y2
        · rw [hf2 _ _ (by omega)]; exact hold2 y0 y y1 y2
    · obtain ⟨rfl, j, rfl, rfl, hc, rfl⟩ := hk
      obtain ⟨hfi, ez9, hw, hwn, hbl, hold1, hold2, hj0, hj1⟩ := hc
      have hT' : PT σ' := hfi.ptm hT
      have r84 := pt_124_84 hT'
      have r65 := pt_124_65 hT'
      have r64 := pt_124_64 hT'
      have en9 : σ' 154 0 = n9 := (hfi _ _ (by decide)).trans en
      have hrb : 0 ≤ fRr z ∧ fRr z ≤ 19 ∧ fRr z ≤ z := by unfold fRr; split <;> omega
      have hrc : (z < 20 ∧ fRr z = z) ∨ (z = 20 ∧ fRr z = 19) := by unfold fRr; split <;> omega
      conv => whnf
      refine ⟨(by first | assumption | rfl), ?_⟩
      try simp (disch := omega) only [Int.cast_ofNat_Int, up_s, up_a, up_i, mp_a, mp_ge]
      try simp only [r84]
      try simp only [r65]
      try simp only [r64]
      try simp only [ez9]
      try simp only [en9]
      try simp only [eb]
      try simp only [ez]
      conv => whnf
      refine ⟨sx_ixI (by first | assumption | rfl) (by omega) (by omega), ?_⟩
      try simp (disch := omega) only [Int.cast_ofNat_Int, up_s, up_a, up_i, mp_a, mp_ge]
      try simp only [r84]
      try simp only [r65]
      try simp only [r64]
      try simp only [ez9]
      try simp only [en9]
      try simp only [eb]
      try simp only [ez]
      conv => whnf
      refine ⟨fun g => ?_, fun g => ?_⟩
      · simp only [sx_cc, Classical.not_not] at g
        conv => whnf
        refine ⟨(by first | assumption | rfl), ?_⟩
        try simp (disch := omega) only [Int.cast_ofNat_Int, up_s, up_a, up_i, mp_a, mp_ge]
        try simp only [r84]
        try simp only [r65]
        try simp only [r64]
        try simp only [ez9]
        try simp only [en9]
        try simp only [eb]
        try simp only [ez]
        conv => whnf
        refine ⟨⟨by omega, by omega⟩, ?_⟩
        conv => whnf
        refine ⟨(by first | assumption | rfl), ?_⟩
        try simp (disch := omega) only [Int.cast_ofNat_Int, up_s, up_a, up_i, mp_a, mp_ge]
        try simp only [r84]
        try simp only [r65]
        try simp only [r64]
        try simp only [ez9]
        try simp only [en9]
        try simp only [eb]
        try simp only [ez]
        conv => whnf
        refine ⟨rfl, ?_⟩
        have e8 : fRr z + 1 = fM20 (z + 1) := by unfold fRr fM20; repeat (first | omega | split)
        refine h _ ⟨hfi.trans (fun a y z9 => by unfold FM at z9; rw [up_n (by omega)]), by rw [up_s]; exact e8, fun w y0 y1 => by simp (disch := decide) only [up_a]; exact hw w y0 y1, by rw [up_a (by decide)]; exact hwn, fun m y0 y1 => by rw [up_a (by decide)]; exact hbl m y0 (by omega), fun y0 y y1 y2 => by rw [up_a (by decide)]; exact hold1 y0 y y1 y2, fun y0 y y1 y2 => by rw [up_a (by decide)]; exact hold2 y0 y y1 y2⟩
      · simp only [sx_cc, Classical.not_not] at g
        have eb : σ' 153 j = σ 153 j := hfi _ _ (by unfold FM; omega)
        have hb01 := hbl0 j hj0 (by omega)
        conv => whnf
        refine ⟨(by first | assumption | rfl), ?_⟩
        try simp (disch := omega) only [Int.cast_ofNat_Int, up_s, up_a, up_i, mp_a, mp_ge]
        try simp only [r84]
        try simp only [r65]
        try simp only [r64]
        try simp only [ez9]
        try simp only [en9]
        try simp only [eb]
        try simp only [ez]
        conv => whnf
        refine ⟨⟨by omega, by omega⟩, ?_⟩
        conv => whnf
        refine ⟨⟨by omega, by omega⟩, ?_⟩
        conv => whnf
        refine ⟨(by first | assumption | rfl), ?_⟩
        try simp (disch := omega) only [Int.cast_ofNat_Int, up_s, up_a, up_i, mp_a, mp_ge]
        try simp only [r84]
        try simp only [r65]
        try simp only [r64]
        try simp only [ez9]
        try simp only [en9]
        try simp only [eb]
        try simp only [ez]
        conv => whnf
        refine ⟨by decide, ?_⟩
        conv => whnf
        refine ⟨sx_ixI (by first | assumption | rfl) (by omega) (by omega), ?_⟩
        try simp (disch := omega) only [Int.cast_ofNat_Int, up_s, up_a, up_i, mp_a, mp_ge]
        try simp only [r84]
        try simp only [r65]
        try simp only [r64]
        try simp only [ez9]
        try simp only [en9]
        try simp only [eb]
        try simp only [ez]
        conv => whnf
        refine ⟨fun g => ?_, fun g => ?_⟩
        · simp only [sx_cc, Classical.not_not] at g
          conv => whnf
          refine ⟨sx_ixI (by first | assumption | rfl) (by omega) (by omega), ?_⟩
          conv => whnf
          refine ⟨⟨by omega, by omega⟩, ?_⟩
          conv => whnf
          refine ⟨_, ?_, Or.inr (Or.inr (⟨rfl, _, rfl, rfl, ?_, rfl⟩))⟩
          · omega
          · refine ⟨hfi.trans (fun a y z9 => by unfold FM at z9; rw [up_a (by omega)]), by rw [up_a (by decide)]; exact ez9, fun w y0 y1 => ?_, ?_, fun m y0 y1 => ?_, fun y0 y y1 y2 => ?_, fun y0 y y1 y2 => ?_, by omega, by omega⟩
            · rw [up_i (by omega), up_i (by omega), up_i (by omega)]; exact hw w y0 y1
            · rw [up_i (by omega)]; exact hwn
            · by_cases e9 : m = j
              · subst e9; rw [up_s]; omega
              · rw [up_i (by omega)]; exact hbl m y0 (by omega)
            · rw [up_i (by omega)]; exact hold1 y0 y y1 y2
            · rw [up_i (by omega)]; exact hold2 y0 y y1 y2
        · simp only [sx_cc, Classical.not_not] at g
          conv => whnf
          refine ⟨sx_ixI (by first | assumption | rfl) (by omega) (by omega), ?_⟩
          conv => whnf
          refine ⟨⟨by omega, by omega⟩, ?_⟩
          conv => whnf
          refine ⟨_, ?_, Or.inr (Or.inr (⟨rfl, _, rfl, rfl, ?_, rfl⟩))⟩
          · omega
          · refine ⟨hfi.trans (fun a y z9 => by unfold FM at z9; rw [up_a (by omega)]), by rw [up_a (by decide)]; exact ez9, fun w y0 y1 => ?_, ?_, fun m y0 y1 => ?_, fun y0 y y1 y2 => ?_, fun y0 y y1 y2 => ?_, by omega, by omega⟩
            · rw [up_i (by omega), up_i (by omega), up_i (by omega)]; exact hw w y0 y1
            · rw [up_i (by omega)]; exact hwn
            · by_cases e9 : m = j
              · subst e9; rw [up_s]; omega
              · rw [up_i (by omega)]; exact hbl m y0 (by omega)
            · rw [up_i (by omega)]; exact hold1 y0 y y1 y2
            · rw [up_i (by omega)]; exact hold2 y0 y y1 y2
end SXM5
