/-! UMPIRES, reference side (by wip/whole) -/
section SXM17
variable {X : sx_X} {Q : sx_R} {p : Int} {σ σ0 σ' σ1 σ2 : sx_S} {P : aP} {A : aM}
set_option maxRecDepth 20000 in
theorem r_gnd (wp : wP P) (hT : PT σ) (gp : rP σ P) {g9 : Int} (h1 : pGnd P g9 → Q (some (.inl 1)) shM σ) (h0 : ¬ pGnd P g9 → Q (some (.inl 0)) shM σ) : sx_Run X 288 [.inr (.inr 124), .inr (.inl g9)] shM σ Q := by
  have r30 := pt_124_30 hT
  have v4 := wp.wh
  refine sx_rule2 (own := 12) (cd := kX12_isGround) (nL := 4) (by decide +kernel) (by decide +kernel) kX12_isGround_ok (by decide +kernel) (Nat.le_of_ble_eq_true rfl) [21] 40 (fun n t L st _ σ' => (t = 21 ∧ ∃ i : Int, st = [] ∧ L = [some (.inr (.inr (124))), some (.inr (.inl (g9))), none, some (.inl (i))] ∧ (σ' = σ ∧ 0 ≤ g9 ∧ sx_shrL g9 (P.w * P.h) = 0 ∧ (∀ c : Int, 0 ≤ c → c < i → sx_andL (sx_shrL g9 c) 1 = 1 → ¬ P.ki c = 1) ∧ 0 ≤ i ∧ i ≤ P.w * P.h) ∧ n = (100 - i).toNat)) ?_ ?_
  · skip
    conv => whnf
    refine ⟨fun g => ?_, fun g => ?_⟩
    · simp only [sx_cc, Classical.not_not] at g
      try simp only [cmp_eq, cmp_lt, cmp_ge, Classical.not_not] at g
      conv => whnf
      refine ⟨fun q9 => by first | (simp at q9; done) | omega, ?_⟩
      first | exact h0 (fun z9 => absurd z9.2.1 (by assumption)) | exact h0 (fun z9 => by omega)
    · simp only [sx_cc, Classical.not_not] at g
      try simp only [cmp_eq, cmp_lt, cmp_ge, Classical.not_not] at g
      conv => whnf
      refine ⟨Nat.le_of_ble_eq_true rfl, Nat.le_of_ble_eq_true rfl, (by first | assumption | rfl), ?_⟩
      refine c_Rcells (gp.rd wp) ?_
      rw [gp.w, gp.h]
      conv => whnf
      refine ⟨fun g => ?_, fun g => ?_⟩
      · simp only [sx_cc, Classical.not_not] at g
        try simp only [cmp_eq, cmp_lt, cmp_ge, Classical.not_not] at g
        conv => whnf
        refine ⟨_, ⟨rfl, _, rfl, rfl, ?_, rfl⟩⟩
        exact ⟨rfl, by omega, by assumption, fun c y0 y1 => by omega, by omega, by omega⟩
      · simp only [sx_cc, Classical.not_not] at g
        try simp only [cmp_eq, cmp_lt, cmp_ge, Classical.not_not] at g
        conv => whnf
        refine ⟨fun q9 => by first | (simp at q9; done) | omega, ?_⟩
        first | exact h0 (fun z9 => absurd z9.2.1 (by assumption)) | exact h0 (fun z9 => by omega)
  · intro n t L st σ' hk
    obtain ⟨rfl, i, rfl, rfl, hc, rfl⟩ := hk
    obtain ⟨rfl, hz, hs, hno, hi0, hi1⟩ := hc
    conv => whnf
    refine ⟨Nat.le_of_ble_eq_true rfl, Nat.le_of_ble_eq_true rfl, (by first | assumption | rfl), ?_⟩
    refine c_Rcells (gp.rd wp) ?_
    rw [gp.w, gp.h]
    conv => whnf
    refine ⟨fun g => ?_, fun g => ?_⟩
    · simp only [sx_cc, Classical.not_not] at g
      conv => whnf
      refine ⟨fun q9 => by first | (simp at q9; done) | omega, ?_⟩
      exact h1 ⟨hz, hs, fun c y0 y1 => hno c y0 (by omega)⟩
    · simp only [sx_cc, Classical.not_not] at g
      have eki := gp.ki i hi0 (by omega)
      conv => whnf
      refine ⟨fun g => ?_, fun g => ?_⟩
      · simp only [sx_cc, Classical.not_not] at g
        try simp only [cmp_eq, cmp_lt, cmp_ge, Classical.not_not] at g
        conv => whnf
        refine ⟨⟨by omega, by omega⟩, ?_⟩
        conv => whnf
        refine ⟨_, ?_, ⟨rfl, _, rfl, rfl, ?_, rfl⟩⟩
        · omega
        · refine ⟨rfl, hz, hs, fun c y0 y1 y2 => ?_, by omega, by omega⟩
          by_cases e9 : c = i
          · subst e9; first | assumption | exact absurd y2 (by assumption)
          · exact hno c y0 (by omega) y2
      · simp only [sx_cc, Classical.not_not] at g
        try simp only [cmp_eq, cmp_lt, cmp_ge, Classical.not_not] at g
        conv => whnf
        refine ⟨(by first | assumption | rfl), ?_⟩
        try simp (disch := omega) only [Int.cast_ofNat_Int, up_s, up_a, up_i, mp_a, mp_ge]
        try simp only [r30]
        try simp only [eki]
        conv => whnf
        refine ⟨sx_ixI (by first | assumption | rfl) (by omega) (by omega), ?_⟩
        try simp (disch := omega) only [Int.cast_ofNat_Int, up_s, up_a, up_i, mp_a, mp_ge]
        try simp only [r30]
        try simp only [eki]
        conv => whnf
        refine ⟨fun g => ?_, fun g => ?_⟩
        · simp only [sx_cc, Classical.not_not] at g
          conv => whnf
          refine ⟨⟨by omega, by omega⟩, ?_⟩
          conv => whnf
          refine ⟨_, ?_, ⟨rfl, _, rfl, rfl, ?_, rfl⟩⟩
          · omega
          · refine ⟨rfl, hz, hs, fun c y0 y1 y2 => ?_, by omega, by omega⟩
            by_cases e9 : c = i
            · subst e9; first | assumption | exact absurd y2 (by assumption)
            · exact hno c y0 (by omega) y2
        · simp only [sx_cc, Classical.not_not] at g
          conv => whnf
          refine ⟨fun q9 => by first | (simp at q9; done) | omega, ?_⟩
          exact h0 (fun z9 => z9.2.2 i hi0 (by omega) (by assumption) (by assumption))
def lo2 (n a : Int) : Int := if n ≤ 1 then 47 else a + 1
def hi2 (n N : Int) : Int := if n ≤ 1 then 48 else N
def lo3 (n b : Int) : Int := if n ≤ 2 then 47 else b + 1
def hi3 (n N : Int) : Int := if n ≤ 2 then 48 else N
def tp (P : aP) (n g a b c : Int) : Prop := ¬ P.ki a = 1 ∧ (¬ n ≤ 1 → ¬ P.ki b = 1) ∧ (¬ n ≤ 2 → ¬ P.ki c = 1) ∧ sx_andL g (sx_xorL (sx_orL (sx_orL (fS P a) (if n ≤ 1 then 0 else fS P b)) (if n ≤ 2 then 0 else fS P c)) (-1)) = 0
def tA3 (P : aP) (N n g a b c : Int) : Prop := (0 ≤ a ∧ a < N ∧ lo2 n a ≤ b ∧ b < hi2 n N ∧ lo3 n b ≤ c ∧ c < hi3 n N ∧ tp P n g a b c) ∧ (∀ i j k : Int, 0 ≤ i → i < a → lo2 n i ≤ j → j < hi2 n N → lo3 n j ≤ k → k < hi3 n N → ¬ tp P n g i j k) ∧ (∀ j k : Int, lo2 n a ≤ j → j < b → lo3 n j ≤ k → k < hi3 n N → ¬ tp P n g a j k) ∧ ∀ k : Int, lo3 n b ≤ k → k < c → ¬ tp P n g a b k
def tN3 (P : aP) (N n g : Int) : Prop := ∀ i j k : Int, 0 ≤ i → i < N → lo2 n i ≤ j → j < hi2 n N → lo3 n j ≤ k → k < hi3 n N → ¬ tp P n g i j k
set_option maxRecDepth 20000 in
theorem c_Rtake (wp : wP P) (hT : PT σ) (gp : rP σ P) (hs : ∀ c : Int, 0 ≤ c → c < (P.w * P.h) → σ 165 c = fS P c) {g9 x : Int} (hx : 1 ≤ x ∧ x ≤ 3) (h1 : ∀ a b c : Int, tA3 P (P.w * P.h) x g9 a b c → Q none shM (sx_up (sx_up (sx_up (sx_up σ 124 81 x) 166 0 a) 166 1 b) 166 2 c)) (h0 : tN3 P (P.w * P.h) x g9 → Q none shM σ) : sx_Run X 290 [.inr (.inr 124), .inr (.inl g9), .inl x] shM σ Q := by
  have r30 := pt_124_30 hT
  have r80 := pt_124_80 hT
  have r82 := pt_124_82 hT
  have v4 := wp.wh
  refine sx_rule2 (own := 12) (cd := kX12_takeUmpires) (nL := 9) (by decide +kernel) (by decide +kernel) kX12_takeUmpires_ok (by decide +kernel) (Nat.le_of_ble_eq_true rfl) [3, 28, 63] 40 (fun n t L st _ σ' => (t = 3 ∧ ∃ a : Int, ∃ w5 : Option sx_V, ∃ w6 : Option sx_V, ∃ w7 : Option sx_V, ∃ w8 : Option sx_V, st = [] ∧ L = [some (.inr (.inr (124))), some (.inr (.inl (g9))), none, some (.inl (x)), some (.inl (a)), w5, w6, w7, w8] ∧ (σ' = σ ∧ 0 ≤ a ∧ a ≤ (P.w * P.h) ∧ (∀ i j k : Int, 0 ≤ i → i < a → lo2 x i ≤ j → j < hi2 x (P.w * P.h) → lo3 x j ≤ k → k < hi3 x (P.w * P.h) → ¬ tp P x g9 i j k)) ∧ n = (((P.w * P.h) - a) * 10000 + 9000).toNat) ∨ (t = 28 ∧ ∃ a b : Int, ∃ w6 : Option sx_V, ∃ w7 : Option sx_V, ∃ w8 : Option sx_V, st = [] ∧ L = [some (.inr (.inr (124))), some (.inr (.inl (g9))), none, some (.inl (x)), some (.inl (a)), some (.inl (b)), w6, w7, w8] ∧ (σ' = σ ∧ 0 ≤ a ∧ a < (P.w * P.h) ∧ lo2 x a ≤ b ∧ b ≤ 48 ∧ (∀ i j k : Int, 0 ≤ i → i < a → lo2 x i ≤ j → j < hi2 x (P.w * P.h) → lo3 x j ≤ k → k < hi3 x (P.w * P.h) → ¬ tp P x g9 i j k) ∧ (∀ j k : Int, lo2 x a ≤ j → j < b → lo3 x j ≤ k → k < hi3 x (P.w * P.h) → ¬ tp P x g9 a j k)) ∧ n = (((P.w * P.h) - a) * 10000 + (48 - b) * 100 + 90).toNat) ∨ (t = 63 ∧ ∃ a b c : Int, ∃ w7 : Option sx_V, ∃ w8 : Option sx_V, st = [] ∧ L = [some (.inr (.inr (124))), some (.inr (.inl (g9))), none, some (.inl (x)), some (.inl (a)), some (.inl (b)), some (.inl (c)), w7, w8] ∧ (σ' = σ ∧ 0 ≤ a ∧ a < (P.w * P.h) ∧ lo2 x a ≤ b ∧ b < hi2 x (P.w * P.h) ∧ lo3 x b ≤ c ∧ c ≤ 48 ∧ (∀ i j k : Int, 0 ≤ i → i < a → lo2 x i ≤ j → j < hi2 x (P.w * P.h) → lo3 x j ≤ k → k < hi3 x (P.w * P.h) → ¬ tp P x g9 i j k) ∧ (∀ j k : Int, lo2 x a ≤ j → j < b → lo3 x j ≤ k → k < hi3 x (P.w * P.h) → ¬ tp P x g9 a j k) ∧ (∀ k : Int, lo3 x b ≤ k → k < c → ¬ tp P x g9 a b k)) ∧ n = (((P.w * P.h) - a) * 10000 + (48 - b) * 100 + (48 - c)).toNat)) ?_ ?_
  · skip
    conv => whnf
    refine ⟨_, Or.inl ⟨rfl, _, _, _, _, _, rfl, rfl, ?_, rfl⟩⟩
    exact ⟨rfl, by omega, by omega, fun i j k y0 y1 => by omega⟩
  · intro n t L st σ' hk
    rcases hk with hk | hk | hk
    · obtain ⟨rfl, a, w5, w6, w7, w8, rfl, rfl, hc, rfl⟩ := hk
      obtain ⟨rfl, ha0, ha1, hna⟩ := hc
      conv => whnf
      refine ⟨Nat.le_of_ble_eq_true rfl, Nat.le_of_ble_eq_true rfl, (by first | assumption | rfl), ?_⟩
      refine c_Rcells (gp.rd wp) ?_
      rw [gp.w, gp.h]
      conv => whnf
      refine ⟨fun g => ?_, fun g => ?_⟩
      · simp only [sx_cc, Classical.not_not] at g
        conv => whnf
        refine ⟨rfl, ?_⟩
        exact h0 (fun i j k y0 y1 y2 y3 y4 y5 => hna i j k y0 (by omega) y2 y3 y4 y5)
      · simp only [sx_cc, Classical.not_not] at g
        conv => whnf
        refine ⟨fun g => ?_, fun g => ?_⟩
        · simp only [sx_cc, Classical.not_not] at g
          conv => whnf
          refine ⟨_, ?_, Or.inr (Or.inl ⟨rfl, _, _, _, _, _, rfl, rfl, ?_, rfl⟩)⟩
          · have d2 : (x ≤ 1 ∧ lo2 x a = 47 ∧ hi2 x (P.w * P.h) = 48) ∨ (1 < x ∧ lo2 x a = a + 1 ∧ hi2 x (P.w * P.h) = (P.w * P.h)) := by unfold lo2 hi2; split <;> omega
            omega
          · have d2 : (x ≤ 1 ∧ lo2 x a = 47 ∧ hi2 x (P.w * P.h) = 48) ∨ (1 < x ∧ lo2 x a = a + 1 ∧ hi2 x (P.w * P.h) = (P.w * P.h)) := by unfold lo2 hi2; split <;> omega
            exact ⟨rfl, ha0, by omega, by omega, by omega, hna, fun j k y0 y1 => by omega⟩
        · simp only [sx_cc, Classical.not_not] at g
          conv => whnf
          refine ⟨⟨by omega, by omega⟩, ?_⟩
          conv => whnf
          refine ⟨_, ?_, Or.inr (Or.inl ⟨rfl, _, _, _, _, _, rfl, rfl, ?_, rfl⟩)⟩
          · have d2 : (x ≤ 1 ∧ lo2 x a = 47 ∧ hi2 x (P.w * P.h) = 48) ∨ (1 < x ∧ lo2 x a = a + 1 ∧ hi2 x (P.w * P.h) = (P.w * P.h)) := by unfold lo2 hi2; split <;> omega
            omega
          · have d2 : (x ≤ 1 ∧ lo2 x a = 47 ∧ hi2 x (P.w * P.h) = 48) ∨ (1 < x ∧ lo2 x a = a + 1 ∧ hi2 x (P.w * P.h) = (P.w * P.h)) := by unfold lo2 hi2; split <;> omega
            exact ⟨rfl, ha0, by omega, by omega, by omega, hna, fun j k y0 y1 => by omega⟩
    · obtain ⟨rfl, a, b, w6, w7, w8, rfl, rfl, hc, rfl⟩ := hk
      obtain ⟨rfl, ha0, ha1, hb0, hb1, hna, hnb⟩ := hc
      have d2 : (x ≤ 1 ∧ lo2 x a = 47 ∧ hi2 x (P.w * P.h) = 48) ∨ (1 < x ∧ lo2 x a = a + 1 ∧ hi2 x (P.w * P.h) = (P.w * P.h)) := by unfold lo2 hi2; split <;> omega
      conv => whnf
      refine ⟨fun g => ?_, fun g => ?_⟩
      · simp only [sx_cc, Classical.not_not] at g
        conv => whnf
        refine ⟨fun g => ?_, fun g => ?_⟩
        · simp only [sx_cc, Classical.not_not] at g
          conv => whnf
          refine ⟨⟨by omega, by omega⟩, ?_⟩
          conv => whnf
          refine ⟨_, ?_, Or.inl ⟨rfl, _, _, _, _, _, rfl, rfl, ?_, rfl⟩⟩
          · omega
          · refine ⟨rfl, by omega, by omega, fun i j k y0 y1 y2 y3 y4 y5 => ?_⟩
            by_cases e9 : i = a
            · subst e9; exact hnb j k y2 (by omega) y4 y5
            · exact hna i j k y0 (by omega) y2 y3 y4 y5
        · simp only [sx_cc, Classical.not_not] at g
          conv => whnf
          refine ⟨fun g => ?_, fun g => ?_⟩
          · simp only [sx_cc, Classical.not_not] at g
            conv => whnf
            refine ⟨_, ?_, Or.inr (Or.inr (⟨rfl, _, _, _, _, _, rfl, rfl, ?_, rfl⟩))⟩
            · have d3 : (x ≤ 2 ∧ lo3 x b = 47 ∧ hi3 x (P.w * P.h) = 48) ∨ (2 < x ∧ lo3 x b = b + 1 ∧ hi3 x (P.w * P.h) = (P.w * P.h)) := by unfold lo3 hi3; split <;> omega
              omega
            · have d3 : (x ≤ 2 ∧ lo3 x b = 47 ∧ hi3 x (P.w * P.h) = 48) ∨ (2 < x ∧ lo3 x b = b + 1 ∧ hi3 x (P.w * P.h) = (P.w * P.h)) := by unfold lo3 hi3; split <;> omega
              exact ⟨rfl, ha0, ha1, hb0, by omega, by omega, by omega, hna, hnb, fun k y0 y1 => by omega⟩
          · simp only [sx_cc, Classical.not_not] at g
            conv => whnf
            refine ⟨⟨by omega, by omega⟩, ?_⟩
            conv => whnf
            refine ⟨_, ?_, Or.inr (Or.inr (⟨rfl, _, _, _, _, _, rfl, rfl, ?_, rfl⟩))⟩
            · have d3 : (x ≤ 2 ∧ lo3 x b = 47 ∧ hi3 x (P.w * P.h) = 48) ∨ (2 < x ∧ lo3 x b = b + 1 ∧ hi3 x (P.w * P.h) = (P.w * P.h)) := by unfold lo3 hi3; split <;> omega
              omega
            · have d3 : (x ≤ 2 ∧ lo3 x b = 47 ∧ hi3 x (P.w * P.h) = 48) ∨ (2 < x ∧ lo3 x b = b + 1 ∧ hi3 x (P.w * P.h) = (P.w * P.h)) := by unfold lo3 hi3; split <;> omega
              exact ⟨rfl, ha0, ha1, hb0, by omega, by omega, by omega, hna, hnb, fun k y0 y1 => by omega⟩
      · simp only [sx_cc, Classical.not_not] at g
        conv => whnf
        refine ⟨Nat.le_of_ble_eq_true rfl, Nat.le_of_ble_eq_true rfl, (by first | assumption | rfl), ?_⟩
        refine c_Rcells (gp.rd wp) ?_
        rw [gp.w, gp.h]
        conv => whnf
        refine ⟨fun g => ?_, fun g => ?_⟩
        · simp only [sx_cc, Classical.not_not] at g
          conv => whnf
          refine ⟨⟨by omega, by omega⟩, ?_⟩
          conv => whnf
          refine ⟨_, ?_, Or.inl ⟨rfl, _, _, _, _, _, rfl, rfl, ?_, rfl⟩⟩
          · omega
          · refine ⟨rfl, by omega, by omega, fun i j k y0 y1 y2 y3 y4 y5 => ?_⟩
            by_cases e9 : i = a
            · subst e9; exact hnb j k y2 (by omega) y4 y5
            · exact hna i j k y0 (by omega) y2 y3 y4 y5
        · simp only [sx_cc, Classical.not_not] at g
          conv => whnf
          refine ⟨fun g => ?_, fun g => ?_⟩
          · simp only [sx_cc, Classical.not_not] at g
            conv => whnf
            refine ⟨_, ?_, Or.inr (Or.inr (⟨rfl, _, _, _, _, _, rfl, rfl, ?_, rfl⟩))⟩
            · have d3 : (x ≤ 2 ∧ lo3 x b = 47 ∧ hi3 x (P.w * P.h) = 48) ∨ (2 < x ∧ lo3 x b = b + 1 ∧ hi3 x (P.w * P.h) = (P.w * P.h)) := by unfold lo3 hi3; split <;> omega
              omega
            · have d3 : (x ≤ 2 ∧ lo3 x b = 47 ∧ hi3 x (P.w * P.h) = 48) ∨ (2 < x ∧ lo3 x b = b + 1 ∧ hi3 x (P.w * P.h) = (P.w * P.h)) := by unfold lo3 hi3; split <;> omega
              exact ⟨rfl, ha0, ha1, hb0, by omega, by omega, by omega, hna, hnb, fun k y0 y1 => by omega⟩
          · simp only [sx_cc, Classical.not_not] at g
            conv => whnf
            refine ⟨⟨by omega, by omega⟩, ?_⟩
            conv => whnf
            refine ⟨_, ?_, Or.inr (Or.inr (⟨rfl, _, _, _, _, _, rfl, rfl, ?_, rfl⟩))⟩
            · have d3 : (x ≤ 2 ∧ lo3 x b = 47 ∧ hi3 x (P.w * P.h) = 48) ∨ (2 < x ∧ lo3 x b = b + 1 ∧ hi3 x (P.w * P.h) = (P.w * P.h)) := by unfold lo3 hi3; split <;> omega
              omega
            · have d3 : (x ≤ 2 ∧ lo3 x b = 47 ∧ hi3 x (P.w * P.h) = 48) ∨ (2 < x ∧ lo3 x b = b + 1 ∧ hi3 x (P.w * P.h) = (P.w * P.h)) := by unfold lo3 hi3; split <;> omega
              exact ⟨rfl, ha0, ha1, hb0, by omega, by omega, by omega, hna, hnb, fun k y0 y1 => by omega⟩
    · obtain ⟨rfl, a, b, c, w7, w8, rfl, rfl, hc, rfl⟩ := hk
      obtain ⟨rfl, ha0, ha1, hb0, hb1, hc0, hc1, hna, hnb, hnc⟩ := hc
      have d2 : (x ≤ 1 ∧ lo2 x a = 47 ∧ hi2 x (P.w * P.h) = 48) ∨ (1 < x ∧ lo2 x a = a + 1 ∧ hi2 x (P.w * P.h) = (P.w * P.h)) := by unfold lo2 hi2; split <;> omega
      have d3 : (x ≤ 2 ∧ lo3 x b = 47 ∧ hi3 x (P.w * P.h) = 48) ∨ (2 < x ∧ lo3 x b = b + 1 ∧ hi3 x (P.w * P.h) = (P.w * P.h)) := by unfold lo3 hi3; split <;> omega
      conv => whnf
      refine ⟨fun g => ?_, fun g => ?_⟩
      · simp only [sx_cc, Classical.not_not] at g
        conv => whnf
        refine ⟨fun g => ?_, fun g => ?_⟩
        · simp only [sx_cc, Classical.not_not] at g
          conv => whnf
          refine ⟨⟨by omega, by omega⟩, ?_⟩
          conv => whnf
          refine ⟨_, ?_, Or.inr (Or.inl ⟨rfl, _, _, _, _, _, rfl, rfl, ?_, rfl⟩)⟩
          · omega
          · refine ⟨rfl, ha0, ha1, by omega, by omega, hna, fun j k y0 y1 y2 y3 => ?_⟩
            by_cases e9 : j = b
            · subst e9; exact hnc k y2 (by omega)
            · exact hnb j k y0 (by omega) y2 y3
        · simp only [sx_cc, Classical.not_not] at g
          have eka := gp.ki a ha0 (by omega)
          have hsa := hs a ha0 (by omega)
          have ekb := gp.ki b (by omega) (by omega)
          have ekc := gp.ki c (by omega) (by omega)
          have hsb : 1 < x → σ' 165 b = fS P b := fun z9 => hs b (by omega) (by omega)
          have hsc : 2 < x → σ' 165 c = fS P c := fun z9 => hs c (by omega) (by omega)
          conv => whnf
          refine ⟨(by first | assumption | rfl), ?_⟩
          try simp (disch := omega) only [Int.cast_ofNat_Int, up_s, up_a, up_i, mp_a, mp_ge]
          try simp only [r30]
          try simp only [r80]
          try simp only [r82]
          try simp only [eka]
          try simp only [ekb]
          try simp only [ekc]
          try simp only [hsa]
          try simp only [esb]
          try simp only [esc]
          conv => whnf
          refine ⟨sx_ixI (by first | assumption | rfl) (by omega) (by omega), ?_⟩
          try simp (disch := omega) only [Int.cast_ofNat_Int, up_s, up_a, up_i, mp_a, mp_ge]
          try simp only [r30]
          try simp only [r80]
          try simp only [r82]
          try simp only [eka]
          try simp only [ekb]
          try simp only [ekc]
          try simp only [hsa]
          try simp only [esb]
          try simp only [esc]
          conv => whnf
          refine ⟨fun g => ?_, fun g => ?_⟩
          · simp only [sx_cc, Classical.not_not] at g
            have hno : ¬ tp P x g9 a b c := fun z9 => z9.1 (by assumption)
            conv => whnf
            refine ⟨⟨by omega, by omega⟩, ?_⟩
            conv => whnf
            refine ⟨_, ?_, Or.inr (Or.inr (⟨rfl, _, _, _, _, _, rfl, rfl, ?_, rfl⟩))⟩
            · omega
            · refine ⟨rfl, ha0, ha1, hb0, hb1, by omega, by omega, hna, hnb, fun k y0 y1 => ?_⟩
              by_cases e9 : k = c
              · subst e9; exact hno
              · exact hnc k y0 (by omega)
          · simp only [sx_cc, Classical.not_not] at g
            conv => whnf
            refine ⟨fun g => ?_, fun g => ?_⟩
            · simp only [sx_cc, Classical.not_not] at g
              conv => whnf
              refine ⟨fun g => ?_, fun g => ?_⟩
              · simp only [sx_cc, Classical.not_not] at g
                conv => whnf
                refine ⟨(by first | assumption | rfl), ?_⟩
                try simp (disch := omega) only [Int.cast_ofNat_Int, up_s, up_a, up_i, mp_a, mp_ge]
                try simp only [r30]
                try simp only [r80]
                try simp only [r82]
                try simp only [eka]
                try simp only [ekb]
                try simp only [ekc]
                try simp only [hsa]
                try simp only [esb]
                try simp only [esc]
                conv => whnf
                refine ⟨sx_ixI (by first | assumption | rfl) (by omega) (by omega), ?_⟩
                try simp (disch := omega) only [Int.cast_ofNat_Int, up_s, up_a, up_i, mp_a, mp_ge]
                try simp only [r30]
                try simp only [r80]
                try simp only [r82]
                try simp only [eka]
                try simp only [ekb]
                try simp only [ekc]
                try simp only [hsa]
                try simp only [esb]
                try simp only [esc]
                conv => whnf
                refine ⟨fun g => ?_, fun g => ?_⟩
                · simp only [sx_cc, Classical.not_not] at g
                  conv => whnf
                  refine ⟨fun g => ?_, fun g => ?_⟩
                  · simp only [sx_cc, Classical.not_not] at g
                    conv => whnf
                    refine ⟨fun g => ?_, fun g => ?_⟩
                    · simp only [sx_cc, Classical.not_not] at g
                      try simp only [cmp_eq, cmp_lt, cmp_ge, Classical.not_not] at g
                      have etp : tp P x g9 a b c ↔ sx_andL g9 (sx_xorL (sx_orL (sx_orL (fS P a) (if x ≤ 1 then 0 else fS P b)) (if x ≤ 2 then 0 else fS P c)) (-1)) = 0 := ⟨fun z9 => z9.2.2.2, fun z9 => ⟨by assumption, fun z8 => by first | assumption | omega, fun z8 => by first | assumption | omega, z9⟩⟩
                      rw [if_pos (by omega), if_pos (by omega)] at etp
                      have hyes : tp P x g9 a b c := etp.mpr (by assumption)
                      conv => whnf
                      refine ⟨(by first | assumption | rfl), ?_⟩
                      try simp (disch := omega) only [Int.cast_ofNat_Int, up_s, up_a, up_i, mp_a, mp_ge]
                      try simp only [r30]
                      try simp only [r80]
                      try simp only [r82]
                      try simp only [eka]
                      try simp only [ekb]
                      try simp only [ekc]
                      try simp only [hsa]
                      try simp only [esb]
                      try simp only [esc]
                      conv => whnf
                      refine ⟨(by first | assumption | rfl), ?_⟩
                      try simp (disch := omega) only [Int.cast_ofNat_Int, up_s, up_a, up_i, mp_a, mp_ge]
                      try simp only [r30]
                      try simp only [r80]
                      try simp only [r82]
                      try simp only [eka]
                      try simp only [ekb]
                      try simp only [ekc]
                      try simp only [hsa]
                      try simp only [esb]
                      try simp only [esc]
                      conv => whnf
                      refine ⟨sx_ixI (by first | assumption | rfl) (by omega) (by omega), ?_⟩
                      conv => whnf
                      refine ⟨(by first | assumption | rfl), ?_⟩
                      try simp (disch := omega) only [Int.cast_ofNat_Int, up_s, up_a, up_i, mp_a, mp_ge]
                      try simp only [r30]
                      try simp only [r80]
                      try simp only [r82]
                      try simp only [eka]
                      try simp only [ekb]
                      try simp only [ekc]
                      try simp only [hsa]
                      try simp only [esb]
                      try simp only [esc]
                      conv => whnf
                      refine ⟨sx_ixI (by first | assumption | rfl) (by omega) (by omega), ?_⟩
                      conv => whnf
                      refine ⟨(by first | assumption | rfl), ?_⟩
                      try simp (disch := omega) only [Int.cast_ofNat_Int, up_s, up_a, up_i, mp_a, mp_ge]
                      try simp only [r30]
                      try simp only [r80]
                      try simp only [r82]
                      try simp only [eka]
                      try simp only [ekb]
                      try simp only [ekc]
                      try simp only [hsa]
                      try simp only [esb]
                      try simp only [esc]
                      conv => whnf
                      refine ⟨sx_ixI (by first | assumption | rfl) (by omega) (by omega), ?_⟩
                      conv => whnf
                      refine ⟨rfl, ?_⟩
                      refine h1 a b c ⟨⟨ha0, by omega, by omega, by omega, by omega, by omega, hyes⟩, hna, hnb, hnc⟩
                    · simp only [sx_cc, Classical.not_not] at g
                      try simp only [cmp_eq, cmp_lt, cmp_ge, Classical.not_not] at g
                      have etp : tp P x g9 a b c ↔ sx_andL g9 (sx_xorL (sx_orL (sx_orL (fS P a) (if x ≤ 1 then 0 else fS P b)) (if x ≤ 2 then 0 else fS P c)) (-1)) = 0 := ⟨fun z9 => z9.2.2.2, fun z9 => ⟨by assumption, fun z8 => by first | assumption | omega, fun z8 => by first | assumption | omega, z9⟩⟩
                      rw [if_pos (by omega), if_pos (by omega)] at etp
                      have hno : ¬ tp P x g9 a b c := fun z9 => absurd (etp.mp z9) (by assumption)
                      conv => whnf
                      refine ⟨⟨by omega, by omega⟩, ?_⟩
                      conv => whnf
                      refine ⟨_, ?_, Or.inr (Or.inr (⟨rfl, _, _, _, _, _, rfl, rfl, ?_, rfl⟩))⟩
                      · omega
                      · refine ⟨rfl, ha0, ha1, hb0, hb1, by omega, by omega, hna, hnb, fun k y0 y1 => ?_⟩
                        by_cases e9 : k = c
                        · subst e9; exact hno
                        · exact hnc k y0 (by omega)
                  · simp only [sx_cc, Classical.not_not] at g
                    have esc := hsc (by omega)
                    conv => whnf
                    refine ⟨(by first | assumption | rfl), ?_⟩
                    try simp (disch := omega) only [Int.cast_ofNat_Int, up_s, up_a, up_i, mp_a, mp_ge]
                    try simp only [r30]
                    try simp only [r80]
                    try simp only [r82]
                    try simp only [eka]
                    try simp only [ekb]
                    try simp only [ekc]
                    try simp only [hsa]
                    try simp only [esb]
                    try simp only [esc]
                    conv => whnf
                    refine ⟨sx_ixI (by first | assumption | rfl) (by omega) (by omega), ?_⟩
                    try simp (disch := omega) only [Int.cast_ofNat_Int, up_s, up_a, up_i, mp_a, mp_ge]
                    try simp only [r30]
                    try simp only [r80]
                    try simp only [r82]
                    try simp only [eka]
                    try simp only [ekb]
                    try simp only [ekc]
                    try simp only [hsa]
                    try simp only [esb]
                    try simp only [esc]
                    conv => whnf
                    refine ⟨fun g => ?_, fun g => ?_⟩
                    · simp only [sx_cc, Classical.not_not] at g
                      try simp only [cmp_eq, cmp_lt, cmp_ge, Classical.not_not] at g
                      have etp : tp P x g9 a b c ↔ sx_andL g9 (sx_xorL (sx_orL (sx_orL (fS P a) (if x ≤ 1 then 0 else fS P b)) (if x ≤ 2 then 0 else fS P c)) (-1)) = 0 := ⟨fun z9 => z9.2.2.2, fun z9 => ⟨by assumption, fun z8 => by first | assumption | omega, fun z8 => by first | assumption | omega, z9⟩⟩
                      rw [if_pos (by omega), if_neg (by omega)] at etp
                      have hyes : tp P x g9 a b c := etp.mpr (by assumption)
                      conv => whnf
                      refine ⟨(by first | assumption | rfl), ?_⟩
                      try simp (disch := omega) only [Int.cast_ofNat_Int, up_s, up_a, up_i, mp_a, mp_ge]
                      try simp only [r30]
                      try simp only [r80]
                      try simp only [r82]
                      try simp only [eka]
                      try simp only [ekb]
                      try simp only [ekc]
                      try simp only [hsa]
                      try simp only [esb]
                      try simp only [esc]
                      conv => whnf
                      refine ⟨(by first | assumption | rfl), ?_⟩
                      try simp (disch := omega) only [Int.cast_ofNat_Int, up_s, up_a, up_i, mp_a, mp_ge]
                      try simp only [r30]
                      try simp only [r80]
                      try simp only [r82]
                      try simp only [eka]
                      try simp only [ekb]
                      try simp only [ekc]
                      try simp only [hsa]
                      try simp only [esb]
                      try simp only [esc]
                      conv => whnf
                      refine ⟨sx_ixI (by first | assumption | rfl) (by omega) (by omega), ?_⟩
                      conv => whnf
                      refine ⟨(by first | assumption | rfl), ?_⟩
                      try simp (disch := omega) only [Int.cast_ofNat_Int, up_s, up_a, up_i, mp_a, mp_ge]
                      try simp only [r30]
                      try simp only [r80]
                      try simp only [r82]
                      try simp only [eka]
                      try simp only [ekb]
                      try simp only [ekc]
                      try simp only [hsa]
                      try simp only [esb]
                      try simp only [esc]
                      conv => whnf
                      refine ⟨sx_ixI (by first | assumption | rfl) (by omega) (by omega), ?_⟩
                      conv => whnf
                      refine ⟨(by first | assumption | rfl), ?_⟩
                      try simp (disch := omega) only [Int.cast_ofNat_Int, up_s, up_a, up_i, mp_a, mp_ge]
                      try simp only [r30]
                      try simp only [r80]
                      try simp only [r82]
                      try simp only [eka]
                      try simp only [ekb]
                      try simp only [ekc]
                      try simp only [hsa]
                      try simp only [esb]
                      try simp only [esc]
                      conv => whnf
                      refine ⟨sx_ixI (by first | assumption | rfl) (by omega) (by omega), ?_⟩
                      conv => whnf
                      refine ⟨rfl, ?_⟩
                      refine h1 a b c ⟨⟨ha0, by omega, by omega, by omega, by omega, by omega, hyes⟩, hna, hnb, hnc⟩
                    · simp only [sx_cc, Classical.not_not] at g
                      try simp only [cmp_eq, cmp_lt, cmp_ge, Classical.not_not] at g
                      have etp : tp P x g9 a b c ↔ sx_andL g9 (sx_xorL (sx_orL (sx_orL (fS P a) (if x ≤ 1 then 0 else fS P b)) (if x ≤ 2 then 0 else fS P c)) (-1)) = 0 := ⟨fun z9 => z9.2.2.2, fun z9 => ⟨by assumption, fun z8 => by first | assumption | omega, fun z8 => by first | assumption | omega, z9⟩⟩
                      rw [if_pos (by omega), if_neg (by omega)] at etp
                      have hno : ¬ tp P x g9 a b c := fun z9 => absurd (etp.mp z9) (by assumption)
                      conv => whnf
                      refine ⟨⟨by omega, by omega⟩, ?_⟩
                      conv => whnf
                      refine ⟨_, ?_, Or.inr (Or.inr (⟨rfl, _, _, _, _, _, rfl, rfl, ?_, rfl⟩))⟩
                      · omega
                      · refine ⟨rfl, ha0, ha1, hb0, hb1, by omega, by omega, hna, hnb, fun k y0 y1 => ?_⟩
                        by_cases e9 : k = c
                        · subst e9; exact hno
                        · exact hnc k y0 (by omega)
                · simp only [sx_cc, Classical.not_not] at g
                  have esb := hsb (by omega)
                  conv => whnf
                  refine ⟨(by first | assumption | rfl), ?_⟩
                  try simp (disch := omega) only [Int.cast_ofNat_Int, up_s, up_a, up_i, mp_a, mp_ge]
                  try simp only [r30]
                  try simp only [r80]
                  try simp only [r82]
                  try simp only [eka]
                  try simp only [ekb]
                  try simp only [ekc]
                  try simp only [hsa]
                  try simp only [esb]
                  try simp only [esc]
                  conv => whnf
                  refine ⟨sx_ixI (by first | assumption | rfl) (by omega) (by omega), ?_⟩
                  try simp (disch := omega) only [Int.cast_ofNat_Int, up_s, up_a, up_i, mp_a, mp_ge]
                  try simp only [r30]
                  try simp only [r80]
                  try simp only [r82]
                  try simp only [eka]
                  try simp only [ekb]
                  try simp only [ekc]
                  try simp only [hsa]
                  try simp only [esb]
                  try simp only [esc]
                  conv => whnf
                  refine ⟨fun g => ?_, fun g => ?_⟩
                  · simp only [sx_cc, Classical.not_not] at g
                    conv => whnf
                    refine ⟨fun g => ?_, fun g => ?_⟩
                    · simp only [sx_cc, Classical.not_not] at g
                      try simp only [cmp_eq, cmp_lt, cmp_ge, Classical.not_not] at g
                      have etp : tp P x g9 a b c ↔ sx_andL g9 (sx_xorL (sx_orL (sx_orL (fS P a) (if x ≤ 1 then 0 else fS P b)) (if x ≤ 2 then 0 else fS P c)) (-1)) = 0 := ⟨fun z9 => z9.2.2.2, fun z9 => ⟨by assumption, fun z8 => by first | assumption | omega, fun z8 => by first | assumption | omega, z9⟩⟩
                      rw [if_neg (by omega), if_pos (by omega)] at etp
                      have hyes : tp P x g9 a b c := etp.mpr (by assumption)
                      conv => whnf
                      refine ⟨(by first | assumption | rfl), ?_⟩
                      try simp (disch := omega) only [Int.cast_ofNat_Int, up_s, up_a, up_i, mp_a, mp_ge]
                      try simp only [r30]
                      try simp only [r80]
                      try simp only [r82]
                      try simp only [eka]
                      try simp only [ekb]
                      try simp only [ekc]
                      try simp only [hsa]
                      try simp only [esb]
                      try simp only [esc]
                      conv => whnf
                      refine ⟨(by first | assumption | rfl), ?_⟩
                      try simp (disch := omega) only [Int.cast_ofNat_Int, up_s, up_a, up_i, mp_a, mp_ge]
                      try simp only [r30]
                      try simp only [r80]
                      try simp only [r82]
                      try simp only [eka]
                      try simp only [ekb]
                      try simp only [ekc]
                      try simp only [hsa]
                      try simp only [esb]
                      try simp only [esc]
                      conv => whnf
                      refine ⟨sx_ixI (by first | assumption | rfl) (by omega) (by omega), ?_⟩
                      conv => whnf
                      refine ⟨(by first | assumption | rfl), ?_⟩
                      try simp (disch := omega) only [Int.cast_ofNat_Int, up_s, up_a, up_i, mp_a, mp_ge]
                      try simp only [r30]
                      try simp only [r80]
                      try simp only [r82]
                      try simp only [eka]
                      try simp only [ekb]
                      try simp only [ekc]
                      try simp only [hsa]
                      try simp only [esb]
                      try simp only [esc]
                      conv => whnf
                      refine ⟨sx_ixI (by first | assumption | rfl) (by omega) (by omega), ?_⟩
                      conv => whnf
                      refine ⟨(by first | assumption | rfl), ?_⟩
                      try simp (disch := omega) only [Int.cast_ofNat_Int, up_s, up_a, up_i, mp_a, mp_ge]
                      try simp only [r30]
                      try simp only [r80]
                      try simp only [r82]
                      try simp only [eka]
                      try simp only [ekb]
                      try simp only [ekc]
                      try simp only [hsa]
                      try simp only [esb]
                      try simp only [esc]
                      conv => whnf
                      refine ⟨sx_ixI (by first | assumption | rfl) (by omega) (by omega), ?_⟩
                      conv => whnf
                      refine ⟨rfl, ?_⟩
                      refine h1 a b c ⟨⟨ha0, by omega, by omega, by omega, by omega, by omega, hyes⟩, hna, hnb, hnc⟩
                    · simp only [sx_cc, Classical.not_not] at g
                      try simp only [cmp_eq, cmp_lt, cmp_ge, Classical.not_not] at g
                      have etp : tp P x g9 a b c ↔ sx_andL g9 (sx_xorL (sx_orL (sx_orL (fS P a) (if x ≤ 1 then 0 else fS P b)) (if x ≤ 2 then 0 else fS P c)) (-1)) = 0 := ⟨fun z9 => z9.2.2.2, fun z9 => ⟨by assumption, fun z8 => by first | assumption | omega, fun z8 => by first | assumption | omega, z9⟩⟩
                      rw [if_neg (by omega), if_pos (by omega)] at etp
                      have hno : ¬ tp P x g9 a b c := fun z9 => absurd (etp.mp z9) (by assumption)
                      conv => whnf
                      refine ⟨⟨by omega, by omega⟩, ?_⟩
                      conv => whnf
                      refine ⟨_, ?_, Or.inr (Or.inr (⟨rfl, _, _, _, _, _, rfl, rfl, ?_, rfl⟩))⟩
                      · omega
                      · refine ⟨rfl, ha0, ha1, hb0, hb1, by omega, by omega, hna, hnb, fun k y0 y1 => ?_⟩
                        by_cases e9 : k = c
                        · subst e9; exact hno
                        · exact hnc k y0 (by omega)
                  · simp only [sx_cc, Classical.not_not] at g
                    have esc := hsc (by omega)
                    conv => whnf
                    refine ⟨(by first | assumption | rfl), ?_⟩
                    try simp (disch := omega) only [Int.cast_ofNat_Int, up_s, up_a, up_i, mp_a, mp_ge]
                    try simp only [r30]
                    try simp only [r80]
                    try simp only [r82]
                    try simp only [eka]
                    try simp only [ekb]
                    try simp only [ekc]
                    try simp only [hsa]
                    try simp only [esb]
                    try simp only [esc]
                    conv => whnf
                    refine ⟨sx_ixI (by first | assumption | rfl) (by omega) (by omega), ?_⟩
                    try simp (disch := omega) only [Int.cast_ofNat_Int, up_s, up_a, up_i, mp_a, mp_ge]
                    try simp only [r30]
                    try simp only [r80]
                    try simp only [r82]
                    try simp only [eka]
                    try simp only [ekb]
                    try simp only [ekc]
                    try simp only [hsa]
                    try simp only [esb]
                    try simp only [esc]
                    conv => whnf
                    refine ⟨fun g => ?_, fun g => ?_⟩
                    · simp only [sx_cc, Classical.not_not] at g
                      try simp only [cmp_eq, cmp_lt, cmp_ge, Classical.not_not] at g
                      have etp : tp P x g9 a b c ↔ sx_andL g9 (sx_xorL (sx_orL (sx_orL (fS P a) (if x ≤ 1 then 0 else fS P b)) (if x ≤ 2 then 0 else fS P c)) (-1)) = 0 := ⟨fun z9 => z9.2.2.2, fun z9 => ⟨by assumption, fun z8 => by first | assumption | omega, fun z8 => by first | assumption | omega, z9⟩⟩
                      rw [if_neg (by omega), if_neg (by omega)] at etp
                      have hyes : tp P x g9 a b c := etp.mpr (by assumption)
                      conv => whnf
                      refine ⟨(by first | assumption | rfl), ?_⟩
                      try simp (disch := omega) only [Int.cast_ofNat_Int, up_s, up_a, up_i, mp_a, mp_ge]
                      try simp only [r30]
                      try simp only [r80]
                      try simp only [r82]
                      try simp only [eka]
                      try simp only [ekb]
                      try simp only [ekc]
                      try simp only [hsa]
                      try simp only [esb]
                      try simp only [esc]
                      conv => whnf
                      refine ⟨(by first | assumption | rfl), ?_⟩
                      try simp (disch := omega) only [Int.cast_ofNat_Int, up_s, up_a, up_i, mp_a, mp_ge]
                      try simp only [r30]
                      try simp only [r80]
                      try simp only [r82]
                      try simp only [eka]
                      try simp only [ekb]
                      try simp only [ekc]
                      try simp only [hsa]
                      try simp only [esb]
                      try simp only [esc]
                      conv => whnf
                      refine ⟨sx_ixI (by first | assumption | rfl) (by omega) (by omega), ?_⟩
                      conv => whnf
                      refine ⟨(by first | assumption | rfl), ?_⟩
                      try simp (disch := omega) only [Int.cast_ofNat_Int, up_s, up_a, up_i, mp_a, mp_ge]
                      try simp only [r30]
                      try simp only [r80]
                      try simp only [r82]
                      try simp only [eka]
                      try simp only [ekb]
                      try simp only [ekc]
                      try simp only [hsa]
                      try simp only [esb]
                      try simp only [esc]
                      conv => whnf
                      refine ⟨sx_ixI (by first | assumption | rfl) (by omega) (by omega), ?_⟩
                      conv => whnf
                      refine ⟨(by first | assumption | rfl), ?_⟩
                      try simp (disch := omega) only [Int.cast_ofNat_Int, up_s, up_a, up_i, mp_a, mp_ge]
                      try simp only [r30]
                      try simp only [r80]
                      try simp only [r82]
                      try simp only [eka]
                      try simp only [ekb]
                      try simp only [ekc]
                      try simp only [hsa]
                      try simp only [esb]
                      try simp only [esc]
                      conv => whnf
                      refine ⟨sx_ixI (by first | assumption | rfl) (by omega) (by omega), ?_⟩
                      conv => whnf
                      refine ⟨rfl, ?_⟩
                      refine h1 a b c ⟨⟨ha0, by omega, by omega, by omega, by omega, by omega, hyes⟩, hna, hnb, hnc⟩
                    · simp only [sx_cc, Classical.not_not] at g
                      try simp only [cmp_eq, cmp_lt, cmp_ge, Classical.not_not] at g
                      have etp : tp P x g9 a b c ↔ sx_andL g9 (sx_xorL (sx_orL (sx_orL (fS P a) (if x ≤ 1 then 0 else fS P b)) (if x ≤ 2 then 0 else fS P c)) (-1)) = 0 := ⟨fun z9 => z9.2.2.2, fun z9 => ⟨by assumption, fun z8 => by first | assumption | omega, fun z8 => by first | assumption | omega, z9⟩⟩
                      rw [if_neg (by omega), if_neg (by omega)] at etp
                      have hno : ¬ tp P x g9 a b c := fun z9 => absurd (etp.mp z9) (by assumption)
                      conv => whnf
                      refine ⟨⟨by omega, by omega⟩, ?_⟩
                      conv => whnf
                      refine ⟨_, ?_, Or.inr (Or.inr (⟨rfl, _, _, _, _, _, rfl, rfl, ?_, rfl⟩))⟩
                      · omega
                      · refine ⟨rfl, ha0, ha1, hb0, hb1, by omega, by omega, hna, hnb, fun k y0 y1 => ?_⟩
                        by_cases e9 : k = c
                        · subst e9; exact hno
                        · exact hnc k y0 (by omega)
              · simp only [sx_cc, Classical.not_not] at g
                conv => whnf
                refine ⟨(by first | assumption | rfl), ?_⟩
                try simp (disch := omega) only [Int.cast_ofNat_Int, up_s, up_a, up_i, mp_a, mp_ge]
                try simp only [r30]
                try simp only [r80]
                try simp only [r82]
                try simp only [eka]
                try simp only [ekb]
                try simp only [ekc]
                try simp only [hsa]
                try simp only [esb]
                try simp only [esc]
                conv => whnf
                refine ⟨sx_ixI (by first | assumption | rfl) (by omega) (by omega), ?_⟩
                try simp (disch := omega) only [Int.cast_ofNat_Int, up_s, up_a, up_i, mp_a, mp_ge]
                try simp only [r30]
                try simp only [r80]
                try simp only [r82]
                try simp only [eka]
                try simp only [ekb]
                try simp only [ekc]
                try simp only [hsa]
                try simp only [esb]
                try simp only [esc]
                conv => whnf
                refine ⟨fun g => ?_, fun g => ?_⟩
                · simp only [sx_cc, Classical.not_not] at g
                  conv => whnf
                  refine ⟨(by first | assumption | rfl), ?_⟩
                  try simp (disch := omega) only [Int.cast_ofNat_Int, up_s, up_a, up_i, mp_a, mp_ge]
                  try simp only [r30]
                  try simp only [r80]
                  try simp only [r82]
                  try simp only [eka]
                  try simp only [ekb]
                  try simp only [ekc]
                  try simp only [hsa]
                  try simp only [esb]
                  try simp only [esc]
                  conv => whnf
                  refine ⟨sx_ixI (by first | assumption | rfl) (by omega) (by omega), ?_⟩
                  try simp (disch := omega) only [Int.cast_ofNat_Int, up_s, up_a, up_i, mp_a, mp_ge]
                  try simp only [r30]
                  try simp only [r80]
                  try simp only [r82]
                  try simp only [eka]
                  try simp only [ekb]
                  try simp only [ekc]
                  try simp only [hsa]
                  try simp only [esb]
                  try simp only [esc]
                  conv => whnf
                  refine ⟨fun g => ?_, fun g => ?_⟩
                  · simp only [sx_cc, Classical.not_not] at g
                    conv => whnf
                    refine ⟨fun g => ?_, fun g => ?_⟩
                    · simp only [sx_cc, Classical.not_not] at g
                      conv => whnf
                      refine ⟨fun g => ?_, fun g => ?_⟩
                      · simp only [sx_cc, Classical.not_not] at g
                        try simp only [cmp_eq, cmp_lt, cmp_ge, Classical.not_not] at g
                        have etp : tp P x g9 a b c ↔ sx_andL g9 (sx_xorL (sx_orL (sx_orL (fS P a) (if x ≤ 1 then 0 else fS P b)) (if x ≤ 2 then 0 else fS P c)) (-1)) = 0 := ⟨fun z9 => z9.2.2.2, fun z9 => ⟨by assumption, fun z8 => by first | assumption | omega, fun z8 => by first | assumption | omega, z9⟩⟩
                        rw [if_pos (by omega), if_pos (by omega)] at etp
                        have hyes : tp P x g9 a b c := etp.mpr (by assumption)
                        conv => whnf
                        refine ⟨(by first | assumption | rfl), ?_⟩
                        try simp (disch := omega) only [Int.cast_ofNat_Int, up_s, up_a, up_i, mp_a, mp_ge]
                        try simp only [r30]
                        try simp only [r80]
                        try simp only [r82]
                        try simp only [eka]
                        try simp only [ekb]
                        try simp only [ekc]
                        try simp only [hsa]
                        try simp only [esb]
                        try simp only [esc]
                        conv => whnf
                        refine ⟨(by first | assumption | rfl), ?_⟩
                        try simp (disch := omega) only [Int.cast_ofNat_Int, up_s, up_a, up_i, mp_a, mp_ge]
                        try simp only [r30]
                        try simp only [r80]
                        try simp only [r82]
                        try simp only [eka]
                        try simp only [ekb]
                        try simp only [ekc]
                        try simp only [hsa]
                        try simp only [esb]
                        try simp only [esc]
                        conv => whnf
                        refine ⟨sx_ixI (by first | assumption | rfl) (by omega) (by omega), ?_⟩
                        conv => whnf
                        refine ⟨(by first | assumption | rfl), ?_⟩
                        try simp (disch := omega) only [Int.cast_ofNat_Int, up_s, up_a, up_i, mp_a, mp_ge]
                        try simp only [r30]
                        try simp only [r80]
                        try simp only [r82]
                        try simp only [eka]
                        try simp only [ekb]
                        try simp only [ekc]
                        try simp only [hsa]
                        try simp only [esb]
                        try simp only [esc]
                        conv => whnf
                        refine ⟨sx_ixI (by first | assumption | rfl) (by omega) (by omega), ?_⟩
                        conv => whnf
                        refine ⟨(by first | assumption | rfl), ?_⟩
                        try simp (disch := omega) only [Int.cast_ofNat_Int, up_s, up_a, up_i, mp_a, mp_ge]
                        try simp only [r30]
                        try simp only [r80]
                        try simp only [r82]
                        try simp only [eka]
                        try simp only [ekb]
                        try simp only [ekc]
                        try simp only [hsa]
                        try simp only [esb]
                        try simp only [esc]
                        conv => whnf
                        refine ⟨sx_ixI (by first | assumption | rfl) (by omega) (by omega), ?_⟩
                        conv => whnf
                        refine ⟨rfl, ?_⟩
                        refine h1 a b c ⟨⟨ha0, by omega, by omega, by omega, by omega, by omega, hyes⟩, hna, hnb, hnc⟩
                      · simp only [sx_cc, Classical.not_not] at g
                        try simp only [cmp_eq, cmp_lt, cmp_ge, Classical.not_not] at g
                        have etp : tp P x g9 a b c ↔ sx_andL g9 (sx_xorL (sx_orL (sx_orL (fS P a) (if x ≤ 1 then 0 else fS P b)) (if x ≤ 2 then 0 else fS P c)) (-1)) = 0 := ⟨fun z9 => z9.2.2.2, fun z9 => ⟨by assumption, fun z8 => by first | assumption | omega, fun z8 => by first | assumption | omega, z9⟩⟩
                        rw [if_pos (by omega), if_pos (by omega)] at etp
                        have hno : ¬ tp P x g9 a b c := fun z9 => absurd (etp.mp z9) (by assumption)
                        conv => whnf
                        refine ⟨⟨by omega, by omega⟩, ?_⟩
                        conv => whnf
                        refine ⟨_, ?_, Or.inr (Or.inr (⟨rfl, _, _, _, _, _, rfl, rfl, ?_, rfl⟩))⟩
                        · omega
                        · refine ⟨rfl, ha0, ha1, hb0, hb1, by omega, by omega, hna, hnb, fun k y0 y1 => ?_⟩
                          by_cases e9 : k = c
                          · subst e9; exact hno
                          · exact hnc k y0 (by omega)
                    · simp only [sx_cc, Classical.not_not] at g
                      have esc := hsc (by omega)
                      conv => whnf
                      refine ⟨(by first | assumption | rfl), ?_⟩
                      try simp (disch := omega) only [Int.cast_ofNat_Int, up_s, up_a, up_i, mp_a, mp_ge]
                      try simp only [r30]
                      try simp only [r80]
                      try simp only [r82]
                      try simp only [eka]
                      try simp only [ekb]
                      try simp only [ekc]
                      try simp only [hsa]
                      try simp only [esb]
                      try simp only [esc]
                      conv => whnf
                      refine ⟨sx_ixI (by first | assumption | rfl) (by omega) (by omega), ?_⟩
                      try simp (disch := omega) only [Int.cast_ofNat_Int, up_s, up_a, up_i, mp_a, mp_ge]
                      try simp only [r30]
                      try simp only [r80]
                      try simp only [r82]
                      try simp only [eka]
                      try simp only [ekb]
                      try simp only [ekc]
                      try simp only [hsa]
                      try simp only [esb]
                      try simp only [esc]
                      conv => whnf
                      refine ⟨fun g => ?_, fun g => ?_⟩
                      · simp only [sx_cc, Classical.not_not] at g
                        try simp only [cmp_eq, cmp_lt, cmp_ge, Classical.not_not] at g
                        have etp : tp P x g9 a b c ↔ sx_andL g9 (sx_xorL (sx_orL (sx_orL (fS P a) (if x ≤ 1 then 0 else fS P b)) (if x ≤ 2 then 0 else fS P c)) (-1)) = 0 := ⟨fun z9 => z9.2.2.2, fun z9 => ⟨by assumption, fun z8 => by first | assumption | omega, fun z8 => by first | assumption | omega, z9⟩⟩
                        rw [if_pos (by omega), if_neg (by omega)] at etp
                        have hyes : tp P x g9 a b c := etp.mpr (by assumption)
                        conv => whnf
                        refine ⟨(by first | assumption | rfl), ?_⟩
                        try simp (disch := omega) only [Int.cast_ofNat_Int, up_s, up_a, up_i, mp_a, mp_ge]
                        try simp only [r30]
                        try simp only [r80]
                        try simp only [r82]
                        try simp only [eka]
                        try simp only [ekb]
                        try simp only [ekc]
                        try simp only [hsa]
                        try simp only [esb]
                        try simp only [esc]
                        conv => whnf
                        refine ⟨(by first | assumption | rfl), ?_⟩
                        try simp (disch := omega) only [Int.cast_ofNat_Int, up_s, up_a, up_i, mp_a, mp_ge]
                        try simp only [r30]
                        try simp only [r80]
                        try simp only [r82]
                        try simp only [eka]
                        try simp only [ekb]
                        try simp only [ekc]
                        try simp only [hsa]
                        try simp only [esb]
                        try simp only [esc]
                        conv => whnf
                        refine ⟨sx_ixI (by first | assumption | rfl) (by omega) (by omega), ?_⟩
                        conv => whnf
                        refine ⟨(by first | assumption | rfl), ?_⟩
                        try simp (disch := omega) only [Int.cast_ofNat_Int, up_s, up_a, up_i, mp_a, mp_ge]
                        try simp only [r30]
                        try simp only [r80]
                        try simp only [r82]
                        try simp only [eka]
                        try simp only [ekb]
                        try simp only [ekc]
                        try simp only [hsa]
                        try simp only [esb]
                        try simp only [esc]
                        conv => whnf
                        refine ⟨sx_ixI (by first | assumption | rfl) (by omega) (by omega), ?_⟩
                        conv => whnf
                        refine ⟨(by first | assumption | rfl), ?_⟩
                        try simp (disch := omega) only [Int.cast_ofNat_Int, up_s, up_a, up_i, mp_a, mp_ge]
                        try simp only [r30]
                        try simp only [r80]
                        try simp only [r82]
                        try simp only [eka]
                        try simp only [ekb]
                        try simp only [ekc]
                        try simp only [hsa]
                        try simp only [esb]
                        try simp only [esc]
                        conv => whnf
                        refine ⟨sx_ixI (by first | assumption | rfl) (by omega) (by omega), ?_⟩
                        conv => whnf
                        refine ⟨rfl, ?_⟩
                        refine h1 a b c ⟨⟨ha0, by omega, by omega, by omega, by omega, by omega, hyes⟩, hna, hnb, hnc⟩
                      · simp only [sx_cc, Classical.not_not] at g
                        try simp only [cmp_eq, cmp_lt, cmp_ge, Classical.not_not] at g
                        have etp : tp P x g9 a b c ↔ sx_andL g9 (sx_xorL (sx_orL (sx_orL (fS P a) (if x ≤ 1 then 0 else fS P b)) (if x ≤ 2 then 0 else fS P c)) (-1)) = 0 := ⟨fun z9 => z9.2.2.2, fun z9 => ⟨by assumption, fun z8 => by first | assumption | omega, fun z8 => by first | assumption | omega, z9⟩⟩
                        rw [if_pos (by omega), if_neg (by omega)] at etp
                        have hno : ¬ tp P x g9 a b c := fun z9 => absurd (etp.mp z9) (by assumption)
                        conv => whnf
                        refine ⟨⟨by omega, by omega⟩, ?_⟩
                        conv => whnf
                        refine ⟨_, ?_, Or.inr (Or.inr (⟨rfl, _, _, _, _, _, rfl, rfl, ?_, rfl⟩))⟩
                        · omega
                        · refine ⟨rfl, ha0, ha1, hb0, hb1, by omega, by omega, hna, hnb, fun k y0 y1 => ?_⟩
                          by_cases e9 : k = c
                          · subst e9; exact hno
                          · exact hnc k y0 (by omega)
                  · simp only [sx_cc, Classical.not_not] at g
                    have esb := hsb (by omega)
                    conv => whnf
                    refine ⟨(by first | assumption | rfl), ?_⟩
                    try simp (disch := omega) only [Int.cast_ofNat_Int, up_s, up_a, up_i, mp_a, mp_ge]
                    try simp only [r30]
                    try simp only [r80]
                    try simp only [r82]
                    try simp only [eka]
                    try simp only [ekb]
                    try simp only [ekc]
                    try simp only [hsa]
                    try simp only [esb]
                    try simp only [esc]
                    conv => whnf
                    refine ⟨sx_ixI (by first | assumption | rfl) (by omega) (by omega), ?_⟩
                    try simp (disch := omega) only [Int.cast_ofNat_Int, up_s, up_a, up_i, mp_a, mp_ge]
                    try simp only [r30]
                    try simp only [r80]
                    try simp only [r82]
                    try simp only [eka]
                    try simp only [ekb]
                    try simp only [ekc]
                    try simp only [hsa]
                    try simp only [esb]
                    try simp only [esc]
                    conv => whnf
                    refine ⟨fun g => ?_, fun g => ?_⟩
                    · simp only [sx_cc, Classical.not_not] at g
                      conv => whnf
                      refine ⟨fun g => ?_, fun g => ?_⟩
                      · simp only [sx_cc, Classical.not_not] at g
                        try simp only [cmp_eq, cmp_lt, cmp_ge, Classical.not_not] at g
                        have etp : tp P x g9 a b c ↔ sx_andL g9 (sx_xorL (sx_orL (sx_orL (fS P a) (if x ≤ 1 then 0 else fS P b)) (if x ≤ 2 then 0 else fS P c)) (-1)) = 0 := ⟨fun z9 => z9.2.2.2, fun z9 => ⟨by assumption, fun z8 => by first | assumption | omega, fun z8 => by first | assumption | omega, z9⟩⟩
                        rw [if_neg (by omega), if_pos (by omega)] at etp
                        have hyes : tp P x g9 a b c := etp.mpr (by assumption)
                        conv => whnf
                        refine ⟨(by first | assumption | rfl), ?_⟩
                        try simp (disch := omega) only [Int.cast_ofNat_Int, up_s, up_a, up_i, mp_a, mp_ge]
                        try simp only [r30]
                        try simp only [r80]
                        try simp only [r82]
                        try simp only [eka]
                        try simp only [ekb]
                        try simp only [ekc]
                        try simp only [hsa]
                        try simp only [esb]
                        try simp only [esc]
                        conv => whnf
                        refine ⟨(by first | assumption | rfl), ?_⟩
                        try simp (disch := omega) only [Int.cast_ofNat_Int, up_s, up_a, up_i, mp_a, mp_ge]
                        try simp only [r30]
                        try simp only [r80]
                        try simp only [r82]
                        try simp only [eka]
                        try simp only [ekb]
                        try simp only [ekc]
                        try simp only [hsa]
                        try simp only [esb]
                        try simp only [esc]
                        conv => whnf
                        refine ⟨sx_ixI (by first | assumption | rfl) (by omega) (by omega), ?_⟩
                        conv => whnf
                        refine ⟨(by first | assumption | rfl), ?_⟩
                        try simp (disch := omega) only [Int.cast_ofNat_Int, up_s, up_a, up_i, mp_a, mp_ge]
                        try simp only [r30]
                        try simp only [r80]
                        try simp only [r82]
                        try simp only [eka]
                        try simp only [ekb]
                        try simp only [ekc]
                        try simp only [hsa]
                        try simp only [esb]
                        try simp only [esc]
                        conv => whnf
                        refine ⟨sx_ixI (by first | assumption | rfl) (by omega) (by omega), ?_⟩
                        conv => whnf
                        refine ⟨(by first | assumption | rfl), ?_⟩
                        try simp (disch := omega) only [Int.cast_ofNat_Int, up_s, up_a, up_i, mp_a, mp_ge]
                        try simp only [r30]
                        try simp only [r80]
                        try simp only [r82]
                        try simp only [eka]
                        try simp only [ekb]
                        try simp only [ekc]
                        try simp only [hsa]
                        try simp only [esb]
                        try simp only [esc]
                        conv => whnf
                        refine ⟨sx_ixI (by first | assumption | rfl) (by omega) (by omega), ?_⟩
                        conv => whnf
                        refine ⟨rfl, ?_⟩
                        refine h1 a b c ⟨⟨ha0, by omega, by omega, by omega, by omega, by omega, hyes⟩, hna, hnb, hnc⟩
                      · simp only [sx_cc, Classical.not_not] at g
                        try simp only [cmp_eq, cmp_lt, cmp_ge, Classical.not_not] at g
                        have etp : tp P x g9 a b c ↔ sx_andL g9 (sx_xorL (sx_orL (sx_orL (fS P a) (if x ≤ 1 then 0 else fS P b)) (if x ≤ 2 then 0 else fS P c)) (-1)) = 0 := ⟨fun z9 => z9.2.2.2, fun z9 => ⟨by assumption, fun z8 => by first | assumption | omega, fun z8 => by first | assumption | omega, z9⟩⟩
                        rw [if_neg (by omega), if_pos (by omega)] at etp
                        have hno : ¬ tp P x g9 a b c := fun z9 => absurd (etp.mp z9) (by assumption)
                        conv => whnf
                        refine ⟨⟨by omega, by omega⟩, ?_⟩
                        conv => whnf
                        refine ⟨_, ?_, Or.inr (Or.inr (⟨rfl, _, _, _, _, _, rfl, rfl, ?_, rfl⟩))⟩
                        · omega
                        · refine ⟨rfl, ha0, ha1, hb0, hb1, by omega, by omega, hna, hnb, fun k y0 y1 => ?_⟩
                          by_cases e9 : k = c
                          · subst e9; exact hno
                          · exact hnc k y0 (by omega)
                    · simp only [sx_cc, Classical.not_not] at g
                      have esc := hsc (by omega)
                      conv => whnf
                      refine ⟨(by first | assumption | rfl), ?_⟩
                      try simp (disch := omega) only [Int.cast_ofNat_Int, up_s, up_a, up_i, mp_a, mp_ge]
                      try simp only [r30]
                      try simp only [r80]
                      try simp only [r82]
                      try simp only [eka]
                      try simp only [ekb]
                      try simp only [ekc]
                      try simp only [hsa]
                      try simp only [esb]
                      try simp only [esc]
                      conv => whnf
                      refine ⟨sx_ixI (by first | assumption | rfl) (by omega) (by omega), ?_⟩
                      try simp (disch := omega) only [Int.cast_ofNat_Int, up_s, up_a, up_i, mp_a, mp_ge]
                      try simp only [r30]
                      try simp only [r80]
                      try simp only [r82]
                      try simp only [eka]
                      try simp only [ekb]
                      try simp only [ekc]
                      try simp only [hsa]
                      try simp only [esb]
                      try simp only [esc]
                      conv => whnf
                      refine ⟨fun g => ?_, fun g => ?_⟩
                      · simp only [sx_cc, Classical.not_not] at g
                        try simp only [cmp_eq, cmp_lt, cmp_ge, Classical.not_not] at g
                        have etp : tp P x g9 a b c ↔ sx_andL g9 (sx_xorL (sx_orL (sx_orL (fS P a) (if x ≤ 1 then 0 else fS P b)) (if x ≤ 2 then 0 else fS P c)) (-1)) = 0 := ⟨fun z9 => z9.2.2.2, fun z9 => ⟨by assumption, fun z8 => by first | assumption | omega, fun z8 => by first | assumption | omega, z9⟩⟩
                        rw [if_neg (by omega), if_neg (by omega)] at etp
                        have hyes : tp P x g9 a b c := etp.mpr (by assumption)
                        conv => whnf
                        refine ⟨(by first | assumption | rfl), ?_⟩
                        try simp (disch := omega) only [Int.cast_ofNat_Int, up_s, up_a, up_i, mp_a, mp_ge]
                        try simp only [r30]
                        try simp only [r80]
                        try simp only [r82]
                        try simp only [eka]
                        try simp only [ekb]
                        try simp only [ekc]
                        try simp only [hsa]
                        try simp only [esb]
                        try simp only [esc]
                        conv => whnf
                        refine ⟨(by first | assumption | rfl), ?_⟩
                        try simp (disch := omega) only [Int.cast_ofNat_Int, up_s, up_a, up_i, mp_a, mp_ge]
                        try simp only [r30]
                        try simp only [r80]
                        try simp only [r82]
                        try simp only [eka]
                        try simp only [ekb]
                        try simp only [ekc]
                        try simp only [hsa]
                        try simp only [esb]
                        try simp only [esc]
                        conv => whnf
                        refine ⟨sx_ixI (by first | assumption | rfl) (by omega) (by omega), ?_⟩
                        conv => whnf
                        refine ⟨(by first | assumption | rfl), ?_⟩
                        try simp (disch := omega) only [Int.cast_ofNat_Int, up_s, up_a, up_i, mp_a, mp_ge]
                        try simp only [r30]
                        try simp only [r80]
                        try simp only [r82]
                        try simp only [eka]
                        try simp only [ekb]
                        try simp only [ekc]
                        try simp only [hsa]
                        try simp only [esb]
                        try simp only [esc]
                        conv => whnf
                        refine ⟨sx_ixI (by first | assumption | rfl) (by omega) (by omega), ?_⟩
                        conv => whnf
                        refine ⟨(by first | assumption | rfl), ?_⟩
                        try simp (disch := omega) only [Int.cast_ofNat_Int, up_s, up_a, up_i, mp_a, mp_ge]
                        try simp only [r30]
                        try simp only [r80]
                        try simp only [r82]
                        try simp only [eka]
                        try simp only [ekb]
                        try simp only [ekc]
                        try simp only [hsa]
                        try simp only [esb]
                        try simp only [esc]
                        conv => whnf
                        refine ⟨sx_ixI (by first | assumption | rfl) (by omega) (by omega), ?_⟩
                        conv => whnf
                        refine ⟨rfl, ?_⟩
                        refine h1 a b c ⟨⟨ha0, by omega, by omega, by omega, by omega, by omega, hyes⟩, hna, hnb, hnc⟩
                      · simp only [sx_cc, Classical.not_not] at g
                        try simp only [cmp_eq, cmp_lt, cmp_ge, Classical.not_not] at g
                        have etp : tp P x g9 a b c ↔ sx_andL g9 (sx_xorL (sx_orL (sx_orL (fS P a) (if x ≤ 1 then 0 else fS P b)) (if x ≤ 2 then 0 else fS P c)) (-1)) = 0 := ⟨fun z9 => z9.2.2.2, fun z9 => ⟨by assumption, fun z8 => by first | assumption | omega, fun z8 => by first | assumption | omega, z9⟩⟩
                        rw [if_neg (by omega), if_neg (by omega)] at etp
                        have hno : ¬ tp P x g9 a b c := fun z9 => absurd (etp.mp z9) (by assumption)
                        conv => whnf
                        refine ⟨⟨by omega, by omega⟩, ?_⟩
                        conv => whnf
                        refine ⟨_, ?_, Or.inr (Or.inr (⟨rfl, _, _, _, _, _, rfl, rfl, ?_, rfl⟩))⟩
                        · omega
                        · refine ⟨rfl, ha0, ha1, hb0, hb1, by omega, by omega, hna, hnb, fun k y0 y1 => ?_⟩
                          by_cases e9 : k = c
                          · subst e9; exact hno
                          · exact hnc k y0 (by omega)
                · simp only [sx_cc, Classical.not_not] at g
                  have hno : ¬ tp P x g9 a b c := fun z9 => z9.2.2.1 (by omega) (by assumption)
                  conv => whnf
                  refine ⟨⟨by omega, by omega⟩, ?_⟩
                  conv => whnf
                  refine ⟨_, ?_, Or.inr (Or.inr (⟨rfl, _, _, _, _, _, rfl, rfl, ?_, rfl⟩))⟩
                  · omega
                  · refine ⟨rfl, ha0, ha1, hb0, hb1, by omega, by omega, hna, hnb, fun k y0 y1 => ?_⟩
                    by_cases e9 : k = c
                    · subst e9; exact hno
                    · exact hnc k y0 (by omega)
            · simp only [sx_cc, Classical.not_not] at g
              conv => whnf
              refine ⟨(by first | assumption | rfl), ?_⟩
              try simp (disch := omega) only [Int.cast_ofNat_Int, up_s, up_a, up_i, mp_a, mp_ge]
              try simp only [r30]
              try simp only [r80]
              try simp only [r82]
              try simp only [eka]
              try simp only [ekb]
              try simp only [ekc]
              try simp only [hsa]
              try simp only [esb]
              try simp only [esc]
              conv => whnf
              refine ⟨sx_ixI (by first | assumption | rfl) (by omega) (by omega), ?_⟩
              try simp (disch := omega) only [Int.cast_ofNat_Int, up_s, up_a, up_i, mp_a, mp_ge]
              try simp only [r30]
              try simp only [r80]
              try simp only [r82]
              try simp only [eka]
              try simp only [ekb]
              try simp only [ekc]
              try simp only [hsa]
              try simp only [esb]
              try simp only [esc]
              conv => whnf
              refine ⟨fun g => ?_, fun g => ?_⟩
              · simp only [sx_cc, Classical.not_not] at g
                have hno : ¬ tp P x g9 a b c := fun z9 => z9.2.1 (by omega) (by assumption)
                conv => whnf
                refine ⟨⟨by omega, by omega⟩, ?_⟩
                conv => whnf
                refine ⟨_, ?_, Or.inr (Or.inr (⟨rfl, _, _, _, _, _, rfl, rfl, ?_, rfl⟩))⟩
                · omega
                · refine ⟨rfl, ha0, ha1, hb0, hb1, by omega, by omega, hna, hnb, fun k y0 y1 => ?_⟩
                  by_cases e9 : k = c
                  · subst e9; exact hno
                  · exact hnc k y0 (by omega)
              · simp only [sx_cc, Classical.not_not] at g
                conv => whnf
                refine ⟨fun g => ?_, fun g => ?_⟩
                · simp only [sx_cc, Classical.not_not] at g
                  conv => whnf
                  refine ⟨(by first | assumption | rfl), ?_⟩
                  try simp (disch := omega) only [Int.cast_ofNat_Int, up_s, up_a, up_i, mp_a, mp_ge]
                  try simp only [r30]
                  try simp only [r80]
                  try simp only [r82]
                  try simp only [eka]
                  try simp only [ekb]
                  try simp only [ekc]
                  try simp only [hsa]
                  try simp only [esb]
                  try simp only [esc]
                  conv => whnf
                  refine ⟨sx_ixI (by first | assumption | rfl) (by omega) (by omega), ?_⟩
                  try simp (disch := omega) only [Int.cast_ofNat_Int, up_s, up_a, up_i, mp_a, mp_ge]
                  try simp only [r30]
                  try simp only [r80]
                  try simp only [r82]
                  try simp only [eka]
                  try simp only [ekb]
                  try simp only [ekc]
                  try simp only [hsa]
                  try simp only [esb]
                  try simp only [esc]
                  conv => whnf
                  refine ⟨fun g => ?_, fun g => ?_⟩
                  · simp only [sx_cc, Classical.not_not] at g
                    conv => whnf
                    refine ⟨fun g => ?_, fun g => ?_⟩
                    · simp only [sx_cc, Classical.not_not] at g
                      conv => whnf
                      refine ⟨fun g => ?_, fun g => ?_⟩
                      · simp only [sx_cc, Classical.not_not] at g
                        try simp only [cmp_eq, cmp_lt, cmp_ge, Classical.not_not] at g
                        have etp : tp P x g9 a b c ↔ sx_andL g9 (sx_xorL (sx_orL (sx_orL (fS P a) (if x ≤ 1 then 0 else fS P b)) (if x ≤ 2 then 0 else fS P c)) (-1)) = 0 := ⟨fun z9 => z9.2.2.2, fun z9 => ⟨by assumption, fun z8 => by first | assumption | omega, fun z8 => by first | assumption | omega, z9⟩⟩
                        rw [if_pos (by omega), if_pos (by omega)] at etp
                        have hyes : tp P x g9 a b c := etp.mpr (by assumption)
                        conv => whnf
                        refine ⟨(by first | assumption | rfl), ?_⟩
                        try simp (disch := omega) only [Int.cast_ofNat_Int, up_s, up_a, up_i, mp_a, mp_ge]
                        try simp only [r30]
                        try simp only [r80]
                        try simp only [r82]
                        try simp only [eka]
                        try simp only [ekb]
                        try simp only [ekc]
                        try simp only [hsa]
                        try simp only [esb]
                        try simp only [esc]
                        conv => whnf
                        refine ⟨(by first | assumption | rfl), ?_⟩
                        try simp (disch := omega) only [Int.cast_ofNat_Int, up_s, up_a, up_i, mp_a, mp_ge]
                        try simp only [r30]
                        try simp only [r80]
                        try simp only [r82]
                        try simp only [eka]
                        try simp only [ekb]
                        try simp only [ekc]
                        try simp only [hsa]
                        try simp only [esb]
                        try simp only [esc]
                        conv => whnf
                        refine ⟨sx_ixI (by first | assumption | rfl) (by omega) (by omega), ?_⟩
                        conv => whnf
                        refine ⟨(by first | assumption | rfl), ?_⟩
                        try simp (disch := omega) only [Int.cast_ofNat_Int, up_s, up_a, up_i, mp_a, mp_ge]
                        try simp only [r30]
                        try simp only [r80]
                        try simp only [r82]
                        try simp only [eka]
                        try simp only [ekb]
                        try simp only [ekc]
                        try simp only [hsa]
                        try simp only [esb]
                        try simp only [esc]
                        conv => whnf
                        refine ⟨sx_ixI (by first | assumption | rfl) (by omega) (by omega), ?_⟩
                        conv => whnf
                        refine ⟨(by first | assumption | rfl), ?_⟩
                        try simp (disch := omega) only [Int.cast_ofNat_Int, up_s, up_a, up_i, mp_a, mp_ge]
                        try simp only [r30]
                        try simp only [r80]
                        try simp only [r82]
                        try simp only [eka]
                        try simp only [ekb]
                        try simp only [ekc]
                        try simp only [hsa]
                        try simp only [esb]
                        try simp only [esc]
                        conv => whnf
                        refine ⟨sx_ixI (by first | assumption | rfl) (by omega) (by omega), ?_⟩
                        conv => whnf
                        refine ⟨rfl, ?_⟩
                        refine h1 a b c ⟨⟨ha0, by omega, by omega, by omega, by omega, by omega, hyes⟩, hna, hnb, hnc⟩
                      · simp only [sx_cc, Classical.not_not] at g
                        try simp only [cmp_eq, cmp_lt, cmp_ge, Classical.not_not] at g
                        have etp : tp P x g9 a b c ↔ sx_andL g9 (sx_xorL (sx_orL (sx_orL (fS P a) (if x ≤ 1 then 0 else fS P b)) (if x ≤ 2 then 0 else fS P c)) (-1)) = 0 := ⟨fun z9 => z9.2.2.2, fun z9 => ⟨by assumption, fun z8 => by first | assumption | omega, fun z8 => by first | assumption | omega, z9⟩⟩
                        rw [if_pos (by omega), if_pos (by omega)] at etp
                        have hno : ¬ tp P x g9 a b c := fun z9 => absurd (etp.mp z9) (by assumption)
                        conv => whnf
                        refine ⟨⟨by omega, by omega⟩, ?_⟩
                        conv => whnf
                        refine ⟨_, ?_, Or.inr (Or.inr (⟨rfl, _, _, _, _, _, rfl, rfl, ?_, rfl⟩))⟩
                        · omega
                        · refine ⟨rfl, ha0, ha1, hb0, hb1, by omega, by omega, hna, hnb, fun k y0 y1 => ?_⟩
                          by_cases e9 : k = c
                          · subst e9; exact hno
                          · exact hnc k y0 (by omega)
                    · simp only [sx_cc, Classical.not_not] at g
                      have esc := hsc (by omega)
                      conv => whnf
                      refine ⟨(by first | assumption | rfl), ?_⟩
                      try simp (disch := omega) only [Int.cast_ofNat_Int, up_s, up_a, up_i, mp_a, mp_ge]
                      try simp only [r30]
                      try simp only [r80]
                      try simp only [r82]
                      try simp only [eka]
                      try simp only [ekb]
                      try simp only [ekc]
                      try simp only [hsa]
                      try simp only [esb]
                      try simp only [esc]
                      conv => whnf
                      refine ⟨sx_ixI (by first | assumption | rfl) (by omega) (by omega), ?_⟩
                      try simp (disch := omega) only [Int.cast_ofNat_Int, up_s, up_a, up_i, mp_a, mp_ge]
                      try simp only [r30]
                      try simp only [r80]
                      try simp only [r82]
                      try simp only [eka]
                      try simp only [ekb]
                      try simp only [ekc]
                      try simp only [hsa]
                      try simp only [esb]
                      try simp only [esc]
                      conv => whnf
                      refine ⟨fun g => ?_, fun g => ?_⟩
                      · simp only [sx_cc, Classical.not_not] at g
                        try simp only [cmp_eq, cmp_lt, cmp_ge, Classical.not_not] at g
                        have etp : tp P x g9 a b c ↔ sx_andL g9 (sx_xorL (sx_orL (sx_orL (fS P a) (if x ≤ 1 then 0 else fS P b)) (if x ≤ 2 then 0 else fS P c)) (-1)) = 0 := ⟨fun z9 => z9.2.2.2, fun z9 => ⟨by assumption, fun z8 => by first | assumption | omega, fun z8 => by first | assumption | omega, z9⟩⟩
                        rw [if_pos (by omega), if_neg (by omega)] at etp
                        have hyes : tp P x g9 a b c := etp.mpr (by assumption)
                        conv => whnf
                        refine ⟨(by first | assumption | rfl), ?_⟩
                        try simp (disch := omega) only [Int.cast_ofNat_Int, up_s, up_a, up_i, mp_a, mp_ge]
                        try simp only [r30]
                        try simp only [r80]
                        try simp only [r82]
                        try simp only [eka]
                        try simp only [ekb]
                        try simp only [ekc]
                        try simp only [hsa]
                        try simp only [esb]
                        try simp only [esc]
                        conv => whnf
                        refine ⟨(by first | assumption | rfl), ?_⟩
                        try simp (disch := omega) only [Int.cast_ofNat_Int, up_s, up_a, up_i, mp_a, mp_ge]
                        try simp only [r30]
                        try simp only [r80]
                        try simp only [r82]
                        try simp only [eka]
                        try simp only [ekb]
                        try simp only [ekc]
                        try simp only [hsa]
                        try simp only [esb]
                        try simp only [esc]
                        conv => whnf
                        refine ⟨sx_ixI (by first | assumption | rfl) (by omega) (by omega), ?_⟩
                        conv => whnf
                        refine ⟨(by first | assumption | rfl), ?_⟩
                        try simp (disch := omega) only [Int.cast_ofNat_Int, up_s, up_a, up_i, mp_a, mp_ge]
                        try simp only [r30]
                        try simp only [r80]
                        try simp only [r82]
                        try simp only [eka]
                        try simp only [ekb]
                        try simp only [ekc]
                        try simp only [hsa]
                        try simp only [esb]
                        try simp only [esc]
                        conv => whnf
                        refine ⟨sx_ixI (by first | assumption | rfl) (by omega) (by omega), ?_⟩
                        conv => whnf
                        refine ⟨(by first | assumption | rfl), ?_⟩
                        try simp (disch := omega) only [Int.cast_ofNat_Int, up_s, up_a, up_i, mp_a, mp_ge]
                        try simp only [r30]
                        try simp only [r80]
                        try simp only [r82]
                        try simp only [eka]
                        try simp only [ekb]
                        try simp only [ekc]
                        try simp only [hsa]
                        try simp only [esb]
                        try simp only [esc]
                        conv => whnf
                        refine ⟨sx_ixI (by first | assumption | rfl) (by omega) (by omega), ?_⟩
                        conv => whnf
                        refine ⟨rfl, ?_⟩
                        refine h1 a b c ⟨⟨ha0, by omega, by omega, by omega, by omega, by omega, hyes⟩, hna, hnb, hnc⟩
                      · simp only [sx_cc, Classical.not_not] at g
                        try simp only [cmp_eq, cmp_lt, cmp_ge, Classical.not_not] at g
                        have etp : tp P x g9 a b c ↔ sx_andL g9 (sx_xorL (sx_orL (sx_orL (fS P a) (if x ≤ 1 then 0 else fS P b)) (if x ≤ 2 then 0 else fS P c)) (-1)) = 0 := ⟨fun z9 => z9.2.2.2, fun z9 => ⟨by assumption, fun z8 => by first | assumption | omega, fun z8 => by first | assumption | omega, z9⟩⟩
                        rw [if_pos (by omega), if_neg (by omega)] at etp
                        have hno : ¬ tp P x g9 a b c := fun z9 => absurd (etp.mp z9) (by assumption)
                        conv => whnf
                        refine ⟨⟨by omega, by omega⟩, ?_⟩
                        conv => whnf
                        refine ⟨_, ?_, Or.inr (Or.inr (⟨rfl, _, _, _, _, _, rfl, rfl, ?_, rfl⟩))⟩
                        · omega
                        · refine ⟨rfl, ha0, ha1, hb0, hb1, by omega, by omega, hna, hnb, fun k y0 y1 => ?_⟩
                          by_cases e9 : k = c
                          · subst e9; exact hno
                          · exact hnc k y0 (by omega)
                  · simp only [sx_cc, Classical.not_not] at g
                    have esb := hsb (by omega)
                    conv => whnf
                    refine ⟨(by first | assumption | rfl), ?_⟩
                    try simp (disch := omega) only [Int.cast_ofNat_Int, up_s, up_a, up_i, mp_a, mp_ge]
                    try simp only [r30]
                    try simp only [r80]
                    try simp only [r82]
                    try simp only [eka]
                    try simp only [ekb]
                    try simp only [ekc]
                    try simp only [hsa]
                    try simp only [esb]
                    try simp only [esc]
                    conv => whnf
                    refine ⟨sx_ixI (by first | assumption | rfl) (by omega) (by omega), ?_⟩
                    try simp (disch := omega) only [Int.cast_ofNat_Int, up_s, up_a, up_i, mp_a, mp_ge]
                    try simp only [r30]
                    try simp only [r80]
                    try simp only [r82]
                    try simp only [eka]
                    try simp only [ekb]
                    try simp only [ekc]
                    try simp only [hsa]
                    try simp only [esb]
                    try simp only [esc]
                    conv => whnf
                    refine ⟨fun g => ?_, fun g => ?_⟩
                    · simp only [sx_cc, Classical.not_not] at g
                      conv => whnf
                      refine ⟨fun g => ?_, fun g => ?_⟩
                      · simp only [sx_cc, Classical.not_not] at g
                        try simp only [cmp_eq, cmp_lt, cmp_ge, Classical.not_not] at g
                        have etp : tp P x g9 a b c ↔ sx_andL g9 (sx_xorL (sx_orL (sx_orL (fS P a) (if x ≤ 1 then 0 else fS P b)) (if x ≤ 2 then 0 else fS P c)) (-1)) = 0 := ⟨fun z9 => z9.2.2.2, fun z9 => ⟨by assumption, fun z8 => by first | assumption | omega, fun z8 => by first | assumption | omega, z9⟩⟩
                        rw [if_neg (by omega), if_pos (by omega)] at etp
                        have hyes : tp P x g9 a b c := etp.mpr (by assumption)
                        conv => whnf
                        refine ⟨(by first | assumption | rfl), ?_⟩
                        try simp (disch := omega) only [Int.cast_ofNat_Int, up_s, up_a, up_i, mp_a, mp_ge]
                        try simp only [r30]
                        try simp only [r80]
                        try simp only [r82]
                        try simp only [eka]
                        try simp only [ekb]
                        try simp only [ekc]
                        try simp only [hsa]
                        try simp only [esb]
                        try simp only [esc]
                        conv => whnf
                        refine ⟨(by first | assumption | rfl), ?_⟩
                        try simp (disch := omega) only [Int.cast_ofNat_Int, up_s, up_a, up_i, mp_a, mp_ge]
                        try simp only [r30]
                        try simp only [r80]
                        try simp only [r82]
                        try simp only [eka]
                        try simp only [ekb]
                        try simp only [ekc]
                        try simp only [hsa]
                        try simp only [esb]
                        try simp only [esc]
                        conv => whnf
                        refine ⟨sx_ixI (by first | assumption | rfl) (by omega) (by omega), ?_⟩
                        conv => whnf
                        refine ⟨(by first | assumption | rfl), ?_⟩
                        try simp (disch := omega) only [Int.cast_ofNat_Int, up_s, up_a, up_i, mp_a, mp_ge]
                        try simp only [r30]
                        try simp only [r80]
                        try simp only [r82]
                        try simp only [eka]
                        try simp only [ekb]
                        try simp only [ekc]
                        try simp only [hsa]
                        try simp only [esb]
                        try simp only [esc]
                        conv => whnf
                        refine ⟨sx_ixI (by first | assumption | rfl) (by omega) (by omega), ?_⟩
                        conv => whnf
                        refine ⟨(by first | assumption | rfl), ?_⟩
                        try simp (disch := omega) only [Int.cast_ofNat_Int, up_s, up_a, up_i, mp_a, mp_ge]
                        try simp only [r30]
                        try simp only [r80]
                        try simp only [r82]
                        try simp only [eka]
                        try simp only [ekb]
                        try simp only [ekc]
                        try simp only [hsa]
                        try simp only [esb]
                        try simp only [esc]
                        conv => whnf
                        refine ⟨sx_ixI (by first | assumption | rfl) (by omega) (by omega), ?_⟩
                        conv => whnf
                        refine ⟨rfl, ?_⟩
                        refine h1 a b c ⟨⟨ha0, by omega, by omega, by omega, by omega, by omega, hyes⟩, hna, hnb, hnc⟩
                      · simp only [sx_cc, Classical.not_not] at g
                        try simp only [cmp_eq, cmp_lt, cmp_ge, Classical.not_not] at g
                        have etp : tp P x g9 a b c ↔ sx_andL g9 (sx_xorL (sx_orL (sx_orL (fS P a) (if x ≤ 1 then 0 else fS P b)) (if x ≤ 2 then 0 else fS P c)) (-1)) = 0 := ⟨fun z9 => z9.2.2.2, fun z9 => ⟨by assumption, fun z8 => by first | assumption | omega, fun z8 => by first | assumption | omega, z9⟩⟩
                        rw [if_neg (by omega), if_pos (by omega)] at etp
                        have hno : ¬ tp P x g9 a b c := fun z9 => absurd (etp.mp z9) (by assumption)
                        conv => whnf
                        refine ⟨⟨by omega, by omega⟩, ?_⟩
                        conv => whnf
                        refine ⟨_, ?_, Or.inr (Or.inr (⟨rfl, _, _, _, _, _, rfl, rfl, ?_, rfl⟩))⟩
                        · omega
                        · refine ⟨rfl, ha0, ha1, hb0, hb1, by omega, by omega, hna, hnb, fun k y0 y1 => ?_⟩
                          by_cases e9 : k = c
                          · subst e9; exact hno
                          · exact hnc k y0 (by omega)
                    · simp only [sx_cc, Classical.not_not] at g
                      have esc := hsc (by omega)
                      conv => whnf
                      refine ⟨(by first | assumption | rfl), ?_⟩
                      try simp (disch := omega) only [Int.cast_ofNat_Int, up_s, up_a, up_i, mp_a, mp_ge]
                      try simp only [r30]
                      try simp only [r80]
                      try simp only [r82]
                      try simp only [eka]
                      try simp only [ekb]
                      try simp only [ekc]
                      try simp only [hsa]
                      try simp only [esb]
                      try simp only [esc]
                      conv => whnf
                      refine ⟨sx_ixI (by first | assumption | rfl) (by omega) (by omega), ?_⟩
                      try simp (disch := omega) only [Int.cast_ofNat_Int, up_s, up_a, up_i, mp_a, mp_ge]
                      try simp only [r30]
                      try simp only [r80]
                      try simp only [r82]
                      try simp only [eka]
                      try simp only [ekb]
                      try simp only [ekc]
                      try simp only [hsa]
                      try simp only [esb]
                      try simp only [esc]
                      conv => whnf
                      refine ⟨fun g => ?_, fun g => ?_⟩
                      · simp only [sx_cc, Classical.not_not] at g
                        try simp only [cmp_eq, cmp_lt, cmp_ge, Classical.not_not] at g
                        have etp : tp P x g9 a b c ↔ sx_andL g9 (sx_xorL (sx_orL (sx_orL (fS P a) (if x ≤ 1 then 0 else fS P b)) (if x ≤ 2 then 0 else fS P c)) (-1)) = 0 := ⟨fun z9 => z9.2.2.2, fun z9 => ⟨by assumption, fun z8 => by first | assumption | omega, fun z8 => by first | assumption | omega, z9⟩⟩
                        rw [if_neg (by omega), if_neg (by omega)] at etp
                        have hyes : tp P x g9 a b c := etp.mpr (by assumption)
                        conv => whnf
                        refine ⟨(by first | assumption | rfl), ?_⟩
                        try simp (disch := omega) only [Int.cast_ofNat_Int, up_s, up_a, up_i, mp_a, mp_ge]
                        try simp only [r30]
                        try simp only [r80]
                        try simp only [r82]
                        try simp only [eka]
                        try simp only [ekb]
                        try simp only [ekc]
                        try simp only [hsa]
                        try simp only [esb]
                        try simp only [esc]
                        conv => whnf
                        refine ⟨(by first | assumption | rfl), ?_⟩
                        try simp (disch := omega) only [Int.cast_ofNat_Int, up_s, up_a, up_i, mp_a, mp_ge]
                        try simp only [r30]
                        try simp only [r80]
                        try simp only [r82]
                        try simp only [eka]
                        try simp only [ekb]
                        try simp only [ekc]
                        try simp only [hsa]
                        try simp only [esb]
                        try simp only [esc]
                        conv => whnf
                        refine ⟨sx_ixI (by first | assumption | rfl) (by omega) (by omega), ?_⟩
                        conv => whnf
                        refine ⟨(by first | assumption | rfl), ?_⟩
                        try simp (disch := omega) only [Int.cast_ofNat_Int, up_s, up_a, up_i, mp_a, mp_ge]
                        try simp only [r30]
                        try simp only [r80]
                        try simp only [r82]
                        try simp only [eka]
                        try simp only [ekb]
                        try simp only [ekc]
                        try simp only [hsa]
                        try simp only [esb]
                        try simp only [esc]
                        conv => whnf
                        refine ⟨sx_ixI (by first | assumption | rfl) (by omega) (by omega), ?_⟩
                        conv => whnf
                        refine ⟨(by first | assumption | rfl), ?_⟩
                        try simp (disch := omega) only [Int.cast_ofNat_Int, up_s, up_a, up_i, mp_a, mp_ge]
                        try simp only [r30]
                        try simp only [r80]
                        try simp only [r82]
                        try simp only [eka]
                        try simp only [ekb]
                        try simp only [ekc]
                        try simp only [hsa]
                        try simp only [esb]
                        try simp only [esc]
                        conv => whnf
                        refine ⟨sx_ixI (by first | assumption | rfl) (by omega) (by omega), ?_⟩
                        conv => whnf
                        refine ⟨rfl, ?_⟩
                        refine h1 a b c ⟨⟨ha0, by omega, by omega, by omega, by omega, by omega, hyes⟩, hna, hnb, hnc⟩
                      · simp only [sx_cc, Classical.not_not] at g
                        try simp only [cmp_eq, cmp_lt, cmp_ge, Classical.not_not] at g
                        have etp : tp P x g9 a b c ↔ sx_andL g9 (sx_xorL (sx_orL (sx_orL (fS P a) (if x ≤ 1 then 0 else fS P b)) (if x ≤ 2 then 0 else fS P c)) (-1)) = 0 := ⟨fun z9 => z9.2.2.2, fun z9 => ⟨by assumption, fun z8 => by first | assumption | omega, fun z8 => by first | assumption | omega, z9⟩⟩
                        rw [if_neg (by omega), if_neg (by omega)] at etp
                        have hno : ¬ tp P x g9 a b c := fun z9 => absurd (etp.mp z9) (by assumption)
                        conv => whnf
                        refine ⟨⟨by omega, by omega⟩, ?_⟩
                        conv => whnf
                        refine ⟨_, ?_, Or.inr (Or.inr (⟨rfl, _, _, _, _, _, rfl, rfl, ?_, rfl⟩))⟩
                        · omega
                        · refine ⟨rfl, ha0, ha1, hb0, hb1, by omega, by omega, hna, hnb, fun k y0 y1 => ?_⟩
                          by_cases e9 : k = c
                          · subst e9; exact hno
                          · exact hnc k y0 (by omega)
                · simp only [sx_cc, Classical.not_not] at g
                  conv => whnf
                  refine ⟨(by first | assumption | rfl), ?_⟩
                  try simp (disch := omega) only [Int.cast_ofNat_Int, up_s, up_a, up_i, mp_a, mp_ge]
                  try simp only [r30]
                  try simp only [r80]
                  try simp only [r82]
                  try simp only [eka]
                  try simp only [ekb]
                  try simp only [ekc]
                  try simp only [hsa]
                  try simp only [esb]
                  try simp only [esc]
                  conv => whnf
                  refine ⟨sx_ixI (by first | assumption | rfl) (by omega) (by omega), ?_⟩
                  try simp (disch := omega) only [Int.cast_ofNat_Int, up_s, up_a, up_i, mp_a, mp_ge]
                  try simp only [r30]
                  try simp only [r80]
                  try simp only [r82]
                  try simp only [eka]
                  try simp only [ekb]
                  try simp only [ekc]
                  try simp only [hsa]
                  try simp only [esb]
                  try simp only [esc]
                  conv => whnf
                  refine ⟨fun g => ?_, fun g => ?_⟩
                  · simp only [sx_cc, Classical.not_not] at g
                    conv => whnf
                    refine ⟨(by first | assumption | rfl), ?_⟩
                    try simp (disch := omega) only [Int.cast_ofNat_Int, up_s, up_a, up_i, mp_a, mp_ge]
                    try simp only [r30]
                    try simp only [r80]
                    try simp only [r82]
                    try simp only [eka]
                    try simp only [ekb]
                    try simp only [ekc]
                    try simp only [hsa]
                    try simp only [esb]
                    try simp only [esc]
                    conv => whnf
                    refine ⟨sx_ixI (by first | assumption | rfl) (by omega) (by omega), ?_⟩
                    try simp (disch := omega) only [Int.cast_ofNat_Int, up_s, up_a, up_i, mp_a, mp_ge]
                    try simp only [r30]
                    try simp only [r80]
                    try simp only [r82]
                    try simp only [eka]
                    try simp only [ekb]
                    try simp only [ekc]
                    try simp only [hsa]
                    try simp only [esb]
                    try simp only [esc]
                    conv => whnf
                    refine ⟨fun g => ?_, fun g => ?_⟩
                    · simp only [sx_cc, Classical.not_not] at g
                      conv => whnf
                      refine ⟨fun g => ?_, fun g => ?_⟩
                      · simp only [sx_cc, Classical.not_not] at g
                        conv => whnf
                        refine ⟨fun g => ?_, fun g => ?_⟩
                        · simp only [sx_cc, Classical.not_not] at g
                          try simp only [cmp_eq, cmp_lt, cmp_ge, Classical.not_not] at g
                          have etp : tp P x g9 a b c ↔ sx_andL g9 (sx_xorL (sx_orL (sx_orL (fS P a) (if x ≤ 1 then 0 else fS P b)) (if x ≤ 2 then 0 else fS P c)) (-1)) = 0 := ⟨fun z9 => z9.2.2.2, fun z9 => ⟨by assumption, fun z8 => by first | assumption | omega, fun z8 => by first | assumption | omega, z9⟩⟩
                          rw [if_pos (by omega), if_pos (by omega)] at etp
                          have hyes : tp P x g9 a b c := etp.mpr (by assumption)
                          conv => whnf
                          refine ⟨(by first | assumption | rfl), ?_⟩
                          try simp (disch := omega) only [Int.cast_ofNat_Int, up_s, up_a, up_i, mp_a, mp_ge]
                          try simp only [r30]
                          try simp only [r80]
                          try simp only [r82]
                          try simp only [eka]
                          try simp only [ekb]
                          try simp only [ekc]
                          try simp only [hsa]
                          try simp only [esb]
                          try simp only [esc]
                          conv => whnf
                          refine ⟨(by first | assumption | rfl), ?_⟩
                          try simp (disch := omega) only [Int.cast_ofNat_Int, up_s, up_a, up_i, mp_a, mp_ge]
                          try simp only [r30]
                          try simp only [r80]
                          try simp only [r82]
                          try simp only [eka]
                          try simp only [ekb]
                          try simp only [ekc]
                          try simp only [hsa]
                          try simp only [esb]
                          try simp only [esc]
                          conv => whnf
                          refine ⟨sx_ixI (by first | assumption | rfl) (by omega) (by omega), ?_⟩
                          conv => whnf
                          refine ⟨(by first | assumption | rfl), ?_⟩
                          try simp (disch := omega) only [Int.cast_ofNat_Int, up_s, up_a, up_i, mp_a, mp_ge]
                          try simp only [r30]
                          try simp only [r80]
                          try simp only [r82]
                          try simp only [eka]
                          try simp only [ekb]
                          try simp only [ekc]
                          try simp only [hsa]
                          try simp only [esb]
                          try simp only [esc]
                          conv => whnf
                          refine ⟨sx_ixI (by first | assumption | rfl) (by omega) (by omega), ?_⟩
                          conv => whnf
                          refine ⟨(by first | assumption | rfl), ?_⟩
                          try simp (disch := omega) only [Int.cast_ofNat_Int, up_s, up_a, up_i, mp_a, mp_ge]
                          try simp only [r30]
                          try simp only [r80]
                          try simp only [r82]
                          try simp only [eka]
                          try simp only [ekb]
                          try simp only [ekc]
                          try simp only [hsa]
                          try simp only [esb]
                          try simp only [esc]
                          conv => whnf
                          refine ⟨sx_ixI (by first | assumption | rfl) (by omega) (by omega), ?_⟩
                          conv => whnf
                          refine ⟨rfl, ?_⟩
                          refine h1 a b c ⟨⟨ha0, by omega, by omega, by omega, by omega, by omega, hyes⟩, hna, hnb, hnc⟩
                        · simp only [sx_cc, Classical.not_not] at g
                          try simp only [cmp_eq, cmp_lt, cmp_ge, Classical.not_not] at g
                          have etp : tp P x g9 a b c ↔ sx_andL g9 (sx_xorL (sx_orL (sx_orL (fS P a) (if x ≤ 1 then 0 else fS P b)) (if x ≤ 2 then 0 else fS P c)) (-1)) = 0 := ⟨fun z9 => z9.2.2.2, fun z9 => ⟨by assumption, fun z8 => by first | assumption | omega, fun z8 => by first | assumption | omega, z9⟩⟩
                          rw [if_pos (by omega), if_pos (by omega)] at etp
                          have hno : ¬ tp P x g9 a b c := fun z9 => absurd (etp.mp z9) (by assumption)
                          conv => whnf
                          refine ⟨⟨by omega, by omega⟩, ?_⟩
                          conv => whnf
                          refine ⟨_, ?_, Or.inr (Or.inr (⟨rfl, _, _, _, _, _, rfl, rfl, ?_, rfl⟩))⟩
                          · omega
                          · refine ⟨rfl, ha0, ha1, hb0, hb1, by omega, by omega, hna, hnb, fun k y0 y1 => ?_⟩
                            by_cases e9 : k = c
                            · subst e9; exact hno
                            · exact hnc k y0 (by omega)
                      · simp only [sx_cc, Classical.not_not] at g
                        have esc := hsc (by omega)
                        conv => whnf
                        refine ⟨(by first | assumption | rfl), ?_⟩
                        try simp (disch := omega) only [Int.cast_ofNat_Int, up_s, up_a, up_i, mp_a, mp_ge]
                        try simp only [r30]
                        try simp only [r80]
                        try simp only [r82]
                        try simp only [eka]
                        try simp only [ekb]
                        try simp only [ekc]
                        try simp only [hsa]
                        try simp only [esb]
                        try simp only [esc]
                        conv => whnf
                        refine ⟨sx_ixI (by first | assumption | rfl) (by omega) (by omega), ?_⟩
                        try simp (disch := omega) only [Int.cast_ofNat_Int, up_s, up_a, up_i, mp_a, mp_ge]
                        try simp only [r30]
                        try simp only [r80]
                        try simp only [r82]
                        try simp only [eka]
                        try simp only [ekb]
                        try simp only [ekc]
                        try simp only [hsa]
                        try simp only [esb]
                        try simp only [esc]
                        conv => whnf
                        refine ⟨fun g => ?_, fun g => ?_⟩
                        · simp only [sx_cc, Classical.not_not] at g
                          try simp only [cmp_eq, cmp_lt, cmp_ge, Classical.not_not] at g
                          have etp : tp P x g9 a b c ↔ sx_andL g9 (sx_xorL (sx_orL (sx_orL (fS P a) (if x ≤ 1 then 0 else fS P b)) (if x ≤ 2 then 0 else fS P c)) (-1)) = 0 := ⟨fun z9 => z9.2.2.2, fun z9 => ⟨by assumption, fun z8 => by first | assumption | omega, fun z8 => by first | assumption | omega, z9⟩⟩
                          rw [if_pos (by omega), if_neg (by omega)] at etp
                          have hyes : tp P x g9 a b c := etp.mpr (by assumption)
                          conv => whnf
                          refine ⟨(by first | assumption | rfl), ?_⟩
                          try simp (disch := omega) only [Int.cast_ofNat_Int, up_s, up_a, up_i, mp_a, mp_ge]
                          try simp only [r30]
                          try simp only [r80]
                          try simp only [r82]
                          try simp only [eka]
                          try simp only [ekb]
                          try simp only [ekc]
                          try simp only [hsa]
                          try simp only [esb]
                          try simp only [esc]
                          conv => whnf
                          refine ⟨(by first | assumption | rfl), ?_⟩
                          try simp (disch := omega) only [Int.cast_ofNat_Int, up_s, up_a, up_i, mp_a, mp_ge]
                          try simp only [r30]
                          try simp only [r80]
                          try simp only [r82]
                          try simp only [eka]
                          try simp only [ekb]
                          try simp only [ekc]
                          try simp only [hsa]
                          try simp only [esb]
                          try simp only [esc]
                          conv => whnf
                          refine ⟨sx_ixI (by first | assumption | rfl) (by omega) (by omega), ?_⟩
                          conv => whnf
                          refine ⟨(by first | assumption | rfl), ?_⟩
                          try simp (disch := omega) only [Int.cast_ofNat_Int, up_s, up_a, up_i, mp_a, mp_ge]
                          try simp only [r30]
                          try simp only [r80]
                          try simp only [r82]
                          try simp only [eka]
                          try simp only [ekb]
                          try simp only [ekc]
                          try simp only [hsa]
                          try simp only [esb]
                          try simp only [esc]
                          conv => whnf
                          refine ⟨sx_ixI (by first | assumption | rfl) (by omega) (by omega), ?_⟩
                          conv => whnf
                          refine ⟨(by first | assumption | rfl), ?_⟩
                          try simp (disch := omega) only [Int.cast_ofNat_Int, up_s, up_a, up_i, mp_a, mp_ge]
                          try simp only [r30]
                          try simp only [r80]
                          try simp only [r82]
                          try simp only [eka]
                          try simp only [ekb]
                          try simp only [ekc]
                          try simp only [hsa]
                          try simp only [esb]
                          try simp only [esc]
                          conv => whnf
                          refine ⟨sx_ixI (by first | assumption | rfl) (by omega) (by omega), ?_⟩
                          conv => whnf
                          refine ⟨rfl, ?_⟩
                          refine h1 a b c ⟨⟨ha0, by omega, by omega, by omega, by omega, by omega, hyes⟩, hna, hnb, hnc⟩
                        · simp only [sx_cc, Classical.not_not] at g
                          try simp only [cmp_eq, cmp_lt, cmp_ge, Classical.not_not] at g
                          have etp : tp P x g9 a b c ↔ sx_andL g9 (sx_xorL (sx_orL (sx_orL (fS P a) (if x ≤ 1 then 0 else fS P b)) (if x ≤ 2 then 0 else fS P c)) (-1)) = 0 := ⟨fun z9 => z9.2.2.2, fun z9 => ⟨by assumption, fun z8 => by first | assumption | omega, fun z8 => by first | assumption | omega, z9⟩⟩
                          rw [if_pos (by omega), if_neg (by omega)] at etp
                          have hno : ¬ tp P x g9 a b c := fun z9 => absurd (etp.mp z9) (by assumption)
                          conv => whnf
                          refine ⟨⟨by omega, by omega⟩, ?_⟩
                          conv => whnf
                          refine ⟨_, ?_, Or.inr (Or.inr (⟨rfl, _, _, _, _, _, rfl, rfl, ?_, rfl⟩))⟩
                          · omega
                          · refine ⟨rfl, ha0, ha1, hb0, hb1, by omega, by omega, hna, hnb, fun k y0 y1 => ?_⟩
                            by_cases e9 : k = c
                            · subst e9; exact hno
                            · exact hnc k y0 (by omega)
                    · simp only [sx_cc, Classical.not_not] at g
                      have esb := hsb (by omega)
                      conv => whnf
                      refine ⟨(by first | assumption | rfl), ?_⟩
                      try simp (disch := omega) only [Int.cast_ofNat_Int, up_s, up_a, up_i, mp_a, mp_ge]
                      try simp only [r30]
                      try simp only [r80]
                      try simp only [r82]
                      try simp only [eka]
                      try simp only [ekb]
                      try simp only [ekc]
                      try simp only [hsa]
                      try simp only [esb]
                      try simp only [esc]
                      conv => whnf
                      refine ⟨sx_ixI (by first | assumption | rfl) (by omega) (by omega), ?_⟩
                      try simp (disch := omega) only [Int.cast_ofNat_Int, up_s, up_a, up_i, mp_a, mp_ge]
                      try simp only [r30]
                      try simp only [r80]
                      try simp only [r82]
                      try simp only [eka]
                      try simp only [ekb]
                      try simp only [ekc]
                      try simp only [hsa]
                      try simp only [esb]
                      try simp only [esc]
                      conv => whnf
                      refine ⟨fun g => ?_, fun g => ?_⟩
                      · simp only [sx_cc, Classical.not_not] at g
                        conv => whnf
                        refine ⟨fun g => ?_, fun g => ?_⟩
                        · simp only [sx_cc, Classical.not_not] at g
                          try simp only [cmp_eq, cmp_lt, cmp_ge, Classical.not_not] at g
                          have etp : tp P x g9 a b c ↔ sx_andL g9 (sx_xorL (sx_orL (sx_orL (fS P a) (if x ≤ 1 then 0 else fS P b)) (if x ≤ 2 then 0 else fS P c)) (-1)) = 0 := ⟨fun z9 => z9.2.2.2, fun z9 => ⟨by assumption, fun z8 => by first | assumption | omega, fun z8 => by first | assumption | omega, z9⟩⟩
                          rw [if_neg (by omega), if_pos (by omega)] at etp
                          have hyes : tp P x g9 a b c := etp.mpr (by assumption)
                          conv => whnf
                          refine ⟨(by first | assumption | rfl), ?_⟩
                          try simp (disch := omega) only [Int.cast_ofNat_Int, up_s, up_a, up_i, mp_a, mp_ge]
                          try simp only [r30]
                          try simp only [r80]
                          try simp only [r82]
                          try simp only [eka]
                          try simp only [ekb]
                          try simp only [ekc]
                          try simp only [hsa]
                          try simp only [esb]
                          try simp only [esc]
                          conv => whnf
                          refine ⟨(by first | assumption | rfl), ?_⟩
                          try simp (disch := omega) only [Int.cast_ofNat_Int, up_s, up_a, up_i, mp_a, mp_ge]
                          try simp only [r30]
                          try simp only [r80]
                          try simp only [r82]
                          try simp only [eka]
                          try simp only [ekb]
                          try simp only [ekc]
                          try simp only [hsa]
                          try simp only [esb]
                          try simp only [esc]
                          conv => whnf
                          refine ⟨sx_ixI (by first | assumption | rfl) (by omega) (by omega), ?_⟩
                          conv => whnf
                          refine ⟨(by first | assumption | rfl), ?_⟩
                          try simp (disch := omega) only [Int.cast_ofNat_Int, up_s, up_a, up_i, mp_a, mp_ge]
                          try simp only [r30]
                          try simp only [r80]
                          try simp only [r82]
                          try simp only [eka]
                          try simp only [ekb]
                          try simp only [ekc]
                          try simp only [hsa]
                          try simp only [esb]
                          try simp only [esc]
                          conv => whnf
                          refine ⟨sx_ixI (by first | assumption | rfl) (by omega) (by omega), ?_⟩
                          conv => whnf
                          refine ⟨(by first | assumption | rfl), ?_⟩
                          try simp (disch := omega) only [Int.cast_ofNat_Int, up_s, up_a, up_i, mp_a, mp_ge]
                          try simp only [r30]
                          try simp only [r80]
                          try simp only [r82]
                          try simp only [eka]
                          try simp only [ekb]
                          try simp only [ekc]
                          try simp only [hsa]
                          try simp only [esb]
                          try simp only [esc]
                          conv => whnf
                          refine ⟨sx_ixI (by first | assumption | rfl) (by omega) (by omega), ?_⟩
                          conv => whnf
                          refine ⟨rfl, ?_⟩
                          refine h1 a b c ⟨⟨ha0, by omega, by omega, by omega, by omega, by omega, hyes⟩, hna, hnb, hnc⟩
                        · simp only [sx_cc, Classical.not_not] at g
                          try simp only [cmp_eq, cmp_lt, cmp_ge, Classical.not_not] at g
                          have etp : tp P x g9 a b c ↔ sx_andL g9 (sx_xorL (sx_orL (sx_orL (fS P a) (if x ≤ 1 then 0 else fS P b)) (if x ≤ 2 then 0 else fS P c)) (-1)) = 0 := ⟨fun z9 => z9.2.2.2, fun z9 => ⟨by assumption, fun z8 => by first | assumption | omega, fun z8 => by first | assumption | omega, z9⟩⟩
                          rw [if_neg (by omega), if_pos (by omega)] at etp
                          have hno : ¬ tp P x g9 a b c := fun z9 => absurd (etp.mp z9) (by assumption)
                          conv => whnf
                          refine ⟨⟨by omega, by omega⟩, ?_⟩
                          conv => whnf
                          refine ⟨_, ?_, Or.inr (Or.inr (⟨rfl, _, _, _, _, _, rfl, rfl, ?_, rfl⟩))⟩
                          · omega
                          · refine ⟨rfl, ha0, ha1, hb0, hb1, by omega, by omega, hna, hnb, fun k y0 y1 => ?_⟩
                            by_cases e9 : k = c
                            · subst e9; exact hno
                            · exact hnc k y0 (by omega)
                      · simp only [sx_cc, Classical.not_not] at g
                        have esc := hsc (by omega)
                        conv => whnf
                        refine ⟨(by first | assumption | rfl), ?_⟩
                        try simp (disch := omega) only [Int.cast_ofNat_Int, up_s, up_a, up_i, mp_a, mp_ge]
                        try simp only [r30]
                        try simp only [r80]
                        try simp only [r82]
                        try simp only [eka]
                        try simp only [ekb]
                        try simp only [ekc]
                        try simp only [hsa]
                        try simp only [esb]
                        try simp only [esc]
                        conv => whnf
                        refine ⟨sx_ixI (by first | assumption | rfl) (by omega) (by omega), ?_⟩
                        try simp (disch := omega) only [Int.cast_ofNat_Int, up_s, up_a, up_i, mp_a, mp_ge]
                        try simp only [r30]
                        try simp only [r80]
                        try simp only [r82]
                        try simp only [eka]
                        try simp only [ekb]
                        try simp only [ekc]
                        try simp only [hsa]
                        try simp only [esb]
                        try simp only [esc]
                        conv => whnf
                        refine ⟨fun g => ?_, fun g => ?_⟩
                        · simp only [sx_cc, Classical.not_not] at g
                          try simp only [cmp_eq, cmp_lt, cmp_ge, Classical.not_not] at g
                          have etp : tp P x g9 a b c ↔ sx_andL g9 (sx_xorL (sx_orL (sx_orL (fS P a) (if x ≤ 1 then 0 else fS P b)) (if x ≤ 2 then 0 else fS P c)) (-1)) = 0 := ⟨fun z9 => z9.2.2.2, fun z9 => ⟨by assumption, fun z8 => by first | assumption | omega, fun z8 => by first | assumption | omega, z9⟩⟩
                          rw [if_neg (by omega), if_neg (by omega)] at etp
                          have hyes : tp P x g9 a b c := etp.mpr (by assumption)
                          conv => whnf
                          refine ⟨(by first | assumption | rfl), ?_⟩
                          try simp (disch := omega) only [Int.cast_ofNat_Int, up_s, up_a, up_i, mp_a, mp_ge]
                          try simp only [r30]
                          try simp only [r80]
                          try simp only [r82]
                          try simp only [eka]
                          try simp only [ekb]
                          try simp only [ekc]
                          try simp only [hsa]
                          try simp only [esb]
                          try simp only [esc]
                          conv => whnf
                          refine ⟨(by first | assumption | rfl), ?_⟩
                          try simp (disch := omega) only [Int.cast_ofNat_Int, up_s, up_a, up_i, mp_a, mp_ge]
                          try simp only [r30]
                          try simp only [r80]
                          try simp only [r82]
                          try simp only [eka]
                          try simp only [ekb]
                          try simp only [ekc]
                          try simp only [hsa]
                          try simp only [esb]
                          try simp only [esc]
                          conv => whnf
                          refine ⟨sx_ixI (by first | assumption | rfl) (by omega) (by omega), ?_⟩
                          conv => whnf
                          refine ⟨(by first | assumption | rfl), ?_⟩
                          try simp (disch := omega) only [Int.cast_ofNat_Int, up_s, up_a, up_i, mp_a, mp_ge]
                          try simp only [r30]
                          try simp only [r80]
                          try simp only [r82]
                          try simp only [eka]
                          try simp only [ekb]
                          try simp only [ekc]
                          try simp only [hsa]
                          try simp only [esb]
                          try simp only [esc]
                          conv => whnf
                          refine ⟨sx_ixI (by first | assumption | rfl) (by omega) (by omega), ?_⟩
                          conv => whnf
                          refine ⟨(by first | assumption | rfl), ?_⟩
                          try simp (disch := omega) only [Int.cast_ofNat_Int, up_s, up_a, up_i, mp_a, mp_ge]
                          try simp only [r30]
                          try simp only [r80]
                          try simp only [r82]
                          try simp only [eka]
                          try simp only [ekb]
                          try simp only [ekc]
                          try simp only [hsa]
                          try simp only [esb]
                          try simp only [esc]
                          conv => whnf
                          refine ⟨sx_ixI (by first | assumption | rfl) (by omega) (by omega), ?_⟩
                          conv => whnf
                          refine ⟨rfl, ?_⟩
                          refine h1 a b c ⟨⟨ha0, by omega, by omega, by omega, by omega, by omega, hyes⟩, hna, hnb, hnc⟩
                        · simp only [sx_cc, Classical.not_not] at g
                          try simp only [cmp_eq, cmp_lt, cmp_ge, Classical.not_not] at g
                          have etp : tp P x g9 a b c ↔ sx_andL g9 (sx_xorL (sx_orL (sx_orL (fS P a) (if x ≤ 1 then 0 else fS P b)) (if x ≤ 2 then 0 else fS P c)) (-1)) = 0 := ⟨fun z9 => z9.2.2.2, fun z9 => ⟨by assumption, fun z8 => by first | assumption | omega, fun z8 => by first | assumption | omega, z9⟩⟩
                          rw [if_neg (by omega), if_neg (by omega)] at etp
                          have hno : ¬ tp P x g9 a b c := fun z9 => absurd (etp.mp z9) (by assumption)
                          conv => whnf
                          refine ⟨⟨by omega, by omega⟩, ?_⟩
                          conv => whnf
                          refine ⟨_, ?_, Or.inr (Or.inr (⟨rfl, _, _, _, _, _, rfl, rfl, ?_, rfl⟩))⟩
                          · omega
                          · refine ⟨rfl, ha0, ha1, hb0, hb1, by omega, by omega, hna, hnb, fun k y0 y1 => ?_⟩
                            by_cases e9 : k = c
                            · subst e9; exact hno
                            · exact hnc k y0 (by omega)
                  · simp only [sx_cc, Classical.not_not] at g
                    have hno : ¬ tp P x g9 a b c := fun z9 => z9.2.2.1 (by omega) (by assumption)
                    conv => whnf
                    refine ⟨⟨by omega, by omega⟩, ?_⟩
                    conv => whnf
                    refine ⟨_, ?_, Or.inr (Or.inr (⟨rfl, _, _, _, _, _, rfl, rfl, ?_, rfl⟩))⟩
                    · omega
                    · refine ⟨rfl, ha0, ha1, hb0, hb1, by omega, by omega, hna, hnb, fun k y0 y1 => ?_⟩
                      by_cases e9 : k = c
                      · subst e9; exact hno
                      · exact hnc k y0 (by omega)
      · simp only [sx_cc, Classical.not_not] at g
        conv => whnf
        refine ⟨Nat.le_of_ble_eq_true rfl, Nat.le_of_ble_eq_true rfl, (by first | assumption | rfl), ?_⟩
        refine c_Rcells (gp.rd wp) ?_
        rw [gp.w, gp.h]
        conv => whnf
        refine ⟨fun g => ?_, fun g => ?_⟩
        · simp only [sx_cc, Classical.not_not] at g
          conv => whnf
          refine ⟨⟨by omega, by omega⟩, ?_⟩
          conv => whnf
          refine ⟨_, ?_, Or.inr (Or.inl ⟨rfl, _, _, _, _, _, rfl, rfl, ?_, rfl⟩)⟩
          · omega
          · refine ⟨rfl, ha0, ha1, by omega, by omega, hna, fun j k y0 y1 y2 y3 => ?_⟩
            by_cases e9 : j = b
            · subst e9; exact hnc k y2 (by omega)
            · exact hnb j k y0 (by omega) y2 y3
        · simp only [sx_cc, Classical.not_not] at g
          have eka := gp.ki a ha0 (by omega)
          have hsa := hs a ha0 (by omega)
          have ekb := gp.ki b (by omega) (by omega)
          have ekc := gp.ki c (by omega) (by omega)
          have hsb : 1 < x → σ' 165 b = fS P b := fun z9 => hs b (by omega) (by omega)
          have hsc : 2 < x → σ' 165 c = fS P c := fun z9 => hs c (by omega) (by omega)
          conv => whnf
          refine ⟨(by first | assumption | rfl), ?_⟩
          try simp (disch := omega) only [Int.cast_ofNat_Int, up_s, up_a, up_i, mp_a, mp_ge]
          try simp only [r30]
          try simp only [r80]
          try simp only [r82]
          try simp only [eka]
          try simp only [ekb]
          try simp only [ekc]
          try simp only [hsa]
          try simp only [esb]
          try simp only [esc]
          conv => whnf
          refine ⟨sx_ixI (by first | assumption | rfl) (by omega) (by omega), ?_⟩
          try simp (disch := omega) only [Int.cast_ofNat_Int, up_s, up_a, up_i, mp_a, mp_ge]
          try simp only [r30]
          try simp only [r80]
          try simp only [r82]
          try simp only [eka]
          try simp only [ekb]
          try simp only [ekc]
          try simp only [hsa]
          try simp only [esb]
          try simp only [esc]
          conv => whnf
          refine ⟨fun g => ?_, fun g => ?_⟩
          · simp only [sx_cc, Classical.not_not] at g
            have hno : ¬ tp P x g9 a b c := fun z9 => z9.1 (by assumption)
            conv => whnf
            refine ⟨⟨by omega, by omega⟩, ?_⟩
            conv => whnf
            refine ⟨_, ?_, Or.inr (Or.inr (⟨rfl, _, _, _, _, _, rfl, rfl, ?_, rfl⟩))⟩
            · omega
            · refine ⟨rfl, ha0, ha1, hb0, hb1, by omega, by omega, hna, hnb, fun k y0 y1 => ?_⟩
              by_cases e9 : k = c
              · subst e9; exact hno
              · exact hnc k y0 (by omega)
          · simp only [sx_cc, Classical.not_not] at g
            conv => whnf
            refine ⟨fun g => ?_, fun g => ?_⟩
            · simp only [sx_cc, Classical.not_not] at g
              conv => whnf
              refine ⟨fun g => ?_, fun g => ?_⟩
              · simp only [sx_cc, Classical.not_not] at g
                conv => whnf
                refine ⟨(by first | assumption | rfl), ?_⟩
                try simp (disch := omega) only [Int.cast_ofNat_Int, up_s, up_a, up_i, mp_a, mp_ge]
                try simp only [r30]
                try simp only [r80]
                try simp only [r82]
                try simp only [eka]
                try simp only [ekb]
                try simp only [ekc]
                try simp only [hsa]
                try simp only [esb]
                try simp only [esc]
                conv => whnf
                refine ⟨sx_ixI (by first | assumption | rfl) (by omega) (by omega), ?_⟩
                try simp (disch := omega) only [Int.cast_ofNat_Int, up_s, up_a, up_i, mp_a, mp_ge]
                try simp only [r30]
                try simp only [r80]
                try simp only [r82]
                try simp only [eka]
                try simp only [ekb]
                try simp only [ekc]
                try simp only [hsa]
                try simp only [esb]
                try simp only [esc]
                conv => whnf
                refine ⟨fun g => ?_, fun g => ?_⟩
                · simp only [sx_cc, Classical.not_not] at g
                  conv => whnf
                  refine ⟨fun g => ?_, fun g => ?_⟩
                  · simp only [sx_cc, Classical.not_not] at g
                    conv => whnf
                    refine ⟨fun g => ?_, fun g => ?_⟩
                    · simp only [sx_cc, Classical.not_not] at g
                      try simp only [cmp_eq, cmp_lt, cmp_ge, Classical.not_not] at g
                      have etp : tp P x g9 a b c ↔ sx_andL g9 (sx_xorL (sx_orL (sx_orL (fS P a) (if x ≤ 1 then 0 else fS P b)) (if x ≤ 2 then 0 else fS P c)) (-1)) = 0 := ⟨fun z9 => z9.2.2.2, fun z9 => ⟨by assumption, fun z8 => by first | assumption | omega, fun z8 => by first | assumption | omega, z9⟩⟩
                      rw [if_pos (by omega), if_pos (by omega)] at etp
                      have hyes : tp P x g9 a b c := etp.mpr (by assumption)
                      conv => whnf
                      refine ⟨(by first | assumption | rfl), ?_⟩
                      try simp (disch := omega) only [Int.cast_ofNat_Int, up_s, up_a, up_i, mp_a, mp_ge]
                      try simp only [r30]
                      try simp only [r80]
                      try simp only [r82]
                      try simp only [eka]
                      try simp only [ekb]
                      try simp only [ekc]
                      try simp only [hsa]
                      try simp only [esb]
                      try simp only [esc]
                      conv => whnf
                      refine ⟨(by first | assumption | rfl), ?_⟩
                      try simp (disch := omega) only [Int.cast_ofNat_Int, up_s, up_a, up_i, mp_a, mp_ge]
                      try simp only [r30]
                      try simp only [r80]
                      try simp only [r82]
                      try simp only [eka]
                      try simp only [ekb]
                      try simp only [ekc]
                      try simp only [hsa]
                      try simp only [esb]
                      try simp only [esc]
                      conv => whnf
                      refine ⟨sx_ixI (by first | assumption | rfl) (by omega) (by omega), ?_⟩
                      conv => whnf
                      refine ⟨(by first | assumption | rfl), ?_⟩
                      try simp (disch := omega) only [Int.cast_ofNat_Int, up_s, up_a, up_i, mp_a, mp_ge]
                      try simp only [r30]
                      try simp only [r80]
                      try simp only [r82]
                      try simp only [eka]
                      try simp only [ekb]
                      try simp only [ekc]
                      try simp only [hsa]
                      try simp only [esb]
                      try simp only [esc]
                      conv => whnf
                      refine ⟨sx_ixI (by first | assumption | rfl) (by omega) (by omega), ?_⟩
                      conv => whnf
                      refine ⟨(by first | assumption | rfl), ?_⟩
                      try simp (disch := omega) only [Int.cast_ofNat_Int, up_s, up_a, up_i, mp_a, mp_ge]
                      try simp only [r30]
                      try simp only [r80]
                      try simp only [r82]
                      try simp only [eka]
                      try simp only [ekb]
                      try simp only [ekc]
                      try simp only [hsa]
                      try simp only [esb]
                      try simp only [esc]
                      conv => whnf
                      refine ⟨sx_ixI (by first | assumption | rfl) (by omega) (by omega), ?_⟩
                      conv => whnf
                      refine ⟨rfl, ?_⟩
                      refine h1 a b c ⟨⟨ha0, by omega, by omega, by omega, by omega, by omega, hyes⟩, hna, hnb, hnc⟩
                    · simp only [sx_cc, Classical.not_not] at g
                      try simp only [cmp_eq, cmp_lt, cmp_ge, Classical.not_not] at g
                      have etp : tp P x g9 a b c ↔ sx_andL g9 (sx_xorL (sx_orL (sx_orL (fS P a) (if x ≤ 1 then 0 else fS P b)) (if x ≤ 2 then 0 else fS P c)) (-1)) = 0 := ⟨fun z9 => z9.2.2.2, fun z9 => ⟨by assumption, fun z8 => by first | assumption | omega, fun z8 => by first | assumption | omega, z9⟩⟩
                      rw [if_pos (by omega), if_pos (by omega)] at etp
                      have hno : ¬ tp P x g9 a b c := fun z9 => absurd (etp.mp z9) (by assumption)
                      conv => whnf
                      refine ⟨⟨by omega, by omega⟩, ?_⟩
                      conv => whnf
                      refine ⟨_, ?_, Or.inr (Or.inr (⟨rfl, _, _, _, _, _, rfl, rfl, ?_, rfl⟩))⟩
                      · omega
                      · refine ⟨rfl, ha0, ha1, hb0, hb1, by omega, by omega, hna, hnb, fun k y0 y1 => ?_⟩
                        by_cases e9 : k = c
                        · subst e9; exact hno
                        · exact hnc k y0 (by omega)
                  · simp only [sx_cc, Classical.not_not] at g
                    have esc := hsc (by omega)
                    conv => whnf
                    refine ⟨(by first | assumption | rfl), ?_⟩
                    try simp (disch := omega) only [Int.cast_ofNat_Int, up_s, up_a, up_i, mp_a, mp_ge]
                    try simp only [r30]
                    try simp only [r80]
                    try simp only [r82]
                    try simp only [eka]
                    try simp only [ekb]
                    try simp only [ekc]
                    try simp only [hsa]
                    try simp only [esb]
                    try simp only [esc]
                    conv => whnf
                    refine ⟨sx_ixI (by first | assumption | rfl) (by omega) (by omega), ?_⟩
                    try simp (disch := omega) only [Int.cast_ofNat_Int, up_s, up_a, up_i, mp_a, mp_ge]
                    try simp only [r30]
                    try simp only [r80]
                    try simp only [r82]
                    try simp only [eka]
                    try simp only [ekb]
                    try simp only [ekc]
                    try simp only [hsa]
                    try simp only [esb]
                    try simp only [esc]
                    conv => whnf
                    refine ⟨fun g => ?_, fun g => ?_⟩
                    · simp only [sx_cc, Classical.not_not] at g
                      try simp only [cmp_eq, cmp_lt, cmp_ge, Classical.not_not] at g
                      have etp : tp P x g9 a b c ↔ sx_andL g9 (sx_xorL (sx_orL (sx_orL (fS P a) (if x ≤ 1 then 0 else fS P b)) (if x ≤ 2 then 0 else fS P c)) (-1)) = 0 := ⟨fun z9 => z9.2.2.2, fun z9 => ⟨by assumption, fun z8 => by first | assumption | omega, fun z8 => by first | assumption | omega, z9⟩⟩
                      rw [if_pos (by omega), if_neg (by omega)] at etp
                      have hyes : tp P x g9 a b c := etp.mpr (by assumption)
                      conv => whnf
                      refine ⟨(by first | assumption | rfl), ?_⟩
                      try simp (disch := omega) only [Int.cast_ofNat_Int, up_s, up_a, up_i, mp_a, mp_ge]
                      try simp only [r30]
                      try simp only [r80]
                      try simp only [r82]
                      try simp only [eka]
                      try simp only [ekb]
                      try simp only [ekc]
                      try simp only [hsa]
                      try simp only [esb]
                      try simp only [esc]
                      conv => whnf
                      refine ⟨(by first | assumption | rfl), ?_⟩
                      try simp (disch := omega) only [Int.cast_ofNat_Int, up_s, up_a, up_i, mp_a, mp_ge]
                      try simp only [r30]
                      try simp only [r80]
                      try simp only [r82]
                      try simp only [eka]
                      try simp only [ekb]
                      try simp only [ekc]
                      try simp only [hsa]
                      try simp only [esb]
                      try simp only [esc]
                      conv => whnf
                      refine ⟨sx_ixI (by first | assumption | rfl) (by omega) (by omega), ?_⟩
                      conv => whnf
                      refine ⟨(by first | assumption | rfl), ?_⟩
                      try simp (disch := omega) only [Int.cast_ofNat_Int, up_s, up_a, up_i, mp_a, mp_ge]
                      try simp only [r30]
                      try simp only [r80]
                      try simp only [r82]
                      try simp only [eka]
                      try simp only [ekb]
                      try simp only [ekc]
                      try simp only [hsa]
                      try simp only [esb]
                      try simp only [esc]
                      conv => whnf
                      refine ⟨sx_ixI (by first | assumption | rfl) (by omega) (by omega), ?_⟩
                      conv => whnf
                      refine ⟨(by first | assumption | rfl), ?_⟩
                      try simp (disch := omega) only [Int.cast_ofNat_Int, up_s, up_a, up_i, mp_a, mp_ge]
                      try simp only [r30]
                      try simp only [r80]
                      try simp only [r82]
                      try simp only [eka]
                      try simp only [ekb]
                      try simp only [ekc]
                      try simp only [hsa]
                      try simp only [esb]
                      try simp only [esc]
                      conv => whnf
                      refine ⟨sx_ixI (by first | assumption | rfl) (by omega) (by omega), ?_⟩
                      conv => whnf
                      refine ⟨rfl, ?_⟩
                      refine h1 a b c ⟨⟨ha0, by omega, by omega, by omega, by omega, by omega, hyes⟩, hna, hnb, hnc⟩
                    · simp only [sx_cc, Classical.not_not] at g
                      try simp only [cmp_eq, cmp_lt, cmp_ge, Classical.not_not] at g
                      have etp : tp P x g9 a b c ↔ sx_andL g9 (sx_xorL (sx_orL (sx_orL (fS P a) (if x ≤ 1 then 0 else fS P b)) (if x ≤ 2 then 0 else fS P c)) (-1)) = 0 := ⟨fun z9 => z9.2.2.2, fun z9 => ⟨by assumption, fun z8 => by first | assumption | omega, fun z8 => by first | assumption | omega, z9⟩⟩
                      rw [if_pos (by omega), if_neg (by omega)] at etp
                      have hno : ¬ tp P x g9 a b c := fun z9 => absurd (etp.mp z9) (by assumption)
                      conv => whnf
                      refine ⟨⟨by omega, by omega⟩, ?_⟩
                      conv => whnf
                      refine ⟨_, ?_, Or.inr (Or.inr (⟨rfl, _, _, _, _, _, rfl, rfl, ?_, rfl⟩))⟩
                      · omega
                      · refine ⟨rfl, ha0, ha1, hb0, hb1, by omega, by omega, hna, hnb, fun k y0 y1 => ?_⟩
                        by_cases e9 : k = c
                        · subst e9; exact hno
                        · exact hnc k y0 (by omega)
                · simp only [sx_cc, Classical.not_not] at g
                  have esb := hsb (by omega)
                  conv => whnf
                  refine ⟨(by first | assumption | rfl), ?_⟩
                  try simp (disch := omega) only [Int.cast_ofNat_Int, up_s, up_a, up_i, mp_a, mp_ge]
                  try simp only [r30]
                  try simp only [r80]
                  try simp only [r82]
                  try simp only [eka]
                  try simp only [ekb]
                  try simp only [ekc]
                  try simp only [hsa]
                  try simp only [esb]
                  try simp only [esc]
                  conv => whnf
                  refine ⟨sx_ixI (by first | assumption | rfl) (by omega) (by omega), ?_⟩
                  try simp (disch := omega) only [Int.cast_ofNat_Int, up_s, up_a, up_i, mp_a, mp_ge]
                  try simp only [r30]
                  try simp only [r80]
                  try simp only [r82]
                  try simp only [eka]
                  try simp only [ekb]
                  try simp only [ekc]
                  try simp only [hsa]
                  try simp only [esb]
                  try simp only [esc]
                  conv => whnf
                  refine ⟨fun g => ?_, fun g => ?_⟩
                  · simp only [sx_cc, Classical.not_not] at g
                    conv => whnf
                    refine ⟨fun g => ?_, fun g => ?_⟩
                    · simp only [sx_cc, Classical.not_not] at g
                      try simp only [cmp_eq, cmp_lt, cmp_ge, Classical.not_not] at g
                      have etp : tp P x g9 a b c ↔ sx_andL g9 (sx_xorL (sx_orL (sx_orL (fS P a) (if x ≤ 1 then 0 else fS P b)) (if x ≤ 2 then 0 else fS P c)) (-1)) = 0 := ⟨fun z9 => z9.2.2.2, fun z9 => ⟨by assumption, fun z8 => by first | assumption | omega, fun z8 => by first | assumption | omega, z9⟩⟩
                      rw [if_neg (by omega), if_pos (by omega)] at etp
                      have hyes : tp P x g9 a b c := etp.mpr (by assumption)
                      conv => whnf
                      refine ⟨(by first | assumption | rfl), ?_⟩
                      try simp (disch := omega) only [Int.cast_ofNat_Int, up_s, up_a, up_i, mp_a, mp_ge]
                      try simp only [r30]
                      try simp only [r80]
                      try simp only [r82]
                      try simp only [eka]
                      try simp only [ekb]
                      try simp only [ekc]
                      try simp only [hsa]
                      try simp only [esb]
                      try simp only [esc]
                      conv => whnf
                      refine ⟨(by first | assumption | rfl), ?_⟩
                      try simp (disch := omega) only [Int.cast_ofNat_Int, up_s, up_a, up_i, mp_a, mp_ge]
                      try simp only [r30]
                      try simp only [r80]
                      try simp only [r82]
                      try simp only [eka]
                      try simp only [ekb]
                      try simp only [ekc]
                      try simp only [hsa]
                      try simp only [esb]
                      try simp only [esc]
                      conv => whnf
                      refine ⟨sx_ixI (by first | assumption | rfl) (by omega) (by omega), ?_⟩
                      conv => whnf
                      refine ⟨(by first | assumption | rfl), ?_⟩
                      try simp (disch := omega) only [Int.cast_ofNat_Int, up_s, up_a, up_i, mp_a, mp_ge]
                      try simp only [r30]
                      try simp only [r80]
                      try simp only [r82]
                      try simp only [eka]
                      try simp only [ekb]
                      try simp only [ekc]
                      try simp only [hsa]
                      try simp only [esb]
                      try simp only [esc]
                      conv => whnf
                      refine ⟨sx_ixI (by first | assumption | rfl) (by omega) (by omega), ?_⟩
                      conv => whnf
                      refine ⟨(by first | assumption | rfl), ?_⟩
                      try simp (disch := omega) only [Int.cast_ofNat_Int, up_s, up_a, up_i, mp_a, mp_ge]
                      try simp only [r30]
                      try simp only [r80]
                      try simp only [r82]
                      try simp only [eka]
                      try simp only [ekb]
                      try simp only [ekc]
                      try simp only [hsa]
                      try simp only [esb]
                      try simp only [esc]
                      conv => whnf
                      refine ⟨sx_ixI (by first | assumption | rfl) (by omega) (by omega), ?_⟩
                      conv => whnf
                      refine ⟨rfl, ?_⟩
                      refine h1 a b c ⟨⟨ha0, by omega, by omega, by omega, by omega, by omega, hyes⟩, hna, hnb, hnc⟩
                    · simp only [sx_cc, Classical.not_not] at g
                      try simp only [cmp_eq, cmp_lt, cmp_ge, Classical.not_not] at g
                      have etp : tp P x g9 a b c ↔ sx_andL g9 (sx_xorL (sx_orL (sx_orL (fS P a) (if x ≤ 1 then 0 else fS P b)) (if x ≤ 2 then 0 else fS P c)) (-1)) = 0 := ⟨fun z9 => z9.2.2.2, fun z9 => ⟨by assumption, fun z8 => by first | assumption | omega, fun z8 => by first | assumption | omega, z9⟩⟩
                      rw [if_neg (by omega), if_pos (by omega)] at etp
                      have hno : ¬ tp P x g9 a b c := fun z9 => absurd (etp.mp z9) (by assumption)
                      conv => whnf
                      refine ⟨⟨by omega, by omega⟩, ?_⟩
                      conv => whnf
                      refine ⟨_, ?_, Or.inr (Or.inr (⟨rfl, _, _, _, _, _, rfl, rfl, ?_, rfl⟩))⟩
                      · omega
                      · refine ⟨rfl, ha0, ha1, hb0, hb1, by omega, by omega, hna, hnb, fun k y0 y1 => ?_⟩
                        by_cases e9 : k = c
                        · subst e9; exact hno
                        · exact hnc k y0 (by omega)
                  · simp only [sx_cc, Classical.not_not] at g
                    have esc := hsc (by omega)
                    conv => whnf
                    refine ⟨(by first | assumption | rfl), ?_⟩
                    try simp (disch := omega) only [Int.cast_ofNat_Int, up_s, up_a, up_i, mp_a, mp_ge]
                    try simp only [r30]
                    try simp only [r80]
                    try simp only [r82]
                    try simp only [eka]
                    try simp only [ekb]
                    try simp only [ekc]
                    try simp only [hsa]
                    try simp only [esb]
                    try simp only [esc]
                    conv => whnf
                    refine ⟨sx_ixI (by first | assumption | rfl) (by omega) (by omega), ?_⟩
                    try simp (disch := omega) only [Int.cast_ofNat_Int, up_s, up_a, up_i, mp_a, mp_ge]
                    try simp only [r30]
                    try simp only [r80]
                    try simp only [r82]
                    try simp only [eka]
                    try simp only [ekb]
                    try simp only [ekc]
                    try simp only [hsa]
                    try simp only [esb]
                    try simp only [esc]
                    conv => whnf
                    refine ⟨fun g => ?_, fun g => ?_⟩
                    · simp only [sx_cc, Classical.not_not] at g
                      try simp only [cmp_eq, cmp_lt, cmp_ge, Classical.not_not] at g
                      have etp : tp P x g9 a b c ↔ sx_andL g9 (sx_xorL (sx_orL (sx_orL (fS P a) (if x ≤ 1 then 0 else fS P b)) (if x ≤ 2 then 0 else fS P c)) (-1)) = 0 := ⟨fun z9 => z9.2.2.2, fun z9 => ⟨by assumption, fun z8 => by first | assumption | omega, fun z8 => by first | assumption | omega, z9⟩⟩
                      rw [if_neg (by omega), if_neg (by omega)] at etp
                      have hyes : tp P x g9 a b c := etp.mpr (by assumption)
                      conv => whnf
                      refine ⟨(by first | assumption | rfl), ?_⟩
                      try simp (disch := omega) only [Int.cast_ofNat_Int, up_s, up_a, up_i, mp_a, mp_ge]
                      try simp only [r30]
                      try simp only [r80]
                      try simp only [r82]
                      try simp only [eka]
                      try simp only [ekb]
                      try simp only [ekc]
                      try simp only [hsa]
                      try simp only [esb]
                      try simp only [esc]
                      conv => whnf
                      refine ⟨(by first | assumption | rfl), ?_⟩
                      try simp (disch := omega) only [Int.cast_ofNat_Int, up_s, up_a, up_i, mp_a, mp_ge]
                      try simp only [r30]
                      try simp only [r80]
                      try simp only [r82]
                      try simp only [eka]
                      try simp only [ekb]
                      try simp only [ekc]
                      try simp only [hsa]
                      try simp only [esb]
                      try simp only [esc]
                      conv => whnf
                      refine ⟨sx_ixI (by first | assumption | rfl) (by omega) (by omega), ?_⟩
                      conv => whnf
                      refine ⟨(by first | assumption | rfl), ?_⟩
                      try simp (disch := omega) only [Int.cast_ofNat_Int, up_s, up_a, up_i, mp_a, mp_ge]
                      try simp only [r30]
                      try simp only [r80]
                      try simp only [r82]
                      try simp only [eka]
                      try simp only [ekb]
                      try simp only [ekc]
                      try simp only [hsa]
                      try simp only [esb]
                      try simp only [esc]
                      conv => whnf
                      refine ⟨sx_ixI (by first | assumption | rfl) (by omega) (by omega), ?_⟩
                      conv => whnf
                      refine ⟨(by first | assumption | rfl), ?_⟩
                      try simp (disch := omega) only [Int.cast_ofNat_Int, up_s, up_a, up_i, mp_a, mp_ge]
                      try simp only [r30]
                      try simp only [r80]
                      try simp only [r82]
                      try simp only [eka]
                      try simp only [ekb]
                      try simp only [ekc]
                      try simp only [hsa]
                      try simp only [esb]
                      try simp only [esc]
                      conv => whnf
                      refine ⟨sx_ixI (by first | assumption | rfl) (by omega) (by omega), ?_⟩
                      conv => whnf
                      refine ⟨rfl, ?_⟩
                      refine h1 a b c ⟨⟨ha0, by omega, by omega, by omega, by omega, by omega, hyes⟩, hna, hnb, hnc⟩
                    · simp only [sx_cc, Classical.not_not] at g
                      try simp only [cmp_eq, cmp_lt, cmp_ge, Classical.not_not] at g
                      have etp : tp P x g9 a b c ↔ sx_andL g9 (sx_xorL (sx_orL (sx_orL (fS P a) (if x ≤ 1 then 0 else fS P b)) (if x ≤ 2 then 0 else fS P c)) (-1)) = 0 := ⟨fun z9 => z9.2.2.2, fun z9 => ⟨by assumption, fun z8 => by first | assumption | omega, fun z8 => by first | assumption | omega, z9⟩⟩
                      rw [if_neg (by omega), if_neg (by omega)] at etp
                      have hno : ¬ tp P x g9 a b c := fun z9 => absurd (etp.mp z9) (by assumption)
                      conv => whnf
                      refine ⟨⟨by omega, by omega⟩, ?_⟩
                      conv => whnf
                      refine ⟨_, ?_, Or.inr (Or.inr (⟨rfl, _, _, _, _, _, rfl, rfl, ?_, rfl⟩))⟩
                      · omega
                      · refine ⟨rfl, ha0, ha1, hb0, hb1, by omega, by omega, hna, hnb, fun k y0 y1 => ?_⟩
                        by_cases e9 : k = c
                        · subst e9; exact hno
                        · exact hnc k y0 (by omega)
              · simp only [sx_cc, Classical.not_not] at g
                conv => whnf
                refine ⟨(by first | assumption | rfl), ?_⟩
                try simp (disch := omega) only [Int.cast_ofNat_Int, up_s, up_a, up_i, mp_a, mp_ge]
                try simp only [r30]
                try simp only [r80]
                try simp only [r82]
                try simp only [eka]
                try simp only [ekb]
                try simp only [ekc]
                try simp only [hsa]
                try simp only [esb]
                try simp only [esc]
                conv => whnf
                refine ⟨sx_ixI (by first | assumption | rfl) (by omega) (by omega), ?_⟩
                try simp (disch := omega) only [Int.cast_ofNat_Int, up_s, up_a, up_i, mp_a, mp_ge]
                try simp only [r30]
                try simp only [r80]
                try simp only [r82]
                try simp only [eka]
                try simp only [ekb]
                try simp only [ekc]
                try simp only [hsa]
                try simp only [esb]
                try simp only [esc]
                conv => whnf
                refine ⟨fun g => ?_, fun g => ?_⟩
                · simp only [sx_cc, Classical.not_not] at g
                  conv => whnf
                  refine ⟨(by first | assumption | rfl), ?_⟩
                  try simp (disch := omega) only [Int.cast_ofNat_Int, up_s, up_a, up_i, mp_a, mp_ge]
                  try simp only [r30]
                  try simp only [r80]
                  try simp only [r82]
                  try simp only [eka]
                  try simp only [ekb]
                  try simp only [ekc]
                  try simp only [hsa]
                  try simp only [esb]
                  try simp only [esc]
                  conv => whnf
                  refine ⟨sx_ixI (by first | assumption | rfl) (by omega) (by omega), ?_⟩
                  try simp (disch := omega) only [Int.cast_ofNat_Int, up_s, up_a, up_i, mp_a, mp_ge]
                  try simp only [r30]
                  try simp only [r80]
                  try simp only [r82]
                  try simp only [eka]
                  try simp only [ekb]
                  try simp only [ekc]
                  try simp only [hsa]
                  try simp only [esb]
                  try simp only [esc]
                  conv => whnf
                  refine ⟨fun g => ?_, fun g => ?_⟩
                  · simp only [sx_cc, Classical.not_not] at g
                    conv => whnf
                    refine ⟨fun g => ?_, fun g => ?_⟩
                    · simp only [sx_cc, Classical.not_not] at g
                      conv => whnf
                      refine ⟨fun g => ?_, fun g => ?_⟩
                      · simp only [sx_cc, Classical.not_not] at g
                        try simp only [cmp_eq, cmp_lt, cmp_ge, Classical.not_not] at g
                        have etp : tp P x g9 a b c ↔ sx_andL g9 (sx_xorL (sx_orL (sx_orL (fS P a) (if x ≤ 1 then 0 else fS P b)) (if x ≤ 2 then 0 else fS P c)) (-1)) = 0 := ⟨fun z9 => z9.2.2.2, fun z9 => ⟨by assumption, fun z8 => by first | assumption | omega, fun z8 => by first | assumption | omega, z9⟩⟩
                        rw [if_pos (by omega), if_pos (by omega)] at etp
                        have hyes : tp P x g9 a b c := etp.mpr (by assumption)
                        conv => whnf
                        refine ⟨(by first | assumption | rfl), ?_⟩
                        try simp (disch := omega) only [Int.cast_ofNat_Int, up_s, up_a, up_i, mp_a, mp_ge]
                        try simp only [r30]
                        try simp only [r80]
                        try simp only [r82]
                        try simp only [eka]
                        try simp only [ekb]
                        try simp only [ekc]
                        try simp only [hsa]
                        try simp only [esb]
                        try simp only [esc]
                        conv => whnf
                        refine ⟨(by first | assumption | rfl), ?_⟩
                        try simp (disch := omega) only [Int.cast_ofNat_Int, up_s, up_a, up_i, mp_a, mp_ge]
                        try simp only [r30]
                        try simp only [r80]
                        try simp only [r82]
                        try simp only [eka]
                        try simp only [ekb]
                        try simp only [ekc]
                        try simp only [hsa]
                        try simp only [esb]
                        try simp only [esc]
                        conv => whnf
                        refine ⟨sx_ixI (by first | assumption | rfl) (by omega) (by omega), ?_⟩
                        conv => whnf
                        refine ⟨(by first | assumption | rfl), ?_⟩
                        try simp (disch := omega) only [Int.cast_ofNat_Int, up_s, up_a, up_i, mp_a, mp_ge]
                        try simp only [r30]
                        try simp only [r80]
                        try simp only [r82]
                        try simp only [eka]
                        try simp only [ekb]
                        try simp only [ekc]
                        try simp only [hsa]
                        try simp only [esb]
                        try simp only [esc]
                        conv => whnf
                        refine ⟨sx_ixI (by first | assumption | rfl) (by omega) (by omega), ?_⟩
                        conv => whnf
                        refine ⟨(by first | assumption | rfl), ?_⟩
                        try simp (disch := omega) only [Int.cast_ofNat_Int, up_s, up_a, up_i, mp_a, mp_ge]
                        try simp only [r30]
                        try simp only [r80]
                        try simp only [r82]
                        try simp only [eka]
                        try simp only [ekb]
                        try simp only [ekc]
                        try simp only [hsa]
                        try simp only [esb]
                        try simp only [esc]
                        conv => whnf
                        refine ⟨sx_ixI (by first | assumption | rfl) (by omega) (by omega), ?_⟩
                        conv => whnf
                        refine ⟨rfl, ?_⟩
                        refine h1 a b c ⟨⟨ha0, by omega, by omega, by omega, by omega, by omega, hyes⟩, hna, hnb, hnc⟩
                      · simp only [sx_cc, Classical.not_not] at g
                        try simp only [cmp_eq, cmp_lt, cmp_ge, Classical.not_not] at g
                        have etp : tp P x g9 a b c ↔ sx_andL g9 (sx_xorL (sx_orL (sx_orL (fS P a) (if x ≤ 1 then 0 else fS P b)) (if x ≤ 2 then 0 else fS P c)) (-1)) = 0 := ⟨fun z9 => z9.2.2.2, fun z9 => ⟨by assumption, fun z8 => by first | assumption | omega, fun z8 => by first | assumption | omega, z9⟩⟩
                        rw [if_pos (by omega), if_pos (by omega)] at etp
                        have hno : ¬ tp P x g9 a b c := fun z9 => absurd (etp.mp z9) (by assumption)
                        conv => whnf
                        refine ⟨⟨by omega, by omega⟩, ?_⟩
                        conv => whnf
                        refine ⟨_, ?_, Or.inr (Or.inr (⟨rfl, _, _, _, _, _, rfl, rfl, ?_, rfl⟩))⟩
                        · omega
                        · refine ⟨rfl, ha0, ha1, hb0, hb1, by omega, by omega, hna, hnb, fun k y0 y1 => ?_⟩
                          by_cases e9 : k = c
                          · subst e9; exact hno
                          · exact hnc k y0 (by omega)
                    · simp only [sx_cc, Classical.not_not] at g
                      have esc := hsc (by omega)
                      conv => whnf
                      refine ⟨(by first | assumption | rfl), ?_⟩
                      try simp (disch := omega) only [Int.cast_ofNat_Int, up_s, up_a, up_i, mp_a, mp_ge]
                      try simp only [r30]
                      try simp only [r80]
                      try simp only [r82]
                      try simp only [eka]
                      try simp only [ekb]
                      try simp only [ekc]
                      try simp only [hsa]
                      try simp only [esb]
                      try simp only [esc]
                      conv => whnf
                      refine ⟨sx_ixI (by first | assumption | rfl) (by omega) (by omega), ?_⟩
                      try simp (disch := omega) only [Int.cast_ofNat_Int, up_s, up_a, up_i, mp_a, mp_ge]
                      try simp only [r30]
                      try simp only [r80]
                      try simp only [r82]
                      try simp only [eka]
                      try simp only [ekb]
                      try simp only [ekc]
                      try simp only [hsa]
                      try simp only [esb]
                      try simp only [esc]
                      conv => whnf
                      refine ⟨fun g => ?_, fun g => ?_⟩
                      · simp only [sx_cc, Classical.not_not] at g
                        try simp only [cmp_eq, cmp_lt, cmp_ge, Classical.not_not] at g
                        have etp : tp P x g9 a b c ↔ sx_andL g9 (sx_xorL (sx_orL (sx_orL (fS P a) (if x ≤ 1 then 0 else fS P b)) (if x ≤ 2 then 0 else fS P c)) (-1)) = 0 := ⟨fun z9 => z9.2.2.2, fun z9 => ⟨by assumption, fun z8 => by first | assumption | omega, fun z8 => by first | assumption | omega, z9⟩⟩
                        rw [if_pos (by omega), if_neg (by omega)] at etp
                        have hyes : tp P x g9 a b c := etp.mpr (by assumption)
                        conv => whnf
                        refine ⟨(by first | assumption | rfl), ?_⟩
                        try simp (disch := omega) only [Int.cast_ofNat_Int, up_s, up_a, up_i, mp_a, mp_ge]
                        try simp only [r30]
                        try simp only [r80]
                        try simp only [r82]
                        try simp only [eka]
                        try simp only [ekb]
                        try simp only [ekc]
                        try simp only [hsa]
                        try simp only [esb]
                        try simp only [esc]
                        conv => whnf
                        refine ⟨(by first | assumption | rfl), ?_⟩
                        try simp (disch := omega) only [Int.cast_ofNat_Int, up_s, up_a, up_i, mp_a, mp_ge]
                        try simp only [r30]
                        try simp only [r80]
                        try simp only [r82]
                        try simp only [eka]
                        try simp only [ekb]
                        try simp only [ekc]
                        try simp only [hsa]
                        try simp only [esb]
                        try simp only [esc]
                        conv => whnf
                        refine ⟨sx_ixI (by first | assumption | rfl) (by omega) (by omega), ?_⟩
                        conv => whnf
                        refine ⟨(by first | assumption | rfl), ?_⟩
                        try simp (disch := omega) only [Int.cast_ofNat_Int, up_s, up_a, up_i, mp_a, mp_ge]
                        try simp only [r30]
                        try simp only [r80]
                        try simp only [r82]
                        try simp only [eka]
                        try simp only [ekb]
                        try simp only [ekc]
                        try simp only [hsa]
                        try simp only [esb]
                        try simp only [esc]
                        conv => whnf
                        refine ⟨sx_ixI (by first | assumption | rfl) (by omega) (by omega), ?_⟩
                        conv => whnf
                        refine ⟨(by first | assumption | rfl), ?_⟩
                        try simp (disch := omega) only [Int.cast_ofNat_Int, up_s, up_a, up_i, mp_a, mp_ge]
                        try simp only [r30]
                        try simp only [r80]
                        try simp only [r82]
                        try simp only [eka]
                        try simp only [ekb]
                        try simp only [ekc]
                        try simp only [hsa]
                        try simp only [esb]
                        try simp only [esc]
                        conv => whnf
                        refine ⟨sx_ixI (by first | assumption | rfl) (by omega) (by omega), ?_⟩
                        conv => whnf
                        refine ⟨rfl, ?_⟩
                        refine h1 a b c ⟨⟨ha0, by omega, by omega, by omega, by omega, by omega, hyes⟩, hna, hnb, hnc⟩
                      · simp only [sx_cc, Classical.not_not] at g
                        try simp only [cmp_eq, cmp_lt, cmp_ge, Classical.not_not] at g
                        have etp : tp P x g9 a b c ↔ sx_andL g9 (sx_xorL (sx_orL (sx_orL (fS P a) (if x ≤ 1 then 0 else fS P b)) (if x ≤ 2 then 0 else fS P c)) (-1)) = 0 := ⟨fun z9 => z9.2.2.2, fun z9 => ⟨by assumption, fun z8 => by first | assumption | omega, fun z8 => by first | assumption | omega, z9⟩⟩
                        rw [if_pos (by omega), if_neg (by omega)] at etp
                        have hno : ¬ tp P x g9 a b c := fun z9 => absurd (etp.mp z9) (by assumption)
                        conv => whnf
                        refine ⟨⟨by omega, by omega⟩, ?_⟩
                        conv => whnf
                        refine ⟨_, ?_, Or.inr (Or.inr (⟨rfl, _, _, _, _, _, rfl, rfl, ?_, rfl⟩))⟩
                        · omega
                        · refine ⟨rfl, ha0, ha1, hb0, hb1, by omega, by omega, hna, hnb, fun k y0 y1 => ?_⟩
                          by_cases e9 : k = c
                          · subst e9; exact hno
                          · exact hnc k y0 (by omega)
                  · simp only [sx_cc, Classical.not_not] at g
                    have esb := hsb (by omega)
                    conv => whnf
                    refine ⟨(by first | assumption | rfl), ?_⟩
                    try simp (disch := omega) only [Int.cast_ofNat_Int, up_s, up_a, up_i, mp_a, mp_ge]
                    try simp only [r30]
                    try simp only [r80]
                    try simp only [r82]
                    try simp only [eka]
                    try simp only [ekb]
                    try simp only [ekc]
                    try simp only [hsa]
                    try simp only [esb]
                    try simp only [esc]
                    conv => whnf
                    refine ⟨sx_ixI (by first | assumption | rfl) (by omega) (by omega), ?_⟩
                    try simp (disch := omega) only [Int.cast_ofNat_Int, up_s, up_a, up_i, mp_a, mp_ge]
                    try simp only [r30]
                    try simp only [r80]
                    try simp only [r82]
                    try simp only [eka]
                    try simp only [ekb]
                    try simp only [ekc]
                    try simp only [hsa]
                    try simp only [esb]
                    try simp only [esc]
                    conv => whnf
                    refine ⟨fun g => ?_, fun g => ?_⟩
                    · simp only [sx_cc, Classical.not_not] at g
                      conv => whnf
                      refine ⟨fun g => ?_, fun g => ?_⟩
                      · simp only [sx_cc, Classical.not_not] at g
                        try simp only [cmp_eq, cmp_lt, cmp_ge, Classical.not_not] at g
                        have etp : tp P x g9 a b c ↔ sx_andL g9 (sx_xorL (sx_orL (sx_orL (fS P a) (if x ≤ 1 then 0 else fS P b)) (if x ≤ 2 then 0 else fS P c)) (-1)) = 0 := ⟨fun z9 => z9.2.2.2, fun z9 => ⟨by assumption, fun z8 => by first | assumption | omega, fun z8 => by first | assumption | omega, z9⟩⟩
                        rw [if_neg (by omega), if_pos (by omega)] at etp
                        have hyes : tp P x g9 a b c := etp.mpr (by assumption)
                        conv => whnf
                        refine ⟨(by first | assumption | rfl), ?_⟩
                        try simp (disch := omega) only [Int.cast_ofNat_Int, up_s, up_a, up_i, mp_a, mp_ge]
                        try simp only [r30]
                        try simp only [r80]
                        try simp only [r82]
                        try simp only [eka]
                        try simp only [ekb]
                        try simp only [ekc]
                        try simp only [hsa]
                        try simp only [esb]
                        try simp only [esc]
                        conv => whnf
                        refine ⟨(by first | assumption | rfl), ?_⟩
                        try simp (disch := omega) only [Int.cast_ofNat_Int, up_s, up_a, up_i, mp_a, mp_ge]
                        try simp only [r30]
                        try simp only [r80]
                        try simp only [r82]
                        try simp only [eka]
                        try simp only [ekb]
                        try simp only [ekc]
                        try simp only [hsa]
                        try simp only [esb]
                        try simp only [esc]
                        conv => whnf
                        refine ⟨sx_ixI (by first | assumption | rfl) (by omega) (by omega), ?_⟩
                        conv => whnf
                        refine ⟨(by first | assumption | rfl), ?_⟩
                        try simp (disch := omega) only [Int.cast_ofNat_Int, up_s, up_a, up_i, mp_a, mp_ge]
                        try simp only [r30]
                        try simp only [r80]
                        try simp only [r82]
                        try simp only [eka]
                        try simp only [ekb]
                        try simp only [ekc]
                        try simp only [hsa]
                        try simp only [esb]
                        try simp only [esc]
                        conv => whnf
                        refine ⟨sx_ixI (by first | assumption | rfl) (by omega) (by omega), ?_⟩
                        conv => whnf
                        refine ⟨(by first | assumption | rfl), ?_⟩
                        try simp (disch := omega) only [Int.cast_ofNat_Int, up_s, up_a, up_i, mp_a, mp_ge]
                        try simp only [r30]
                        try simp only [r80]
                        try simp only [r82]
                        try simp only [eka]
                        try simp only [ekb]
                        try simp only [ekc]
                        try simp only [hsa]
                        try simp only [esb]
                        try simp only [esc]
                        conv => whnf
                        refine ⟨sx_ixI (by first | assumption | rfl) (by omega) (by omega), ?_⟩
                        conv => whnf
                        refine ⟨rfl, ?_⟩
                        refine h1 a b c ⟨⟨ha0, by omega, by omega, by omega, by omega, by omega, hyes⟩, hna, hnb, hnc⟩
                      · simp only [sx_cc, Classical.not_not] at g
                        try simp only [cmp_eq, cmp_lt, cmp_ge, Classical.not_not] at g
                        have etp : tp P x g9 a b c ↔ sx_andL g9 (sx_xorL (sx_orL (sx_orL (fS P a) (if x ≤ 1 then 0 else fS P b)) (if x ≤ 2 then 0 else fS P c)) (-1)) = 0 := ⟨fun z9 => z9.2.2.2, fun z9 => ⟨by assumption, fun z8 => by first | assumption | omega, fun z8 => by first | assumption | omega, z9⟩⟩
                        rw [if_neg (by omega), if_pos (by omega)] at etp
                        have hno : ¬ tp P x g9 a b c := fun z9 => absurd (etp.mp z9) (by assumption)
                        conv => whnf
                        refine ⟨⟨by omega, by omega⟩, ?_⟩
                        conv => whnf
                        refine ⟨_, ?_, Or.inr (Or.inr (⟨rfl, _, _, _, _, _, rfl, rfl, ?_, rfl⟩))⟩
                        · omega
                        · refine ⟨rfl, ha0, ha1, hb0, hb1, by omega, by omega, hna, hnb, fun k y0 y1 => ?_⟩
                          by_cases e9 : k = c
                          · subst e9; exact hno
                          · exact hnc k y0 (by omega)
                    · simp only [sx_cc, Classical.not_not] at g
                      have esc := hsc (by omega)
                      conv => whnf
                      refine ⟨(by first | assumption | rfl), ?_⟩
                      try simp (disch := omega) only [Int.cast_ofNat_Int, up_s, up_a, up_i, mp_a, mp_ge]
                      try simp only [r30]
                      try simp only [r80]
                      try simp only [r82]
                      try simp only [eka]
                      try simp only [ekb]
                      try simp only [ekc]
                      try simp only [hsa]
                      try simp only [esb]
                      try simp only [esc]
                      conv => whnf
                      refine ⟨sx_ixI (by first | assumption | rfl) (by omega) (by omega), ?_⟩
                      try simp (disch := omega) only [Int.cast_ofNat_Int, up_s, up_a, up_i, mp_a, mp_ge]
                      try simp only [r30]
                      try simp only [r80]
                      try simp only [r82]
                      try simp only [eka]
                      try simp only [ekb]
                      try simp only [ekc]
                      try simp only [hsa]
                      try simp only [esb]
                      try simp only [esc]
                      conv => whnf
                      refine ⟨fun g => ?_, fun g => ?_⟩
                      · simp only [sx_cc, Classical.not_not] at g
                        try simp only [cmp_eq, cmp_lt, cmp_ge, Classical.not_not] at g
                        have etp : tp P x g9 a b c ↔ sx_andL g9 (sx_xorL (sx_orL (sx_orL (fS P a) (if x ≤ 1 then 0 else fS P b)) (if x ≤ 2 then 0 else fS P c)) (-1)) = 0 := ⟨fun z9 => z9.2.2.2, fun z9 => ⟨by assumption, fun z8 => by first | assumption | omega, fun z8 => by first | assumption | omega, z9⟩⟩
                        rw [if_neg (by omega), if_neg (by omega)] at etp
                        have hyes : tp P x g9 a b c := etp.mpr (by assumption)
                        conv => whnf
                        refine ⟨(by first | assumption | rfl), ?_⟩
                        try simp (disch := omega) only [Int.cast_ofNat_Int, up_s, up_a, up_i, mp_a, mp_ge]
                        try simp only [r30]
                        try simp only [r80]
                        try simp only [r82]
                        try simp only [eka]
                        try simp only [ekb]
                        try simp only [ekc]
                        try simp only [hsa]
                        try simp only [esb]
                        try simp only [esc]
                        conv => whnf
                        refine ⟨(by first | assumption | rfl), ?_⟩
                        try simp (disch := omega) only [Int.cast_ofNat_Int, up_s, up_a, up_i, mp_a, mp_ge]
                        try simp only [r30]
                        try simp only [r80]
                        try simp only [r82]
                        try simp only [eka]
                        try simp only [ekb]
                        try simp only [ekc]
                        try simp only [hsa]
                        try simp only [esb]
                        try simp only [esc]
                        conv => whnf
                        refine ⟨sx_ixI (by first | assumption | rfl) (by omega) (by omega), ?_⟩
                        conv => whnf
                        refine ⟨(by first | assumption | rfl), ?_⟩
                        try simp (disch := omega) only [Int.cast_ofNat_Int, up_s, up_a, up_i, mp_a, mp_ge]
                        try simp only [r30]
                        try simp only [r80]
                        try simp only [r82]
                        try simp only [eka]
                        try simp only [ekb]
                        try simp only [ekc]
                        try simp only [hsa]
                        try simp only [esb]
                        try simp only [esc]
                        conv => whnf
                        refine ⟨sx_ixI (by first | assumption | rfl) (by omega) (by omega), ?_⟩
                        conv => whnf
                        refine ⟨(by first | assumption | rfl), ?_⟩
                        try simp (disch := omega) only [Int.cast_ofNat_Int, up_s, up_a, up_i, mp_a, mp_ge]
                        try simp only [r30]
                        try simp only [r80]
                        try simp only [r82]
                        try simp only [eka]
                        try simp only [ekb]
                        try simp only [ekc]
                        try simp only [hsa]
                        try simp only [esb]
                        try simp only [esc]
                        conv => whnf
                        refine ⟨sx_ixI (by first | assumption | rfl) (by omega) (by omega), ?_⟩
                        conv => whnf
                        refine ⟨rfl, ?_⟩
                        refine h1 a b c ⟨⟨ha0, by omega, by omega, by omega, by omega, by omega, hyes⟩, hna, hnb, hnc⟩
                      · simp only [sx_cc, Classical.not_not] at g
                        try simp only [cmp_eq, cmp_lt, cmp_ge, Classical.not_not] at g
                        have etp : tp P x g9 a b c ↔ sx_andL g9 (sx_xorL (sx_orL (sx_orL (fS P a) (if x ≤ 1 then 0 else fS P b)) (if x ≤ 2 then 0 else fS P c)) (-1)) = 0 := ⟨fun z9 => z9.2.2.2, fun z9 => ⟨by assumption, fun z8 => by first | assumption | omega, fun z8 => by first | assumption | omega, z9⟩⟩
                        rw [if_neg (by omega), if_neg (by omega)] at etp
                        have hno : ¬ tp P x g9 a b c := fun z9 => absurd (etp.mp z9) (by assumption)
                        conv => whnf
                        refine ⟨⟨by omega, by omega⟩, ?_⟩
                        conv => whnf
                        refine ⟨_, ?_, Or.inr (Or.inr (⟨rfl, _, _, _, _, _, rfl, rfl, ?_, rfl⟩))⟩
                        · omega
                        · refine ⟨rfl, ha0, ha1, hb0, hb1, by omega, by omega, hna, hnb, fun k y0 y1 => ?_⟩
                          by_cases e9 : k = c
                          · subst e9; exact hno
                          · exact hnc k y0 (by omega)
                · simp only [sx_cc, Classical.not_not] at g
                  have hno : ¬ tp P x g9 a b c := fun z9 => z9.2.2.1 (by omega) (by assumption)
                  conv => whnf
                  refine ⟨⟨by omega, by omega⟩, ?_⟩
                  conv => whnf
                  refine ⟨_, ?_, Or.inr (Or.inr (⟨rfl, _, _, _, _, _, rfl, rfl, ?_, rfl⟩))⟩
                  · omega
                  · refine ⟨rfl, ha0, ha1, hb0, hb1, by omega, by omega, hna, hnb, fun k y0 y1 => ?_⟩
                    by_cases e9 : k = c
                    · subst e9; exact hno
                    · exact hnc k y0 (by omega)
            · simp only [sx_cc, Classical.not_not] at g
              conv => whnf
              refine ⟨(by first | assumption | rfl), ?_⟩
              try simp (disch := omega) only [Int.cast_ofNat_Int, up_s, up_a, up_i, mp_a, mp_ge]
              try simp only [r30]
              try simp only [r80]
              try simp only [r82]
              try simp only [eka]
              try simp only [ekb]
              try simp only [ekc]
              try simp only [hsa]
              try simp only [esb]
              try simp only [esc]
              conv => whnf
              refine ⟨sx_ixI (by first | assumption | rfl) (by omega) (by omega), ?_⟩
              try simp (disch := omega) only [Int.cast_ofNat_Int, up_s, up_a, up_i, mp_a, mp_ge]
              try simp only [r30]
              try simp only [r80]
              try simp only [r82]
              try simp only [eka]
              try simp only [ekb]
              try simp only [ekc]
              try simp only [hsa]
              try simp only [esb]
              try simp only [esc]
              conv => whnf
              refine ⟨fun g => ?_, fun g => ?_⟩
              · simp only [sx_cc, Classical.not_not] at g
                have hno : ¬ tp P x g9 a b c := fun z9 => z9.2.1 (by omega) (by assumption)
                conv => whnf
                refine ⟨⟨by omega, by omega⟩, ?_⟩
                conv => whnf
                refine ⟨_, ?_, Or.inr (Or.inr (⟨rfl, _, _, _, _, _, rfl, rfl, ?_, rfl⟩))⟩
                · omega
                · refine ⟨rfl, ha0, ha1, hb0, hb1, by omega, by omega, hna, hnb, fun k y0 y1 => ?_⟩
                  by_cases e9 : k = c
                  · subst e9; exact hno
                  · exact hnc k y0 (by omega)
              · simp only [sx_cc, Classical.not_not] at g
                conv => whnf
                refine ⟨fun g => ?_, fun g => ?_⟩
                · simp only [sx_cc, Classical.not_not] at g
                  conv => whnf
                  refine ⟨(by first | assumption | rfl), ?_⟩
                  try simp (disch := omega) only [Int.cast_ofNat_Int, up_s, up_a, up_i, mp_a, mp_ge]
                  try simp only [r30]
                  try simp only [r80]
                  try simp only [r82]
                  try simp only [eka]
                  try simp only [ekb]
                  try simp only [ekc]
                  try simp only [hsa]
                  try simp only [esb]
                  try simp only [esc]
                  conv => whnf
                  refine ⟨sx_ixI (by first | assumption | rfl) (by omega) (by omega), ?_⟩
                  try simp (disch := omega) only [Int.cast_ofNat_Int, up_s, up_a, up_i, mp_a, mp_ge]
                  try simp only [r30]
                  try simp only [r80]
                  try simp only [r82]
                  try simp only [eka]
                  try simp only [ekb]
                  try simp only [ekc]
                  try simp only [hsa]
                  try simp only [esb]
                  try simp only [esc]
                  conv => whnf
                  refine ⟨fun g => ?_, fun g => ?_⟩
                  · simp only [sx_cc, Classical.not_not] at g
                    conv => whnf
                    refine ⟨fun g => ?_, fun g => ?_⟩
                    · simp only [sx_cc, Classical.not_not] at g
                      conv => whnf
                      refine ⟨fun g => ?_, fun g => ?_⟩
                      · simp only [sx_cc, Classical.not_not] at g
                        try simp only [cmp_eq, cmp_lt, cmp_ge, Classical.not_not] at g
                        have etp : tp P x g9 a b c ↔ sx_andL g9 (sx_xorL (sx_orL (sx_orL (fS P a) (if x ≤ 1 then 0 else fS P b)) (if x ≤ 2 then 0 else fS P c)) (-1)) = 0 := ⟨fun z9 => z9.2.2.2, fun z9 => ⟨by assumption, fun z8 => by first | assumption | omega, fun z8 => by first | assumption | omega, z9⟩⟩
                        rw [if_pos (by omega), if_pos (by omega)] at etp
                        have hyes : tp P x g9 a b c := etp.mpr (by assumption)
                        conv => whnf
                        refine ⟨(by first | assumption | rfl), ?_⟩
                        try simp (disch := omega) only [Int.cast_ofNat_Int, up_s, up_a, up_i, mp_a, mp_ge]
                        try simp only [r30]
                        try simp only [r80]
                        try simp only [r82]
                        try simp only [eka]
                        try simp only [ekb]
                        try simp only [ekc]
                        try simp only [hsa]
                        try simp only [esb]
                        try simp only [esc]
                        conv => whnf
                        refine ⟨(by first | assumption | rfl), ?_⟩
                        try simp (disch := omega) only [Int.cast_ofNat_Int, up_s, up_a, up_i, mp_a, mp_ge]
                        try simp only [r30]
                        try simp only [r80]
                        try simp only [r82]
                        try simp only [eka]
                        try simp only [ekb]
                        try simp only [ekc]
                        try simp only [hsa]
                        try simp only [esb]
                        try simp only [esc]
                        conv => whnf
                        refine ⟨sx_ixI (by first | assumption | rfl) (by omega) (by omega), ?_⟩
                        conv => whnf
                        refine ⟨(by first | assumption | rfl), ?_⟩
                        try simp (disch := omega) only [Int.cast_ofNat_Int, up_s, up_a, up_i, mp_a, mp_ge]
                        try simp only [r30]
                        try simp only [r80]
                        try simp only [r82]
                        try simp only [eka]
                        try simp only [ekb]
                        try simp only [ekc]
                        try simp only [hsa]
                        try simp only [esb]
                        try simp only [esc]
                        conv => whnf
                        refine ⟨sx_ixI (by first | assumption | rfl) (by omega) (by omega), ?_⟩
                        conv => whnf
                        refine ⟨(by first | assumption | rfl), ?_⟩
                        try simp (disch := omega) only [Int.cast_ofNat_Int, up_s, up_a, up_i, mp_a, mp_ge]
                        try simp only [r30]
                        try simp only [r80]
                        try simp only [r82]
                        try simp only [eka]
                        try simp only [ekb]
                        try simp only [ekc]
                        try simp only [hsa]
                        try simp only [esb]
                        try simp only [esc]
                        conv => whnf
                        refine ⟨sx_ixI (by first | assumption | rfl) (by omega) (by omega), ?_⟩
                        conv => whnf
                        refine ⟨rfl, ?_⟩
                        refine h1 a b c ⟨⟨ha0, by omega, by omega, by omega, by omega, by omega, hyes⟩, hna, hnb, hnc⟩
                      · simp only [sx_cc, Classical.not_not] at g
                        try simp only [cmp_eq, cmp_lt, cmp_ge, Classical.not_not] at g
                        have etp : tp P x g9 a b c ↔ sx_andL g9 (sx_xorL (sx_orL (sx_orL (fS P a) (if x ≤ 1 then 0 else fS P b)) (if x ≤ 2 then 0 else fS P c)) (-1)) = 0 := ⟨fun z9 => z9.2.2.2, fun z9 => ⟨by assumption, fun z8 => by first | assumption | omega, fun z8 => by first | assumption | omega, z9⟩⟩
                        rw [if_pos (by omega), if_pos (by omega)] at etp
                        have hno : ¬ tp P x g9 a b c := fun z9 => absurd (etp.mp z9) (by assumption)
                        conv => whnf
                        refine ⟨⟨by omega, by omega⟩, ?_⟩
                        conv => whnf
                        refine ⟨_, ?_, Or.inr (Or.inr (⟨rfl, _, _, _, _, _, rfl, rfl, ?_, rfl⟩))⟩
                        · omega
                        · refine ⟨rfl, ha0, ha1, hb0, hb1, by omega, by omega, hna, hnb, fun k y0 y1 => ?_⟩
                          by_cases e9 : k = c
                          · subst e9; exact hno
                          · exact hnc k y0 (by omega)
                    · simp only [sx_cc, Classical.not_not] at g
                      have esc := hsc (by omega)
                      conv => whnf
                      refine ⟨(by first | assumption | rfl), ?_⟩
                      try simp (disch := omega) only [Int.cast_ofNat_Int, up_s, up_a, up_i, mp_a, mp_ge]
                      try simp only [r30]
                      try simp only [r80]
                      try simp only [r82]
                      try simp only [eka]
                      try simp only [ekb]
                      try simp only [ekc]
                      try simp only [hsa]
                      try simp only [esb]
                      try simp only [esc]
                      conv => whnf
                      refine ⟨sx_ixI (by first | assumption | rfl) (by omega) (by omega), ?_⟩
                      try simp (disch := omega) only [Int.cast_ofNat_Int, up_s, up_a, up_i, mp_a, mp_ge]
                      try simp only [r30]
                      try simp only [r80]
                      try simp only [r82]
                      try simp only [eka]
                      try simp only [ekb]
                      try simp only [ekc]
                      try simp only [hsa]
                      try simp only [esb]
                      try simp only [esc]
                      conv => whnf
                      refine ⟨fun g => ?_, fun g => ?_⟩
                      · simp only [sx_cc, Classical.not_not] at g
                        try simp only [cmp_eq, cmp_lt, cmp_ge, Classical.not_not] at g
                        have etp : tp P x g9 a b c ↔ sx_andL g9 (sx_xorL (sx_orL (sx_orL (fS P a) (if x ≤ 1 then 0 else fS P b)) (if x ≤ 2 then 0 else fS P c)) (-1)) = 0 := ⟨fun z9 => z9.2.2.2, fun z9 => ⟨by assumption, fun z8 => by first | assumption | omega, fun z8 => by first | assumption | omega, z9⟩⟩
                        rw [if_pos (by omega), if_neg (by omega)] at etp
                        have hyes : tp P x g9 a b c := etp.mpr (by assumption)
                        conv => whnf
                        refine ⟨(by first | assumption | rfl), ?_⟩
                        try simp (disch := omega) only [Int.cast_ofNat_Int, up_s, up_a, up_i, mp_a, mp_ge]
                        try simp only [r30]
                        try simp only [r80]
                        try simp only [r82]
                        try simp only [eka]
                        try simp only [ekb]
                        try simp only [ekc]
                        try simp only [hsa]
                        try simp only [esb]
                        try simp only [esc]
                        conv => whnf
                        refine ⟨(by first | assumption | rfl), ?_⟩
                        try simp (disch := omega) only [Int.cast_ofNat_Int, up_s, up_a, up_i, mp_a, mp_ge]
                        try simp only [r30]
                        try simp only [r80]
                        try simp only [r82]
                        try simp only [eka]
                        try simp only [ekb]
                        try simp only [ekc]
                        try simp only [hsa]
                        try simp only [esb]
                        try simp only [esc]
                        conv => whnf
                        refine ⟨sx_ixI (by first | assumption | rfl) (by omega) (by omega), ?_⟩
                        conv => whnf
                        refine ⟨(by first | assumption | rfl), ?_⟩
                        try simp (disch := omega) only [Int.cast_ofNat_Int, up_s, up_a, up_i, mp_a, mp_ge]
                        try simp only [r30]
                        try simp only [r80]
                        try simp only [r82]
                        try simp only [eka]
                        try simp only [ekb]
                        try simp only [ekc]
                        try simp only [hsa]
                        try simp only [esb]
                        try simp only [esc]
                        conv => whnf
                        refine ⟨sx_ixI (by first | assumption | rfl) (by omega) (by omega), ?_⟩
                        conv => whnf
                        refine ⟨(by first | assumption | rfl), ?_⟩
                        try simp (disch := omega) only [Int.cast_ofNat_Int, up_s, up_a, up_i, mp_a, mp_ge]
                        try simp only [r30]
                        try simp only [r80]
                        try simp only [r82]
                        try simp only [eka]
                        try simp only [ekb]
                        try simp only [ekc]
                        try simp only [hsa]
                        try simp only [esb]
                        try simp only [esc]
                        conv => whnf
                        refine ⟨sx_ixI (by first | assumption | rfl) (by omega) (by omega), ?_⟩
                        conv => whnf
                        refine ⟨rfl, ?_⟩
                        refine h1 a b c ⟨⟨ha0, by omega, by omega, by omega, by omega, by omega, hyes⟩, hna, hnb, hnc⟩
                      · simp only [sx_cc, Classical.not_not] at g
                        try simp only [cmp_eq, cmp_lt, cmp_ge, Classical.not_not] at g
                        have etp : tp P x g9 a b c ↔ sx_andL g9 (sx_xorL (sx_orL (sx_orL (fS P a) (if x ≤ 1 then 0 else fS P b)) (if x ≤ 2 then 0 else fS P c)) (-1)) = 0 := ⟨fun z9 => z9.2.2.2, fun z9 => ⟨by assumption, fun z8 => by first | assumption | omega, fun z8 => by first | assumption | omega, z9⟩⟩
                        rw [if_pos (by omega), if_neg (by omega)] at etp
                        have hno : ¬ tp P x g9 a b c := fun z9 => absurd (etp.mp z9) (by assumption)
                        conv => whnf
                        refine ⟨⟨by omega, by omega⟩, ?_⟩
                        conv => whnf
                        refine ⟨_, ?_, Or.inr (Or.inr (⟨rfl, _, _, _, _, _, rfl, rfl, ?_, rfl⟩))⟩
                        · omega
                        · refine ⟨rfl, ha0, ha1, hb0, hb1, by omega, by omega, hna, hnb, fun k y0 y1 => ?_⟩
                          by_cases e9 : k = c
                          · subst e9; exact hno
                          · exact hnc k y0 (by omega)
                  · simp only [sx_cc, Classical.not_not] at g
                    have esb := hsb (by omega)
                    conv => whnf
                    refine ⟨(by first | assumption | rfl), ?_⟩
                    try simp (disch := omega) only [Int.cast_ofNat_Int, up_s, up_a, up_i, mp_a, mp_ge]
                    try simp only [r30]
                    try simp only [r80]
                    try simp only [r82]
                    try simp only [eka]
                    try simp only [ekb]
                    try simp only [ekc]
                    try simp only [hsa]
                    try simp only [esb]
                    try simp only [esc]
                    conv => whnf
                    refine ⟨sx_ixI (by first | assumption | rfl) (by omega) (by omega), ?_⟩
                    try simp (disch := omega) only [Int.cast_ofNat_Int, up_s, up_a, up_i, mp_a, mp_ge]
                    try simp only [r30]
                    try simp only [r80]
                    try simp only [r82]
                    try simp only [eka]
                    try simp only [ekb]
                    try simp only [ekc]
                    try simp only [hsa]
                    try simp only [esb]
                    try simp only [esc]
                    conv => whnf
                    refine ⟨fun g => ?_, fun g => ?_⟩
                    · simp only [sx_cc, Classical.not_not] at g
                      conv => whnf
                      refine ⟨fun g => ?_, fun g => ?_⟩
                      · simp only [sx_cc, Classical.not_not] at g
                        try simp only [cmp_eq, cmp_lt, cmp_ge, Classical.not_not] at g
                        have etp : tp P x g9 a b c ↔ sx_andL g9 (sx_xorL (sx_orL (sx_orL (fS P a) (if x ≤ 1 then 0 else fS P b)) (if x ≤ 2 then 0 else fS P c)) (-1)) = 0 := ⟨fun z9 => z9.2.2.2, fun z9 => ⟨by assumption, fun z8 => by first | assumption | omega, fun z8 => by first | assumption | omega, z9⟩⟩
                        rw [if_neg (by omega), if_pos (by omega)] at etp
                        have hyes : tp P x g9 a b c := etp.mpr (by assumption)
                        conv => whnf
                        refine ⟨(by first | assumption | rfl), ?_⟩
                        try simp (disch := omega) only [Int.cast_ofNat_Int, up_s, up_a, up_i, mp_a, mp_ge]
                        try simp only [r30]
                        try simp only [r80]
                        try simp only [r82]
                        try simp only [eka]
                        try simp only [ekb]
                        try simp only [ekc]
                        try simp only [hsa]
                        try simp only [esb]
                        try simp only [esc]
                        conv => whnf
                        refine ⟨(by first | assumption | rfl), ?_⟩
                        try simp (disch := omega) only [Int.cast_ofNat_Int, up_s, up_a, up_i, mp_a, mp_ge]
                        try simp only [r30]
                        try simp only [r80]
                        try simp only [r82]
                        try simp only [eka]
                        try simp only [ekb]
                        try simp only [ekc]
                        try simp only [hsa]
                        try simp only [esb]
                        try simp only [esc]
                        conv => whnf
                        refine ⟨sx_ixI (by first | assumption | rfl) (by omega) (by omega), ?_⟩
                        conv => whnf
                        refine ⟨(by first | assumption | rfl), ?_⟩
                        try simp (disch := omega) only [Int.cast_ofNat_Int, up_s, up_a, up_i, mp_a, mp_ge]
                        try simp only [r30]
                        try simp only [r80]
                        try simp only [r82]
                        try simp only [eka]
                        try simp only [ekb]
                        try simp only [ekc]
                        try simp only [hsa]
                        try simp only [esb]
                        try simp only [esc]
                        conv => whnf
                        refine ⟨sx_ixI (by first | assumption | rfl) (by omega) (by omega), ?_⟩
                        conv => whnf
                        refine ⟨(by first | assumption | rfl), ?_⟩
                        try simp (disch := omega) only [Int.cast_ofNat_Int, up_s, up_a, up_i, mp_a, mp_ge]
                        try simp only [r30]
                        try simp only [r80]
                        try simp only [r82]
                        try simp only [eka]
                        try simp only [ekb]
                        try simp only [ekc]
                        try simp only [hsa]
                        try simp only [esb]
                        try simp only [esc]
                        conv => whnf
                        refine ⟨sx_ixI (by first | assumption | rfl) (by omega) (by omega), ?_⟩
                        conv => whnf
                        refine ⟨rfl, ?_⟩
                        refine h1 a b c ⟨⟨ha0, by omega, by omega, by omega, by omega, by omega, hyes⟩, hna, hnb, hnc⟩
                      · simp only [sx_cc, Classical.not_not] at g
                        try simp only [cmp_eq, cmp_lt, cmp_ge, Classical.not_not] at g
                        have etp : tp P x g9 a b c ↔ sx_andL g9 (sx_xorL (sx_orL (sx_orL (fS P a) (if x ≤ 1 then 0 else fS P b)) (if x ≤ 2 then 0 else fS P c)) (-1)) = 0 := ⟨fun z9 => z9.2.2.2, fun z9 => ⟨by assumption, fun z8 => by first | assumption | omega, fun z8 => by first | assumption | omega, z9⟩⟩
                        rw [if_neg (by omega), if_pos (by omega)] at etp
                        have hno : ¬ tp P x g9 a b c := fun z9 => absurd (etp.mp z9) (by assumption)
                        conv => whnf
                        refine ⟨⟨by omega, by omega⟩, ?_⟩
                        conv => whnf
                        refine ⟨_, ?_, Or.inr (Or.inr (⟨rfl, _, _, _, _, _, rfl, rfl, ?_, rfl⟩))⟩
                        · omega
                        · refine ⟨rfl, ha0, ha1, hb0, hb1, by omega, by omega, hna, hnb, fun k y0 y1 => ?_⟩
                          by_cases e9 : k = c
                          · subst e9; exact hno
                          · exact hnc k y0 (by omega)
                    · simp only [sx_cc, Classical.not_not] at g
                      have esc := hsc (by omega)
                      conv => whnf
                      refine ⟨(by first | assumption | rfl), ?_⟩
                      try simp (disch := omega) only [Int.cast_ofNat_Int, up_s, up_a, up_i, mp_a, mp_ge]
                      try simp only [r30]
                      try simp only [r80]
                      try simp only [r82]
                      try simp only [eka]
                      try simp only [ekb]
                      try simp only [ekc]
                      try simp only [hsa]
                      try simp only [esb]
                      try simp only [esc]
                      conv => whnf
                      refine ⟨sx_ixI (by first | assumption | rfl) (by omega) (by omega), ?_⟩
                      try simp (disch := omega) only [Int.cast_ofNat_Int, up_s, up_a, up_i, mp_a, mp_ge]
                      try simp only [r30]
                      try simp only [r80]
                      try simp only [r82]
                      try simp only [eka]
                      try simp only [ekb]
                      try simp only [ekc]
                      try simp only [hsa]
                      try simp only [esb]
                      try simp only [esc]
                      conv => whnf
                      refine ⟨fun g => ?_, fun g => ?_⟩
                      · simp only [sx_cc, Classical.not_not] at g
                        try simp only [cmp_eq, cmp_lt, cmp_ge, Classical.not_not] at g
                        have etp : tp P x g9 a b c ↔ sx_andL g9 (sx_xorL (sx_orL (sx_orL (fS P a) (if x ≤ 1 then 0 else fS P b)) (if x ≤ 2 then 0 else fS P c)) (-1)) = 0 := ⟨fun z9 => z9.2.2.2, fun z9 => ⟨by assumption, fun z8 => by first | assumption | omega, fun z8 => by first | assumption | omega, z9⟩⟩
                        rw [if_neg (by omega), if_neg (by omega)] at etp
                        have hyes : tp P x g9 a b c := etp.mpr (by assumption)
                        conv => whnf
                        refine ⟨(by first | assumption | rfl), ?_⟩
                        try simp (disch := omega) only [Int.cast_ofNat_Int, up_s, up_a, up_i, mp_a, mp_ge]
                        try simp only [r30]
                        try simp only [r80]
                        try simp only [r82]
                        try simp only [eka]
                        try simp only [ekb]
                        try simp only [ekc]
                        try simp only [hsa]
                        try simp only [esb]
                        try simp only [esc]
                        conv => whnf
                        refine ⟨(by first | assumption | rfl), ?_⟩
                        try simp (disch := omega) only [Int.cast_ofNat_Int, up_s, up_a, up_i, mp_a, mp_ge]
                        try simp only [r30]
                        try simp only [r80]
                        try simp only [r82]
                        try simp only [eka]
                        try simp only [ekb]
                        try simp only [ekc]
                        try simp only [hsa]
                        try simp only [esb]
                        try simp only [esc]
                        conv => whnf
                        refine ⟨sx_ixI (by first | assumption | rfl) (by omega) (by omega), ?_⟩
                        conv => whnf
                        refine ⟨(by first | assumption | rfl), ?_⟩
                        try simp (disch := omega) only [Int.cast_ofNat_Int, up_s, up_a, up_i, mp_a, mp_ge]
                        try simp only [r30]
                        try simp only [r80]
                        try simp only [r82]
                        try simp only [eka]
                        try simp only [ekb]
                        try simp only [ekc]
                        try simp only [hsa]
                        try simp only [esb]
                        try simp only [esc]
                        conv => whnf
                        refine ⟨sx_ixI (by first | assumption | rfl) (by omega) (by omega), ?_⟩
                        conv => whnf
                        refine ⟨(by first | assumption | rfl), ?_⟩
                        try simp (disch := omega) only [Int.cast_ofNat_Int, up_s, up_a, up_i, mp_a, mp_ge]
                        try simp only [r30]
                        try simp only [r80]
                        try simp only [r82]
                        try simp only [eka]
                        try simp only [ekb]
                        try simp only [ekc]
                        try simp only [hsa]
                        try simp only [esb]
                        try simp only [esc]
                        conv => whnf
                        refine ⟨sx_ixI (by first | assumption | rfl) (by omega) (by omega), ?_⟩
                        conv => whnf
                        refine ⟨rfl, ?_⟩
                        refine h1 a b c ⟨⟨ha0, by omega, by omega, by omega, by omega, by omega, hyes⟩, hna, hnb, hnc⟩
                      · simp only [sx_cc, Classical.not_not] at g
                        try simp only [cmp_eq, cmp_lt, cmp_ge, Classical.not_not] at g
                        have etp : tp P x g9 a b c ↔ sx_andL g9 (sx_xorL (sx_orL (sx_orL (fS P a) (if x ≤ 1 then 0 else fS P b)) (if x ≤ 2 then 0 else fS P c)) (-1)) = 0 := ⟨fun z9 => z9.2.2.2, fun z9 => ⟨by assumption, fun z8 => by first | assumption | omega, fun z8 => by first | assumption | omega, z9⟩⟩
                        rw [if_neg (by omega), if_neg (by omega)] at etp
                        have hno : ¬ tp P x g9 a b c := fun z9 => absurd (etp.mp z9) (by assumption)
                        conv => whnf
                        refine ⟨⟨by omega, by omega⟩, ?_⟩
                        conv => whnf
                        refine ⟨_, ?_, Or.inr (Or.inr (⟨rfl, _, _, _, _, _, rfl, rfl, ?_, rfl⟩))⟩
                        · omega
                        · refine ⟨rfl, ha0, ha1, hb0, hb1, by omega, by omega, hna, hnb, fun k y0 y1 => ?_⟩
                          by_cases e9 : k = c
                          · subst e9; exact hno
                          · exact hnc k y0 (by omega)
                · simp only [sx_cc, Classical.not_not] at g
                  conv => whnf
                  refine ⟨(by first | assumption | rfl), ?_⟩
                  try simp (disch := omega) only [Int.cast_ofNat_Int, up_s, up_a, up_i, mp_a, mp_ge]
                  try simp only [r30]
                  try simp only [r80]
                  try simp only [r82]
                  try simp only [eka]
                  try simp only [ekb]
                  try simp only [ekc]
                  try simp only [hsa]
                  try simp only [esb]
                  try simp only [esc]
                  conv => whnf
                  refine ⟨sx_ixI (by first | assumption | rfl) (by omega) (by omega), ?_⟩
                  try simp (disch := omega) only [Int.cast_ofNat_Int, up_s, up_a, up_i, mp_a, mp_ge]
                  try simp only [r30]
                  try simp only [r80]
                  try simp only [r82]
                  try simp only [eka]
                  try simp only [ekb]
                  try simp only [ekc]
                  try simp only [hsa]
                  try simp only [esb]
                  try simp only [esc]
                  conv => whnf
                  refine ⟨fun g => ?_, fun g => ?_⟩
                  · simp only [sx_cc, Classical.not_not] at g
                    conv => whnf
                    refine ⟨(by first | assumption | rfl), ?_⟩
                    try simp (disch := omega) only [Int.cast_ofNat_Int, up_s, up_a, up_i, mp_a, mp_ge]
                    try simp only [r30]
                    try simp only [r80]
                    try simp only [r82]
                    try simp only [eka]
                    try simp only [ekb]
                    try simp only [ekc]
                    try simp only [hsa]
                    try simp only [esb]
                    try simp only [esc]
                    conv => whnf
                    refine ⟨sx_ixI (by first | assumption | rfl) (by omega) (by omega), ?_⟩
                    try simp (disch := omega) only [Int.cast_ofNat_Int, up_s, up_a, up_i, mp_a, mp_ge]
                    try simp only [r30]
                    try simp only [r80]
                    try simp only [r82]
                    try simp only [eka]
                    try simp only [ekb]
                    try simp only [ekc]
                    try simp only [hsa]
                    try simp only [esb]
                    try simp only [esc]
                    conv => whnf
                    refine ⟨fun g => ?_, fun g => ?_⟩
                    · simp only [sx_cc, Classical.not_not] at g
                      conv => whnf
                      refine ⟨fun g => ?_, fun g => ?_⟩
                      · simp only [sx_cc, Classical.not_not] at g
                        conv => whnf
                        refine ⟨fun g => ?_, fun g => ?_⟩
                        · simp only [sx_cc, Classical.not_not] at g
                          try simp only [cmp_eq, cmp_lt, cmp_ge, Classical.not_not] at g
                          have etp : tp P x g9 a b c ↔ sx_andL g9 (sx_xorL (sx_orL (sx_orL (fS P a) (if x ≤ 1 then 0 else fS P b)) (if x ≤ 2 then 0 else fS P c)) (-1)) = 0 := ⟨fun z9 => z9.2.2.2, fun z9 => ⟨by assumption, fun z8 => by first | assumption | omega, fun z8 => by first | assumption | omega, z9⟩⟩
                          rw [if_pos (by omega), if_pos (by omega)] at etp
                          have hyes : tp P x g9 a b c := etp.mpr (by assumption)
                          conv => whnf
                          refine ⟨(by first | assumption | rfl), ?_⟩
                          try simp (disch := omega) only [Int.cast_ofNat_Int, up_s, up_a, up_i, mp_a, mp_ge]
                          try simp only [r30]
                          try simp only [r80]
                          try simp only [r82]
                          try simp only [eka]
                          try simp only [ekb]
                          try simp only [ekc]
                          try simp only [hsa]
                          try simp only [esb]
                          try simp only [esc]
                          conv => whnf
                          refine ⟨(by first | assumption | rfl), ?_⟩
                          try simp (disch := omega) only [Int.cast_ofNat_Int, up_s, up_a, up_i, mp_a, mp_ge]
                          try simp only [r30]
                          try simp only [r80]
                          try simp only [r82]
                          try simp only [eka]
                          try simp only [ekb]
                          try simp only [ekc]
                          try simp only [hsa]
                          try simp only [esb]
                          try simp only [esc]
                          conv => whnf
                          refine ⟨sx_ixI (by first | assumption | rfl) (by omega) (by omega), ?_⟩
                          conv => whnf
                          refine ⟨(by first | assumption | rfl), ?_⟩
                          try simp (disch := omega) only [Int.cast_ofNat_Int, up_s, up_a, up_i, mp_a, mp_ge]
                          try simp only [r30]
                          try simp only [r80]
                          try simp only [r82]
                          try simp only [eka]
                          try simp only [ekb]
                          try simp only [ekc]
                          try simp only [hsa]
                          try simp only [esb]
                          try simp only [esc]
                          conv => whnf
                          refine ⟨sx_ixI (by first | assumption | rfl) (by omega) (by omega), ?_⟩
                          conv => whnf
                          refine ⟨(by first | assumption | rfl), ?_⟩
                          try simp (disch := omega) only [Int.cast_ofNat_Int, up_s, up_a, up_i, mp_a, mp_ge]
                          try simp only [r30]
                          try simp only [r80]
                          try simp only [r82]
                          try simp only [eka]
                          try simp only [ekb]
                          try simp only [ekc]
                          try simp only [hsa]
                          try simp only [esb]
                          try simp only [esc]
                          conv => whnf
                          refine ⟨sx_ixI (by first | assumption | rfl) (by omega) (by omega), ?_⟩
                          conv => whnf
                          refine ⟨rfl, ?_⟩
                          refine h1 a b c ⟨⟨ha0, by omega, by omega, by omega, by omega, by omega, hyes⟩, hna, hnb, hnc⟩
                        · simp only [sx_cc, Classical.not_not] at g
                          try simp only [cmp_eq, cmp_lt, cmp_ge, Classical.not_not] at g
                          have etp : tp P x g9 a b c ↔ sx_andL g9 (sx_xorL (sx_orL (sx_orL (fS P a) (if x ≤ 1 then 0 else fS P b)) (if x ≤ 2 then 0 else fS P c)) (-1)) = 0 := ⟨fun z9 => z9.2.2.2, fun z9 => ⟨by assumption, fun z8 => by first | assumption | omega, fun z8 => by first | assumption | omega, z9⟩⟩
                          rw [if_pos (by omega), if_pos (by omega)] at etp
                          have hno : ¬ tp P x g9 a b c := fun z9 => absurd (etp.mp z9) (by assumption)
                          conv => whnf
                          refine ⟨⟨by omega, by omega⟩, ?_⟩
                          conv => whnf
                          refine ⟨_, ?_, Or.inr (Or.inr (⟨rfl, _, _, _, _, _, rfl, rfl, ?_, rfl⟩))⟩
                          · omega
                          · refine ⟨rfl, ha0, ha1, hb0, hb1, by omega, by omega, hna, hnb, fun k y0 y1 => ?_⟩
                            by_cases e9 : k = c
                            · subst e9; exact hno
                            · exact hnc k y0 (by omega)
                      · simp only [sx_cc, Classical.not_not] at g
                        have esc := hsc (by omega)
                        conv => whnf
                        refine ⟨(by first | assumption | rfl), ?_⟩
                        try simp (disch := omega) only [Int.cast_ofNat_Int, up_s, up_a, up_i, mp_a, mp_ge]
                        try simp only [r30]
                        try simp only [r80]
                        try simp only [r82]
                        try simp only [eka]
                        try simp only [ekb]
                        try simp only [ekc]
                        try simp only [hsa]
                        try simp only [esb]
                        try simp only [esc]
                        conv => whnf
                        refine ⟨sx_ixI (by first | assumption | rfl) (by omega) (by omega), ?_⟩
                        try simp (disch := omega) only [Int.cast_ofNat_Int, up_s, up_a, up_i, mp_a, mp_ge]
                        try simp only [r30]
                        try simp only [r80]
                        try simp only [r82]
                        try simp only [eka]
                        try simp only [ekb]
                        try simp only [ekc]
                        try simp only [hsa]
                        try simp only [esb]
                        try simp only [esc]
                        conv => whnf
                        refine ⟨fun g => ?_, fun g => ?_⟩
                        · simp only [sx_cc, Classical.not_not] at g
                          try simp only [cmp_eq, cmp_lt, cmp_ge, Classical.not_not] at g
                          have etp : tp P x g9 a b c ↔ sx_andL g9 (sx_xorL (sx_orL (sx_orL (fS P a) (if x ≤ 1 then 0 else fS P b)) (if x ≤ 2 then 0 else fS P c)) (-1)) = 0 := ⟨fun z9 => z9.2.2.2, fun z9 => ⟨by assumption, fun z8 => by first | assumption | omega, fun z8 => by first | assumption | omega, z9⟩⟩
                          rw [if_pos (by omega), if_neg (by omega)] at etp
                          have hyes : tp P x g9 a b c := etp.mpr (by assumption)
                          conv => whnf
                          refine ⟨(by first | assumption | rfl), ?_⟩
                          try simp (disch := omega) only [Int.cast_ofNat_Int, up_s, up_a, up_i, mp_a, mp_ge]
                          try simp only [r30]
                          try simp only [r80]
                          try simp only [r82]
                          try simp only [eka]
                          try simp only [ekb]
                          try simp only [ekc]
                          try simp only [hsa]
                          try simp only [esb]
                          try simp only [esc]
                          conv => whnf
                          refine ⟨(by first | assumption | rfl), ?_⟩
                          try simp (disch := omega) only [Int.cast_ofNat_Int, up_s, up_a, up_i, mp_a, mp_ge]
                          try simp only [r30]
                          try simp only [r80]
                          try simp only [r82]
                          try simp only [eka]
                          try simp only [ekb]
                          try simp only [ekc]
                          try simp only [hsa]
                          try simp only [esb]
                          try simp only [esc]
                          conv => whnf
                          refine ⟨sx_ixI (by first | assumption | rfl) (by omega) (by omega), ?_⟩
                          conv => whnf
                          refine ⟨(by first | assumption | rfl), ?_⟩
                          try simp (disch := omega) only [Int.cast_ofNat_Int, up_s, up_a, up_i, mp_a, mp_ge]
                          try simp only [r30]
                          try simp only [r80]
                          try simp only [r82]
                          try simp only [eka]
                          try simp only [ekb]
                          try simp only [ekc]
                          try simp only [hsa]
                          try simp only [esb]
                          try simp only [esc]
                          conv => whnf
                          refine ⟨sx_ixI (by first | assumption | rfl) (by omega) (by omega), ?_⟩
                          conv => whnf
                          refine ⟨(by first | assumption | rfl), ?_⟩
                          try simp (disch := omega) only [Int.cast_ofNat_Int, up_s, up_a, up_i, mp_a, mp_ge]
                          try simp only [r30]
                          try simp only [r80]
                          try simp only [r82]
                          try simp only [eka]
                          try simp only [ekb]
                          try simp only [ekc]
                          try simp only [hsa]
                          try simp only [esb]
                          try simp only [esc]
                          conv => whnf
                          refine ⟨sx_ixI (by first | assumption | rfl) (by omega) (by omega), ?_⟩
                          conv => whnf
                          refine ⟨rfl, ?_⟩
                          refine h1 a b c ⟨⟨ha0, by omega, by omega, by omega, by omega, by omega, hyes⟩, hna, hnb, hnc⟩
                        · simp only [sx_cc, Classical.not_not] at g
                          try simp only [cmp_eq, cmp_lt, cmp_ge, Classical.not_not] at g
                          have etp : tp P x g9 a b c ↔ sx_andL g9 (sx_xorL (sx_orL (sx_orL (fS P a) (if x ≤ 1 then 0 else fS P b)) (if x ≤ 2 then 0 else fS P c)) (-1)) = 0 := ⟨fun z9 => z9.2.2.2, fun z9 => ⟨by assumption, fun z8 => by first | assumption | omega, fun z8 => by first | assumption | omega, z9⟩⟩
                          rw [if_pos (by omega), if_neg (by omega)] at etp
                          have hno : ¬ tp P x g9 a b c := fun z9 => absurd (etp.mp z9) (by assumption)
                          conv => whnf
                          refine ⟨⟨by omega, by omega⟩, ?_⟩
                          conv => whnf
                          refine ⟨_, ?_, Or.inr (Or.inr (⟨rfl, _, _, _, _, _, rfl, rfl, ?_, rfl⟩))⟩
                          · omega
                          · refine ⟨rfl, ha0, ha1, hb0, hb1, by omega, by omega, hna, hnb, fun k y0 y1 => ?_⟩
                            by_cases e9 : k = c
                            · subst e9; exact hno
                            · exact hnc k y0 (by omega)
                    · simp only [sx_cc, Classical.not_not] at g
                      have esb := hsb (by omega)
                      conv => whnf
                      refine ⟨(by first | assumption | rfl), ?_⟩
                      try simp (disch := omega) only [Int.cast_ofNat_Int, up_s, up_a, up_i, mp_a, mp_ge]
                      try simp only [r30]
                      try simp only [r80]
                      try simp only [r82]
                      try simp only [eka]
                      try simp only [ekb]
                      try simp only [ekc]
                      try simp only [hsa]
                      try simp only [esb]
                      try simp only [esc]
                      conv => whnf
                      refine ⟨sx_ixI (by first | assumption | rfl) (by omega) (by omega), ?_⟩
                      try simp (disch := omega) only [Int.cast_ofNat_Int, up_s, up_a, up_i, mp_a, mp_ge]
                      try simp only [r30]
                      try simp only [r80]
                      try simp only [r82]
                      try simp only [eka]
                      try simp only [ekb]
                      try simp only [ekc]
                      try simp only [hsa]
                      try simp only [esb]
                      try simp only [esc]
                      conv => whnf
                      refine ⟨fun g => ?_, fun g => ?_⟩
                      · simp only [sx_cc, Classical.not_not] at g
                        conv => whnf
                        refine ⟨fun g => ?_, fun g => ?_⟩
                        · simp only [sx_cc, Classical.not_not] at g
                          try simp only [cmp_eq, cmp_lt, cmp_ge, Classical.not_not] at g
                          have etp : tp P x g9 a b c ↔ sx_andL g9 (sx_xorL (sx_orL (sx_orL (fS P a) (if x ≤ 1 then 0 else fS P b)) (if x ≤ 2 then 0 else fS P c)) (-1)) = 0 := ⟨fun z9 => z9.2.2.2, fun z9 => ⟨by assumption, fun z8 => by first | assumption | omega, fun z8 => by first | assumption | omega, z9⟩⟩
                          rw [if_neg (by omega), if_pos (by omega)] at etp
                          have hyes : tp P x g9 a b c := etp.mpr (by assumption)
                          conv => whnf
                          refine ⟨(by first | assumption | rfl), ?_⟩
                          try simp (disch := omega) only [Int.cast_ofNat_Int, up_s, up_a, up_i, mp_a, mp_ge]
                          try simp only [r30]
                          try simp only [r80]
                          try simp only [r82]
                          try simp only [eka]
                          try simp only [ekb]
                          try simp only [ekc]
                          try simp only [hsa]
                          try simp only [esb]
                          try simp only [esc]
                          conv => whnf
                          refine ⟨(by first | assumption | rfl), ?_⟩
                          try simp (disch := omega) only [Int.cast_ofNat_Int, up_s, up_a, up_i, mp_a, mp_ge]
                          try simp only [r30]
                          try simp only [r80]
                          try simp only [r82]
                          try simp only [eka]
                          try simp only [ekb]
                          try simp only [ekc]
                          try simp only [hsa]
                          try simp only [esb]
                          try simp only [esc]
                          conv => whnf
                          refine ⟨sx_ixI (by first | assumption | rfl) (by omega) (by omega), ?_⟩
                          conv => whnf
                          refine ⟨(by first | assumption | rfl), ?_⟩
                          try simp (disch := omega) only [Int.cast_ofNat_Int, up_s, up_a, up_i, mp_a, mp_ge]
                          try simp only [r30]
                          try simp only [r80]
                          try simp only [r82]
                          try simp only [eka]
                          try simp only [ekb]
                          try simp only [ekc]
                          try simp only [hsa]
                          try simp only [esb]
                          try simp only [esc]
                          conv => whnf
                          refine ⟨sx_ixI (by first | assumption | rfl) (by omega) (by omega), ?_⟩
                          conv => whnf
                          refine ⟨(by first | assumption | rfl), ?_⟩
                          try simp (disch := omega) only [Int.cast_ofNat_Int, up_s, up_a, up_i, mp_a, mp_ge]
                          try simp only [r30]
                          try simp only [r80]
                          try simp only [r82]
                          try simp only [eka]
                          try simp only [ekb]
                          try simp only [ekc]
                          try simp only [hsa]
                          try simp only [esb]
                          try simp only [esc]
                          conv => whnf
                          refine ⟨sx_ixI (by first | assumption | rfl) (by omega) (by omega), ?_⟩
                          conv => whnf
                          refine ⟨rfl, ?_⟩
                          refine h1 a b c ⟨⟨ha0, by omega, by omega, by omega, by omega, by omega, hyes⟩, hna, hnb, hnc⟩
                        · simp only [sx_cc, Classical.not_not] at g
                          try simp only [cmp_eq, cmp_lt, cmp_ge, Classical.not_not] at g
                          have etp : tp P x g9 a b c ↔ sx_andL g9 (sx_xorL (sx_orL (sx_orL (fS P a) (if x ≤ 1 then 0 else fS P b)) (if x ≤ 2 then 0 else fS P c)) (-1)) = 0 := ⟨fun z9 => z9.2.2.2, fun z9 => ⟨by assumption, fun z8 => by first | assumption | omega, fun z8 => by first | assumption | omega, z9⟩⟩
                          rw [if_neg (by omega), if_pos (by omega)] at etp
                          have hno : ¬ tp P x g9 a b c := fun z9 => absurd (etp.mp z9) (by assumption)
                          conv => whnf
                          refine ⟨⟨by omega, by omega⟩, ?_⟩
                          conv => whnf
                          refine ⟨_, ?_, Or.inr (Or.inr (⟨rfl, _, _, _, _, _, rfl, rfl, ?_, rfl⟩))⟩
                          · omega
                          · refine ⟨rfl, ha0, ha1, hb0, hb1, by omega, by omega, hna, hnb, fun k y0 y1 => ?_⟩
                            by_cases e9 : k = c
                            · subst e9; exact hno
                            · exact hnc k y0 (by omega)
                      · simp only [sx_cc, Classical.not_not] at g
                        have esc := hsc (by omega)
                        conv => whnf
                        refine ⟨(by first | assumption | rfl), ?_⟩
                        try simp (disch := omega) only [Int.cast_ofNat_Int, up_s, up_a, up_i, mp_a, mp_ge]
                        try simp only [r30]
                        try simp only [r80]
                        try simp only [r82]
                        try simp only [eka]
                        try simp only [ekb]
                        try simp only [ekc]
                        try simp only [hsa]
                        try simp only [esb]
                        try simp only [esc]
                        conv => whnf
                        refine ⟨sx_ixI (by first | assumption | rfl) (by omega) (by omega), ?_⟩
                        try simp (disch := omega) only [Int.cast_ofNat_Int, up_s, up_a, up_i, mp_a, mp_ge]
                        try simp only [r30]
                        try simp only [r80]
                        try simp only [r82]
                        try simp only [eka]
                        try simp only [ekb]
                        try simp only [ekc]
                        try simp only [hsa]
                        try simp only [esb]
                        try simp only [esc]
                        conv => whnf
                        refine ⟨fun g => ?_, fun g => ?_⟩
                        · simp only [sx_cc, Classical.not_not] at g
                          try simp only [cmp_eq, cmp_lt, cmp_ge, Classical.not_not] at g
                          have etp : tp P x g9 a b c ↔ sx_andL g9 (sx_xorL (sx_orL (sx_orL (fS P a) (if x ≤ 1 then 0 else fS P b)) (if x ≤ 2 then 0 else fS P c)) (-1)) = 0 := ⟨fun z9 => z9.2.2.2, fun z9 => ⟨by assumption, fun z8 => by first | assumption | omega, fun z8 => by first | assumption | omega, z9⟩⟩
                          rw [if_neg (by omega), if_neg (by omega)] at etp
                          have hyes : tp P x g9 a b c := etp.mpr (by assumption)
                          conv => whnf
                          refine ⟨(by first | assumption | rfl), ?_⟩
                          try simp (disch := omega) only [Int.cast_ofNat_Int, up_s, up_a, up_i, mp_a, mp_ge]
                          try simp only [r30]
                          try simp only [r80]
                          try simp only [r82]
                          try simp only [eka]
                          try simp only [ekb]
                          try simp only [ekc]
                          try simp only [hsa]
                          try simp only [esb]
                          try simp only [esc]
                          conv => whnf
                          refine ⟨(by first | assumption | rfl), ?_⟩
                          try simp (disch := omega) only [Int.cast_ofNat_Int, up_s, up_a, up_i, mp_a, mp_ge]
                          try simp only [r30]
                          try simp only [r80]
                          try simp only [r82]
                          try simp only [eka]
                          try simp only [ekb]
                          try simp only [ekc]
                          try simp only [hsa]
                          try simp only [esb]
                          try simp only [esc]
                          conv => whnf
                          refine ⟨sx_ixI (by first | assumption | rfl) (by omega) (by omega), ?_⟩
                          conv => whnf
                          refine ⟨(by first | assumption | rfl), ?_⟩
                          try simp (disch := omega) only [Int.cast_ofNat_Int, up_s, up_a, up_i, mp_a, mp_ge]
                          try simp only [r30]
                          try simp only [r80]
                          try simp only [r82]
                          try simp only [eka]
                          try simp only [ekb]
                          try simp only [ekc]
                          try simp only [hsa]
                          try simp only [esb]
                          try simp only [esc]
                          conv => whnf
                          refine ⟨sx_ixI (by first | assumption | rfl) (by omega) (by omega), ?_⟩
                          conv => whnf
                          refine ⟨(by first | assumption | rfl), ?_⟩
                          try simp (disch := omega) only [Int.cast_ofNat_Int, up_s, up_a, up_i, mp_a, mp_ge]
                          try simp only [r30]
                          try simp only [r80]
                          try simp only [r82]
                          try simp only [eka]
                          try simp only [ekb]
                          try simp only [ekc]
                          try simp only [hsa]
                          try simp only [esb]
                          try simp only [esc]
                          conv => whnf
                          refine ⟨sx_ixI (by first | assumption | rfl) (by omega) (by omega), ?_⟩
                          conv => whnf
                          refine ⟨rfl, ?_⟩
                          refine h1 a b c ⟨⟨ha0, by omega, by omega, by omega, by omega, by omega, hyes⟩, hna, hnb, hnc⟩
                        · simp only [sx_cc, Classical.not_not] at g
                          try simp only [cmp_eq, cmp_lt, cmp_ge, Classical.not_not] at g
                          have etp : tp P x g9 a b c ↔ sx_andL g9 (sx_xorL (sx_orL (sx_orL (fS P a) (if x ≤ 1 then 0 else fS P b)) (if x ≤ 2 then 0 else fS P c)) (-1)) = 0 := ⟨fun z9 => z9.2.2.2, fun z9 => ⟨by assumption, fun z8 => by first | assumption | omega, fun z8 => by first | assumption | omega, z9⟩⟩
                          rw [if_neg (by omega), if_neg (by omega)] at etp
                          have hno : ¬ tp P x g9 a b c := fun z9 => absurd (etp.mp z9) (by assumption)
                          conv => whnf
                          refine ⟨⟨by omega, by omega⟩, ?_⟩
                          conv => whnf
                          refine ⟨_, ?_, Or.inr (Or.inr (⟨rfl, _, _, _, _, _, rfl, rfl, ?_, rfl⟩))⟩
                          · omega
                          · refine ⟨rfl, ha0, ha1, hb0, hb1, by omega, by omega, hna, hnb, fun k y0 y1 => ?_⟩
                            by_cases e9 : k = c
                            · subst e9; exact hno
                            · exact hnc k y0 (by omega)
                  · simp only [sx_cc, Classical.not_not] at g
                    have hno : ¬ tp P x g9 a b c := fun z9 => z9.2.2.1 (by omega) (by assumption)
                    conv => whnf
                    refine ⟨⟨by omega, by omega⟩, ?_⟩
                    conv => whnf
                    refine ⟨_, ?_, Or.inr (Or.inr (⟨rfl, _, _, _, _, _, rfl, rfl, ?_, rfl⟩))⟩
                    · omega
                    · refine ⟨rfl, ha0, ha1, hb0, hb1, by omega, by omega, hna, hnb, fun k y0 y1 => ?_⟩
                      by_cases e9 : k = c
                      · subst e9; exact hno
                      · exact hnc k y0 (by omega)
end SXM17
