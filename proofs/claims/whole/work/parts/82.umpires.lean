/-! UMPIRES, class side (by wip/whole) -/
section SXM15
variable {X : sx_X} {Q : sx_R} {p : Int} {σ σ0 σ' σ1 σ2 : sx_S} {P : aP} {A : aM}
abbrev pGnd (P : aP) (g : Int) : Prop := 0 ≤ g ∧ sx_shrL g (P.w * P.h) = 0 ∧ ∀ c : Int, 0 ≤ c → c < P.w * P.h → sx_andL (sx_shrL g c) 1 = 1 → ¬ P.ki c = 1
def fS (P : aP) (a : Int) : Int := if P.ki a = 1 then 0 else aSee P a
def cv (P : aP) (g a : Int) : Int := sx_andL g (sx_xorL (fS P a) (-1))
def max9 (a b : Int) : Int := if a ≤ b then b else a
def pL1 (P : aP) (N g a : Int) : Prop := 0 ≤ a ∧ a < N ∧ cv P g a = 0 ∧ ∀ j : Int, 0 ≤ j → j < a → ¬ cv P g j = 0
def pN1 (P : aP) (N g : Int) : Prop := ∀ j : Int, 0 ≤ j → j < N → ¬ cv P g j = 0
def pL2 (P : aP) (N s g a b : Int) : Prop := s ≤ a ∧ a < b ∧ b < N ∧ cv P (cv P g a) b = 0 ∧ (∀ i j : Int, s ≤ i → i < a → i < j → j < N → ¬ cv P (cv P g i) j = 0) ∧ ∀ j : Int, a < j → j < b → ¬ cv P (cv P g a) j = 0
def pN2 (P : aP) (N s g : Int) : Prop := ∀ i j : Int, s ≤ i → i < j → j < N → ¬ cv P (cv P g i) j = 0
def pL3 (P : aP) (N g a b c : Int) : Prop := 0 ≤ a ∧ a < N ∧ pL2 P N (a + 1) (cv P g a) b c ∧ ∀ i : Int, 0 ≤ i → i < a → pN2 P N (i + 1) (cv P g i)
def pN3 (P : aP) (N g : Int) : Prop := ∀ i : Int, 0 ≤ i → i < N → pN2 P N (i + 1) (cv P g i)
/-- how many, and which -/
def pUm (P : aP) (N g m : Int) (u : Int → Int) : Prop := (m = 0 ∧ g = 0) ∨ (¬ g = 0 ∧ m = 1 ∧ pL1 P N g (u 0)) ∨ (¬ g = 0 ∧ m = 2 ∧ pN1 P N g ∧ pL2 P N 0 g (u 0) (u 1)) ∨ (¬ g = 0 ∧ m = 3 ∧ pN1 P N g ∧ pN2 P N 0 g ∧ pL3 P N g (u 0) (u 1) (u 2)) ∨ (¬ g = 0 ∧ m = -2 ∧ pN1 P N g ∧ pN2 P N 0 g ∧ pN3 P N g)
set_option maxRecDepth 20000 in
theorem c_gnd (hp : isP p) (wp : wP P) (hT : PT σ) (gp : cP p σ P) {g9 : Int} (hg : -9223372036854775808 ≤ g9 ∧ g9 ≤ 9223372036854775807) (h1 : pGnd P g9 → Q (some (.inl 1)) shM σ) (h0 : ¬ pGnd P g9 → Q (some (.inl 0)) shM σ) : sx_Run X 71 [.inr (.inr 121), .inr (.inr p), .inr (.inl g9)] shM σ Q := by
  have q0 := lkP0 hp
  have q1 := lkP1 hp
  have t2 := ptP_2 hT hp
  have v4 := wp.wh
  refine sx_rule2 (own := 8) (cd := kX8_isGround) (nL := 5) (by decide +kernel) (by decide +kernel) kX8_isGround_ok (by decide +kernel) (Nat.le_of_ble_eq_true rfl) [22] 40 (fun n t L st _ σ' => (t = 22 ∧ ∃ i : Int, st = [] ∧ L = [some (.inr (.inr (121))), some (.inr (.inr (p))), some (.inr (.inl (g9))), none, some (.inl (i))] ∧ (σ' = σ ∧ 0 ≤ g9 ∧ sx_shrL g9 (P.w * P.h) = 0 ∧ (∀ c : Int, 0 ≤ c → c < i → sx_andL (sx_shrL g9 c) 1 = 1 → ¬ P.ki c = 1) ∧ 0 ≤ i ∧ i ≤ P.w * P.h) ∧ n = (100 - i).toNat)) ?_ ?_
  · skip
    conv => whnf
    refine ⟨fun g => ?_, fun g => ?_⟩
    · simp only [sx_cc, Classical.not_not] at g
      try simp only [cmp_eq, cmp_lt, cmp_ge, Classical.not_not] at g
      conv => whnf
      refine ⟨fun q9 => by first | (simp at q9; done) | omega, ?_⟩
      first | exact h0 (fun z9 => by have z8 := z9.2.1; rw [← shr_eq ⟨by omega, hg.2⟩ ⟨by omega, by omega⟩] at z8; omega) | exact h0 (fun z9 => by omega)
    · simp only [sx_cc, Classical.not_not] at g
      try simp only [cmp_eq, cmp_lt, cmp_ge, Classical.not_not] at g
      conv => whnf
      refine ⟨Nat.le_of_ble_eq_true rfl, Nat.le_of_ble_eq_true rfl, (by first | assumption | rfl), ?_⟩
      refine c_Pcells hp (gp.pd wp) ?_
      rw [gp.w, gp.h]
      conv => whnf
      refine ⟨fun g => ?_, fun g => ?_⟩
      · simp only [sx_cc, Classical.not_not] at g
        try simp only [cmp_eq, cmp_lt, cmp_ge, Classical.not_not] at g
        conv => whnf
        refine ⟨_, ⟨rfl, _, rfl, rfl, ?_, rfl⟩⟩
        exact ⟨rfl, by omega, by rw [← shr_eq ⟨by omega, hg.2⟩ ⟨by omega, by omega⟩]; assumption, fun c y0 y1 => by omega, by omega, by omega⟩
      · simp only [sx_cc, Classical.not_not] at g
        try simp only [cmp_eq, cmp_lt, cmp_ge, Classical.not_not] at g
        conv => whnf
        refine ⟨fun q9 => by first | (simp at q9; done) | omega, ?_⟩
        first | exact h0 (fun z9 => by have z8 := z9.2.1; rw [← shr_eq ⟨by omega, hg.2⟩ ⟨by omega, by omega⟩] at z8; omega) | exact h0 (fun z9 => by omega)
  · intro n t L st σ' hk
    obtain ⟨rfl, i, rfl, rfl, hc, rfl⟩ := hk
    obtain ⟨rfl, hz, hs, hno, hi0, hi1⟩ := hc
    conv => whnf
    refine ⟨Nat.le_of_ble_eq_true rfl, Nat.le_of_ble_eq_true rfl, (by first | assumption | rfl), ?_⟩
    refine c_Pcells hp (gp.pd wp) ?_
    rw [gp.w, gp.h]
    conv => whnf
    refine ⟨fun g => ?_, fun g => ?_⟩
    · simp only [sx_cc, Classical.not_not] at g
      conv => whnf
      refine ⟨fun q9 => by first | (simp at q9; done) | omega, ?_⟩
      exact h1 ⟨hz, hs, fun c y0 y1 => hno c y0 (by omega)⟩
    · simp only [sx_cc, Classical.not_not] at g
      have eki := gp.ki i hi0 (by omega)
      have esh := shr_eq (g := g9) (y := i) ⟨by omega, hg.2⟩ ⟨hi0, by omega⟩
      conv => whnf
      refine ⟨fun g => ?_, fun g => ?_⟩
      · simp only [sx_cc, Classical.not_not] at g
        try simp only [cmp_eq, cmp_lt, cmp_ge, Classical.not_not] at g
        conv => whnf
        refine ⟨⟨by omega, by omega⟩, ?_⟩
        conv => whnf
        refine ⟨_, ?_, ⟨rfl, _, rfl, rfl, ?_, rfl⟩⟩
        · omega
        · refine ⟨rfl, hz, hs, fun c y0 y1 y2 => ?_, by omega, by omega⟩
          by_cases e9 : c = i
          · subst e9; first | assumption | (rw [← esh] at y2; exact absurd y2 (by assumption))
          · exact hno c y0 (by omega) y2
      · simp only [sx_cc, Classical.not_not] at g
        try simp only [cmp_eq, cmp_lt, cmp_ge, Classical.not_not] at g
        conv => whnf
        refine ⟨(by first | assumption | rfl), ?_⟩
        try simp (disch := omega) only [Int.cast_ofNat_Int, up_s, up_a, up_i, mp_a, mp_ge]
        try simp only [t2]
        try simp only [eki]
        conv => whnf
        refine ⟨sx_ixI (by first | assumption | rfl) (by omega) (by omega), ?_⟩
        try simp (disch := omega) only [Int.cast_ofNat_Int, up_s, up_a, up_i, mp_a, mp_ge]
        try simp only [t2]
        try simp only [eki]
        conv => whnf
        refine ⟨fun g => ?_, fun g => ?_⟩
        · simp only [sx_cc, Classical.not_not] at g
          conv => whnf
          refine ⟨⟨by omega, by omega⟩, ?_⟩
          conv => whnf
          refine ⟨_, ?_, ⟨rfl, _, rfl, rfl, ?_, rfl⟩⟩
          · omega
          · refine ⟨rfl, hz, hs, fun c y0 y1 y2 => ?_, by omega, by omega⟩
            by_cases e9 : c = i
            · subst e9; first | assumption | (rw [← esh] at y2; exact absurd y2 (by assumption))
            · exact hno c y0 (by omega) y2
        · simp only [sx_cc, Classical.not_not] at g
          conv => whnf
          refine ⟨fun q9 => by first | (simp at q9; done) | omega, ?_⟩
          exact h0 (fun z9 => z9.2.2 i hi0 (by omega) (by rw [← esh]; assumption) (by assumption))
set_option maxRecDepth 20000 in
theorem c_one (hT : PT σ) {N g9 k s9 : Int} (hs : ∀ c : Int, 0 ≤ c → c < N → σ 123 c = fS P c) (hN : 0 ≤ N ∧ N ≤ 48) (hk : 0 ≤ k ∧ k < 3) (hs9 : 0 ≤ s9) (h1 : ∀ c : Int, s9 ≤ c → c < N → cv P g9 c = 0 → (∀ j : Int, s9 ≤ j → j < c → ¬ cv P g9 j = 0) → Q (some (.inl 1)) shM (sx_up σ 122 k c)) (h0 : (∀ j : Int, s9 ≤ j → j < N → ¬ cv P g9 j = 0) → Q (some (.inl 0)) shM σ) : sx_Run X 74 [.inr (.inr 121), .inr (.inl g9), .inl k, .inl s9, .inl N] shM σ Q := by
  have a1 := pt_121_1 hT
  have a0 := pt_121_0 hT
  refine sx_rule2 (own := 8) (cd := kX8_chooseOne) (nL := 7) (by decide +kernel) (by decide +kernel) kX8_chooseOne_ok (by decide +kernel) (Nat.le_of_ble_eq_true rfl) [4] 40 (fun n t L st _ σ' => (t = 4 ∧ ∃ i : Int, st = [] ∧ L = [some (.inr (.inr (121))), some (.inr (.inl (g9))), none, some (.inl (k)), some (.inl (s9)), some (.inl (N)), some (.inl (i))] ∧ (σ' = σ ∧ (∀ j : Int, s9 ≤ j → j < i → ¬ cv P g9 j = 0) ∧ s9 ≤ i ∧ i ≤ max9 s9 N) ∧ n = (100 + N - i).toNat)) ?_ ?_
  · skip
    conv => whnf
    refine ⟨_, ⟨rfl, _, rfl, rfl, ?_, rfl⟩⟩
    exact ⟨rfl, fun j y0 y1 => by omega, by omega, by unfold max9; split <;> omega⟩
  · intro n t L st σ' hk
    obtain ⟨rfl, i, rfl, rfl, hc, rfl⟩ := hk
    obtain ⟨rfl, hno, hi0, hi1⟩ := hc
    conv => whnf
    refine ⟨fun g => ?_, fun g => ?_⟩
    · simp only [sx_cc, Classical.not_not] at g
      conv => whnf
      refine ⟨fun q9 => by first | (simp at q9; done) | omega, ?_⟩
      exact h0 (fun j y0 y1 => hno j y0 (by omega))
    · simp only [sx_cc, Classical.not_not] at g
      have es := hs i (by omega) (by omega)
      conv => whnf
      refine ⟨(by first | assumption | rfl), ?_⟩
      try simp (disch := omega) only [Int.cast_ofNat_Int, up_s, up_a, up_i, mp_a, mp_ge]
      try simp only [a0]
      try simp only [a1]
      try simp only [es]
      conv => whnf
      refine ⟨sx_ixI (by first | assumption | rfl) (by omega) (by omega), ?_⟩
      try simp (disch := omega) only [Int.cast_ofNat_Int, up_s, up_a, up_i, mp_a, mp_ge]
      try simp only [a0]
      try simp only [a1]
      try simp only [es]
      conv => whnf
      refine ⟨fun g => ?_, fun g => ?_⟩
      · simp only [sx_cc, Classical.not_not] at g
        try simp only [cmp_eq, cmp_lt, cmp_ge, Classical.not_not] at g
        conv => whnf
        refine ⟨⟨by omega, by omega⟩, ?_⟩
        conv => whnf
        refine ⟨_, ?_, ⟨rfl, _, rfl, rfl, ?_, rfl⟩⟩
        · omega
        · refine ⟨rfl, fun j y0 y1 => ?_, by omega, by unfold max9 at hi1 ⊢; split <;> split at hi1 <;> omega⟩
          by_cases e9 : j = i
          · subst e9; assumption
          · exact hno j y0 (by omega)
      · simp only [sx_cc, Classical.not_not] at g
        try simp only [cmp_eq, cmp_lt, cmp_ge, Classical.not_not] at g
        conv => whnf
        refine ⟨(by first | assumption | rfl), ?_⟩
        try simp (disch := omega) only [Int.cast_ofNat_Int, up_s, up_a, up_i, mp_a, mp_ge]
        try simp only [a0]
        try simp only [a1]
        try simp only [es]
        conv => whnf
        refine ⟨sx_ixI (by first | assumption | rfl) (by omega) (by omega), ?_⟩
        conv => whnf
        refine ⟨fun q9 => by first | (simp at q9; done) | omega, ?_⟩
        exact h1 i hi0 (by omega) (by assumption) hno
set_option maxRecDepth 20000 in
theorem c_two (hT : PT σ) {N g9 k s9 : Int} (hs : ∀ c : Int, 0 ≤ c → c < N → σ 123 c = fS P c) (hN : 0 ≤ N ∧ N ≤ 48) (hk : 0 ≤ k ∧ k < 2) (hs9 : 0 ≤ s9) (h1 : ∀ (a c : Int) (σ' : sx_S), pL2 P N s9 g9 a c → (∀ b i : Int, ¬ b = 122 → σ' b i = σ b i) → σ' 122 k = a → σ' 122 (k + 1) = c → (∀ j : Int, j < k → σ' 122 j = σ 122 j) → Q (some (.inl 1)) shM σ') (h0 : ∀ σ', pN2 P N s9 g9 → (∀ b i : Int, ¬ b = 122 → σ' b i = σ b i) → (∀ j : Int, j < k → σ' 122 j = σ 122 j) → Q (some (.inl 0)) shM σ') : sx_Run X 73 [.inr (.inr 121), .inr (.inl g9), .inl k, .inl s9, .inl N] shM σ Q := by
  refine sx_rule2 (own := 8) (cd := kX8_chooseTwo) (nL := 7) (by decide +kernel) (by decide +kernel) kX8_chooseTwo_ok (by decide +kernel) (Nat.le_of_ble_eq_true rfl) [4] 40 (fun n t L st _ σ' => (t = 4 ∧ ∃ i : Int, st = [] ∧ L = [some (.inr (.inr (121))), some (.inr (.inl (g9))), none, some (.inl (k)), some (.inl (s9)), some (.inl (N)), some (.inl (i))] ∧ ((∀ b i : Int, ¬ b = 122 → σ' b i = σ b i) ∧ (∀ j : Int, j < k → σ' 122 j = σ 122 j) ∧ (∀ a j : Int, s9 ≤ a → a < i → a < j → j < N → ¬ cv P (cv P g9 a) j = 0) ∧ s9 ≤ i ∧ i ≤ max9 s9 N) ∧ n = (100 + N - i).toNat)) ?_ ?_
  · skip
    conv => whnf
    refine ⟨_, ⟨rfl, _, rfl, rfl, ?_, rfl⟩⟩
    exact ⟨fun b i z9 => rfl, fun j y0 => rfl, fun a j y0 y1 y2 y3 => by omega, by omega, by unfold max9; split <;> omega⟩
  · intro n t L st σ' hk
    obtain ⟨rfl, i, rfl, rfl, hc, rfl⟩ := hk
    obtain ⟨xc, hlow, hno, hi0, hi1⟩ := hc
    have Tc : PT σ' := PT_ar hT (show sx_lk shM 122 = _ from rfl) (by decide) (fun b z9 => funext fun j => xc b j z9)
    have a0 := pt_121_0 Tc
    conv => whnf
    refine ⟨fun g => ?_, fun g => ?_⟩
    · simp only [sx_cc, Classical.not_not] at g
      conv => whnf
      refine ⟨fun q9 => by first | (simp at q9; done) | omega, ?_⟩
      exact h0 _ (fun a j y0 y1 y2 => hno a j y0 (by omega) y1 y2) xc hlow
    · simp only [sx_cc, Classical.not_not] at g
      conv => whnf
      refine ⟨(by first | assumption | rfl), ?_⟩
      try simp (disch := omega) only [Int.cast_ofNat_Int, up_s, up_a, up_i, mp_a, mp_ge]
      try simp only [a0]
      try simp only [a1]
      try simp only [es]
      conv => whnf
      refine ⟨sx_ixI (by first | assumption | rfl) (by omega) (by omega), ?_⟩
      generalize e1 : sx_up σ' 122 k i = σ5
      have x5 : ∀ b j : Int, ¬ b = 122 → σ5 b j = σ b j := fun b j z9 => by rw [← e1, up_a z9]; exact xc b j z9
      have T1 : PT σ5 := by rw [← e1]; exact PT_up Tc (show sx_lk shM 122 = _ from rfl) (by decide)
      have a1 := pt_121_1 T1
      have hs1 : ∀ c : Int, 0 ≤ c → c < N → σ5 123 c = fS P c := fun c y0 y1 => (x5 _ _ (by decide)).trans (hs c y0 y1)
      have es := hs1 i (by omega) (by omega)
      conv => whnf
      refine ⟨(by first | assumption | rfl), ?_⟩
      try simp (disch := omega) only [Int.cast_ofNat_Int, up_s, up_a, up_i, mp_a, mp_ge]
      try simp only [a0]
      try simp only [a1]
      try simp only [es]
      conv => whnf
      refine ⟨sx_ixI (by first | assumption | rfl) (by omega) (by omega), ?_⟩
      try simp (disch := omega) only [Int.cast_ofNat_Int, up_s, up_a, up_i, mp_a, mp_ge]
      try simp only [a0]
      try simp only [a1]
      try simp only [es]
      conv => whnf
      refine ⟨⟨by omega, by omega⟩, ?_⟩
      conv => whnf
      refine ⟨⟨by omega, by omega⟩, ?_⟩
      conv => whnf
      refine ⟨Nat.le_of_ble_eq_true rfl, Nat.le_of_ble_eq_true rfl, (by first | assumption | rfl), ?_⟩
      refine c_one (N := N) (P := P) (g9 := cv P g9 i) T1 hs1 hN ⟨by omega, by omega⟩ (by omega) (fun c z1 z2 z3 z4 => ?_) (fun z0 => ?_)
      · skip
        conv => whnf
        refine ⟨fun g => ?_, fun g => ?_⟩
        · exact absurd g (by simp [sx_cc])
        · skip
          conv => whnf
          refine ⟨fun q9 => by first | (simp at q9; done) | omega, ?_⟩
          exact h1 i c _ ⟨hi0, by omega, z2, z3, fun a j y0 y1 y2 y3 => hno a j y0 y1 y2 y3, fun j y0 y1 => z4 j (by omega) y1⟩ (fun b j z9 => by rw [up_a z9]; exact x5 b j z9) (by rw [up_i (by omega), ← e1, up_s]) up_s (fun j y0 => by rw [up_i (by omega), ← e1, up_i (by omega)]; exact hlow j y0)
      · skip
        conv => whnf
        refine ⟨fun g => ?_, fun g => ?_⟩
        · skip
          conv => whnf
          refine ⟨⟨by omega, by omega⟩, ?_⟩
          conv => whnf
          refine ⟨_, ?_, ⟨rfl, _, rfl, rfl, ?_, rfl⟩⟩
          · omega
          · refine ⟨x5, fun j y0 => by rw [← e1, up_i (by omega)]; exact hlow j y0, fun a j y0 y1 y2 y3 => ?_, by omega, by unfold max9 at hi1 ⊢; split <;> split at hi1 <;> omega⟩
            by_cases e9 : a = i
            · subst e9; exact z0 j (by omega) y3
            · exact hno a j y0 (by omega) y2 y3
        · exact absurd g (by simp [sx_cc])
end SXM15
