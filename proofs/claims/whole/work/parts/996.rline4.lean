/-! LINES ARE TOLD, reference side: the forecast, farms (by wip/whole) -/
section SXR4
variable {X : sx_X} {Q : sx_R} {σ σ0 σ' σ1 σ2 s s' : sx_S} {tx : Int → Int} {n9 p i : Int}
abbrev FCa (m a j : Int) : Prop := (a = 124 ∧ ((7 ≤ j ∧ j ≤ 11) ∨ j = 27)) ∨ (a = 135 ∧ 24 ≤ j ∧ j < 24 + m)
theorem frx_c {m a j : Int} (z : FCa m a j) : FRx a j := by
  unfold FCa at z
  rcases z with z | z
  · exact Or.inl (by omega)
  · refine Or.inr (Or.inl ⟨by omega, by omega, by omega, ?_⟩)
    unfold fHalf
    rw [if_neg (by omega), if_pos (by omega)]
    omega
/-- the forecast well told, m hours -/
def zCastS (s : sx_S) (tx : Int → Int) (n9 i m : Int) : Prop := (1 ≤ m ∧ m ≤ 24) ∧ s 32 7 = 0 ∧ (∀ q : Int, 0 ≤ q → q < m → nF tx n9 0 100 (kI tx n9 q.toNat (kE tx n9 i)) = none) ∧ ¬ kT tx n9 (kI tx n9 m.toNat (kE tx n9 i)) = 21
theorem zCast_u {k pl k' pl' : Int} (h : zCastF s tx n9 i k pl) (h' : zCastF s tx n9 i k' pl') : k = k' ∧ pl = pl' := by
  rcases h with ⟨a1, a2, a3⟩ | ⟨a0, m, m0, m1, a1, a2⟩
  · rcases h' with ⟨_, b2, b3⟩ | ⟨b0, _⟩
    · omega
    · exact absurd b0 a1
  · rcases h' with ⟨b0, _⟩ | ⟨_, m', m0', m1', b1, b2⟩
    · exact absurd a0 b0
    · have hm : m = m' := by
        apply Classical.byContradiction
        intro hne
        by_cases hlt : m < m'
        · have h1 := b1 m m0 hlt
          rcases a2 with ⟨_, _, a3⟩ | ⟨a3, _⟩
          · rw [h1] at a3; exact absurd a3 (by simp)
          · omega
        · have h1 := a1 m' m0' (by omega)
          rcases b2 with ⟨_, _, b3⟩ | ⟨b3, _⟩
          · rw [h1] at b3; exact absurd b3 (by simp)
          · omega
      subst hm
      rcases a2 with ⟨_, _, a3⟩ | ⟨a3, _, a4, a5⟩
      · rcases b2 with ⟨_, _, b3⟩ | ⟨b3, _⟩
        · rw [a3] at b3
          have := Option.some.inj b3
          exact ⟨congrArg Prod.fst this, congrArg Prod.snd this⟩
        · omega
      · rcases b2 with ⟨b3, _⟩ | ⟨_, _, b4, b5⟩
        · omega
        · omega
theorem zCast_no {k pl m : Int} (h : zCastF s tx n9 i k pl) (h' : zCastS s tx n9 i m) : False := by
  obtain ⟨b1, b2, b3, b4⟩ := h'
  rcases h with ⟨a1, _⟩ | ⟨a0, m', m0, m1, a1, a2⟩
  · exact a1 b2
  · rcases a2 with ⟨a3, a4, a5⟩ | ⟨a3, a4, _⟩
    · by_cases hlt : m' < m
      · rw [b3 m' m0 hlt] at a5; exact absurd a5 (by simp)
      · by_cases he : m' = m
        · subst he
          rcases a4 with a4 | a4
          · omega
          · exact b4 a4
        · exact b4 (nF_n (a1 m (by omega) (by omega))).1
    · by_cases he : m' = m
      · subst he; exact b4 a4
      · exact b4 (nF_n (a1 m (by omega) (by omega))).1
theorem zCast_m {m m' : Int} (h : zCastS s tx n9 i m) (h' : zCastS s tx n9 i m') : m = m' := by
  obtain ⟨a1, a2, a3, a4⟩ := h
  obtain ⟨b1, b2, b3, b4⟩ := h'
  apply Classical.byContradiction
  intro hne
  by_cases hlt : m < m'
  · exact a4 (nF_n (b3 m (by omega) hlt)).1
  · exact b4 (nF_n (a3 m' (by omega) (by omega))).1
set_option maxRecDepth 20000 in
theorem r_cast (hq : rQ σ tx n9 i) (hc : cpl p s σ) (hF : ∀ (k pl : Int) (σ' : sx_S), zCastF s tx n9 i k pl → fr FRx σ σ' → rFl σ' k pl → Q (some (.inl 0)) shM σ') (hS : ∀ (m : Int) (σ' : sx_S), zCastS s tx n9 i m → fr (FCa m) σ σ' → rQ σ' tx n9 (kI tx n9 m.toNat (kE tx n9 i)) → σ' 124 27 = 1 → (∀ q : Int, 0 ≤ q → q < m → σ' 135 (24 + q) = nV tx n9 0 100 (kI tx n9 q.toNat (kE tx n9 i))) → Q (some (.inl 1)) shM σ') : sx_Run X 199 [.inr (.inr 124)] shM σ Q := by
  obtain ⟨⟨c18, c19, c20, c21, c22, c51, c23⟩, ⟨c24, c25, c26, c27, c28, c29⟩, ck, cg, cfn, cwn, chl, chb, clw, ckn⟩ := hc
  have ha := hq.tk.2.1
  refine sx_rule2 (own := 12) (cd := kX12_castLine) (nL := 2) (by decide +kernel) (by decide +kernel) kX12_castLine_ok (by decide +kernel) (Nat.le_of_ble_eq_true rfl) [38] 40 (fun n t L st _ σ' => (t = 38 ∧ ∃ y : Int, st = [] ∧ L = [some (.inr (.inr (124))), some (.inl (y))] ∧ (rQ σ' tx n9 (kI tx n9 y.toNat (kE tx n9 i)) ∧ fr (FCa y) σ σ' ∧ σ' 124 27 = 1 ∧ (∀ q : Int, 0 ≤ q → q < y → nF tx n9 0 100 (kI tx n9 q.toNat (kE tx n9 i)) = none ∧ σ' 135 (24 + q) = nV tx n9 0 100 (kI tx n9 q.toNat (kE tx n9 i))) ∧ 0 ≤ y ∧ y ≤ 24 ∧ s 32 7 = 0 ∧ (y = 0 → kT tx n9 (kE tx n9 i) = 21)) ∧ n = (24 - y).toNat)) ?_ ?_
  · skip
    conv => whnf
    refine ⟨(by first | assumption | rfl), ?_⟩
    try simp (disch := omega) only [Int.cast_ofNat_Int, up_s, up_a, up_i, mp_a, mp_ge]
    try simp only [c27]
    try simp only [t38]
    try simp only [v5]
    try simp only [lk_135]
    conv => whnf
    refine ⟨fun g => ?_, fun g => ?_⟩
    · simp only [sx_cc, Classical.not_not] at g
      have h70 : s 32 7 = 0 := by omega
      skip
      conv => whnf
      refine ⟨(by first | assumption | rfl), by omega, ?_⟩
      try simp (disch := omega) only [Int.cast_ofNat_Int, up_s, up_a, up_i, mp_a, mp_ge]
      try simp only [c27]
      try simp only [t38]
      try simp only [v5]
      try simp only [lk_135]
      conv => whnf
      refine ⟨Nat.le_of_ble_eq_true rfl, Nat.le_of_ble_eq_true rfl, (by first | assumption | rfl), ?_⟩
      refine r_tok (rQ_up hq (by unfold FRd; omega)) (fun σ3 hf3 hq3 => ?_)
      have hkz := pKz_21 hq3.tk.2.2
      obtain ⟨k3, _, _, _, _⟩ := hkz
      have ha3 := hq3.tk.2.1
      conv => whnf
      refine ⟨(by first | assumption | rfl), ?_⟩
      try simp (disch := omega) only [Int.cast_ofNat_Int, up_s, up_a, up_i, mp_a, mp_ge]
      try simp only [c27]
      try simp only [t38]
      try simp only [v5]
      try simp only [lk_135]
      conv => whnf
      refine ⟨fun g => ?_, fun g => ?_⟩
      · simp only [sx_cc, Classical.not_not] at g
        have t21 := k3.mp g
        conv => whnf
        refine ⟨_, ⟨rfl, _, rfl, rfl, ?_, rfl⟩⟩
        refine ⟨hq3, fun a j z9 => ?_, ?_, fun q q0 q1 => by omega, by decide, by decide, h70, fun _ => t21⟩
        · unfold FCa at z9; rw [hf3 a j (by unfold FRt; omega), up_n (by omega)]
        · rw [hf3 _ _ (by unfold FRt; omega), up_s]
      · simp only [sx_cc, Classical.not_not] at g
        have t21 : ¬ kT tx n9 (kE tx n9 i) = 21 := fun z => g (k3.mpr z)
        conv => whnf
        refine ⟨Nat.le_of_ble_eq_true rfl, Nat.le_of_ble_eq_true rfl, (by first | assumption | rfl), ?_⟩
        refine r_wrong ?_
        conv => whnf
        refine ⟨fun q9 => by first | (simp at q9; done) | omega, ?_⟩
        exact hF _ _ _ (Or.inr ⟨h70, 0, by decide, by decide, fun q q0 q1 => by omega, Or.inl ⟨by decide, Or.inl rfl, nF_1 t21⟩⟩) (fun a j z9 => by unfold FRx at z9; rw [up_n (by omega), up_n (by omega), hf3 a j (by unfold FRt; omega), up_n (by omega)]) ⟨by rw [up_n (by omega), up_s], by rw [up_s, ha3]; rfl⟩
    · simp only [sx_cc, Classical.not_not] at g
      conv => whnf
      refine ⟨Nat.le_of_ble_eq_true rfl, Nat.le_of_ble_eq_true rfl, (by first | assumption | rfl), ?_⟩
      refine r_wrong ?_
      conv => whnf
      refine ⟨fun q9 => by first | (simp at q9; done) | omega, ?_⟩
      exact hF _ _ _ (Or.inl ⟨by omega, rfl, rfl⟩) (fun a j z9 => by unfold FRx at z9; rw [up_n (by omega), up_n (by omega)]) ⟨by rw [up_n (by omega), up_s], by rw [up_s, ha]⟩
  · intro n t L st σ' hk
    obtain ⟨rfl, y, rfl, rfl, hc, rfl⟩ := hk
    obtain ⟨hqi, hfi, v27, hv, hy0, hy1, h7, hy2⟩ := hc
    have hkz := pKz_21 hqi.tk.2.2
    obtain ⟨k3, _, _, _, _⟩ := hkz
    have hai := hqi.tk.2.1
    have t38 := pt_124_38 hqi.pt
    conv => whnf
    refine ⟨(by first | assumption | rfl), ?_⟩
    try simp (disch := omega) only [Int.cast_ofNat_Int, up_s, up_a, up_i, mp_a, mp_ge]
    try simp only [c27]
    try simp only [t38]
    try simp only [v5]
    try simp only [lk_135]
    conv => whnf
    refine ⟨fun g => ?_, fun g => ?_⟩
    · simp only [sx_cc, Classical.not_not] at g
      have t21 : ¬ kT tx n9 (kI tx n9 y.toNat (kE tx n9 i)) = 21 := fun z => g (k3.mpr z)
      conv => whnf
      refine ⟨fun q9 => by first | (simp at q9; done) | omega, ?_⟩
      have hy9 : 1 ≤ y := by
        by_cases e : y = 0
        · have h1 := hy2 e; rw [e] at t21; exact absurd h1 t21
        · omega
      exact hS y _ ⟨⟨hy9, hy1⟩, h7, fun q q0 q1 => (hv q q0 q1).1, t21⟩ hfi hqi v27 (fun q q0 q1 => (hv q q0 q1).2)
    · simp only [sx_cc, Classical.not_not] at g
      have t21 := k3.mp g
      conv => whnf
      refine ⟨fun g => ?_, fun g => ?_⟩
      · simp only [sx_cc, Classical.not_not] at g
        conv => whnf
        refine ⟨Nat.le_of_ble_eq_true rfl, Nat.le_of_ble_eq_true rfl, (by first | assumption | rfl), ?_⟩
        refine r_num hqi (by decide) (fun k pl σ5 n5 hf5 hl5 => ?_) (fun n5 σ5 hf5 hq5 v5 => ?_)
        · skip
          conv => whnf
          refine ⟨fun g => ?_, fun g => ?_⟩
          · exact absurd g (by simp [sx_cc])
          · skip
            conv => whnf
            refine ⟨fun q9 => by first | (simp at q9; done) | omega, ?_⟩
            exact hF k pl _ (Or.inr ⟨h7, y, by omega, by omega, fun q q0 q1 => (hv q q0 q1).1, Or.inl ⟨by omega, Or.inr t21, n5⟩⟩) (fun a j z9 => by rw [hf5 a j (fun z => z9 (Or.inl (by unfold FRw at z; omega)))]; exact hfi a j (fun z => z9 (frx_c z))) hl5
        · have t38 := pt_124_38 hq5.pt
          conv => whnf
          refine ⟨fun g => ?_, fun g => ?_⟩
          · skip
            conv => whnf
            refine ⟨(by first | assumption | rfl), ?_⟩
            try simp (disch := omega) only [Int.cast_ofNat_Int, up_s, up_a, up_i, mp_a, mp_ge]
            try simp only [c27]
            try simp only [t38]
            try simp only [v5]
            try simp only [lk_135]
            conv => whnf
            refine ⟨⟨by omega, by omega⟩, ?_⟩
            conv => whnf
            refine ⟨(by first | assumption | rfl), ?_⟩
            try simp (disch := omega) only [Int.cast_ofNat_Int, up_s, up_a, up_i, mp_a, mp_ge]
            try simp only [c27]
            try simp only [t38]
            try simp only [v5]
            try simp only [lk_135]
            conv => whnf
            refine ⟨sx_ixI (by first | assumption | rfl) (by omega) (by omega), ?_⟩
            conv => whnf
            refine ⟨⟨by omega, by omega⟩, ?_⟩
            conv => whnf
            refine ⟨_, ?_, ⟨rfl, _, rfl, rfl, ?_, rfl⟩⟩
            · omega
            · refine ⟨?_, fun a j z9 => ?_, ?_, fun q q0 q1 => ?_, by omega, by omega, h7, fun z => by omega⟩
              · rw [kI_s hy0]; exact rQ_up hq5 (by unfold FRd; omega)
              · unfold FCa at z9; rw [up_n (by omega), hf5 a j (by unfold FRg; omega)]; exact hfi a j (by unfold FCa; omega)
              · rw [up_n (by omega), hf5 _ _ (by unfold FRg; omega)]; exact v27
              · by_cases e9 : q = y
                · rw [e9, up_s]; exact ⟨n5, rfl⟩
                · rw [up_n (by omega), hf5 _ _ (by unfold FRg; omega)]; exact hv q q0 (by omega)
          · exact absurd g (by simp [sx_cc])
      · simp only [sx_cc, Classical.not_not] at g
        conv => whnf
        refine ⟨Nat.le_of_ble_eq_true rfl, Nat.le_of_ble_eq_true rfl, (by first | assumption | rfl), ?_⟩
        refine r_wrong ?_
        conv => whnf
        refine ⟨fun q9 => by first | (simp at q9; done) | omega, ?_⟩
        exact hF _ _ _ (Or.inr ⟨h7, y, by omega, by omega, fun q q0 q1 => (hv q q0 q1).1, Or.inr ⟨by omega, t21, rfl, rfl⟩⟩) (fun a j z9 => by rw [up_n (fun z => z9 (Or.inl (by omega))), up_n (fun z => z9 (Or.inl (by omega)))]; exact hfi a j (fun z => z9 (frx_c z))) ⟨by rw [up_n (by omega), up_s], by rw [up_s, hai]⟩
abbrev FFm (m a j : Int) : Prop := (a = 124 ∧ ((7 ≤ j ∧ j ≤ 11) ∨ j = 20 ∨ j = 29)) ∨ (a = 128 ∧ 48 ≤ j) ∨ (a = 129 ∧ j = 3 + m)
abbrev FF0 (m a j : Int) : Prop := (a = 124 ∧ ((7 ≤ j ∧ j ≤ 11) ∨ j = 29)) ∨ (a = 129 ∧ j = 3 + m)
theorem frx_f {m a j : Int} (hm : 0 ≤ m) (z : FF0 m a j) : FRx a j := by
  unfold FF0 at z
  rcases z with z | z
  · exact Or.inl (by omega)
  · refine Or.inr (Or.inl ⟨by omega, by omega, by omega, ?_⟩)
    unfold fHalf
    rw [if_neg (by omega), if_neg (by omega), if_neg (by omega), if_pos (by omega)]
    omega
set_option maxRecDepth 20000 in
theorem r_farm (hq : rQ σ tx n9 i) (hc : cpl p s σ) (wz : wZ p s) (hF0 : 3 ≤ s p 4 → ∀ (σ' : sx_S), fr FRx σ σ' → rFl σ' 2 (kS tx n9 i) → Q (some (.inl 0)) shM σ') (hF : ∀ (k pl : Int) (σ' : sx_S), s p 4 < 3 → zFarm p s tx n9 i = some (k, pl) → fr FRx σ σ' → rFl σ' k pl → Q (some (.inl 0)) shM σ') (hS : s p 4 < 3 → zFarm p s tx n9 i = none → ∀ σ', fr (FFm (s p 4)) σ σ' → rQ σ' tx n9 (kE tx n9 (kE tx n9 (kE tx n9 (kE tx n9 (kE tx n9 (kE tx n9 i)))))) → σ' 124 29 = 1 → (∀ c : Int, 0 ≤ c → c < 48 → σ' 128 (48 + c) = if pRc (s p 0) (nV tx n9 0 (s p 0 - 1) (kE tx n9 (kE tx n9 i))) (nV tx n9 (nV tx n9 0 (s p 0 - 1) (kE tx n9 (kE tx n9 i))) (s p 0 - 1) (kE tx n9 (kE tx n9 (kE tx n9 (kE tx n9 i))))) (nV tx n9 0 (s p 1 - 1) (kE tx n9 (kE tx n9 (kE tx n9 i)))) (nV tx n9 (nV tx n9 0 (s p 1 - 1) (kE tx n9 (kE tx n9 (kE tx n9 i)))) (s p 1 - 1) (kE tx n9 (kE tx n9 (kE tx n9 (kE tx n9 (kE tx n9 i))))) + 1) (nV tx n9 0 (s p 0 - 1) (kE tx n9 (kE tx n9 i))) c then s p 4 else s (p + 2) c) → σ' 129 (3 + s p 4) = aV tx n9 (kE tx n9 i) → σ' 124 20 = s p 4 + 1 → Q (some (.inl 1)) shM σ') : sx_Run X 197 [.inr (.inr 124)] shM σ Q := by
  have hc0 := hc
  obtain ⟨⟨c18, c19, c20, c21, c22, c51, c23⟩, ⟨c24, c25, c26, c27, c28, c29⟩, ck, cg, cfn, cwn, chl, chb, clw, ckn⟩ := hc
  obtain ⟨z0, z1, z2, z3, z4, z5⟩ := wz
  have ha := hq.tk.2.1
  have zx := nV_bd (tx := tx) (n9 := n9) (i := (kE tx n9 (kE tx n9 i))) (lo := 0) (hi := s p 0 - 1) (by omega)
  have zy := nV_bd (tx := tx) (n9 := n9) (i := (kE tx n9 (kE tx n9 (kE tx n9 i)))) (lo := 0) (hi := s p 1 - 1) (by omega)
  have zx2 := nV_bd (tx := tx) (n9 := n9) (i := (kE tx n9 (kE tx n9 (kE tx n9 (kE tx n9 i))))) (lo := nV tx n9 0 (s p 0 - 1) (kE tx n9 (kE tx n9 i))) (hi := s p 0 - 1) (by omega)
  have zy2 := nV_bd (tx := tx) (n9 := n9) (i := (kE tx n9 (kE tx n9 (kE tx n9 (kE tx n9 (kE tx n9 i)))))) (lo := nV tx n9 0 (s p 1 - 1) (kE tx n9 (kE tx n9 (kE tx n9 i)))) (hi := s p 1 - 1) (by omega)
  refine sx_rule2 (own := 12) (cd := kX12_farmLine) (nL := 6) (by decide +kernel) (by decide +kernel) kX12_farmLine_ok (by decide +kernel) (Nat.le_of_ble_eq_true rfl) [123, 135] 40 (fun n t L st _ σ' => (t = 123 ∧ ∃ v : Int, ∃ w5 : Option sx_V, st = [] ∧ L = [some (.inr (.inr (124))), some (.inl (nV tx n9 0 (s p 0 - 1) (kE tx n9 (kE tx n9 i)))), some (.inl (nV tx n9 0 (s p 1 - 1) (kE tx n9 (kE tx n9 (kE tx n9 i))))), some (.inl (nV tx n9 (nV tx n9 0 (s p 0 - 1) (kE tx n9 (kE tx n9 i))) (s p 0 - 1) (kE tx n9 (kE tx n9 (kE tx n9 (kE tx n9 i)))))), some (.inl (v)), w5] ∧ (∃ σ8 : sx_S, fr (FF0 (s p 4)) σ σ8 ∧ rQ σ8 tx n9 (kE tx n9 (kE tx n9 (kE tx n9 (kE tx n9 (kE tx n9 (kE tx n9 i)))))) ∧ σ8 124 29 = 1 ∧ σ8 129 (3 + s p 4) = aV tx n9 (kE tx n9 i) ∧ σ8 124 11 = nV tx n9 (nV tx n9 0 (s p 1 - 1) (kE tx n9 (kE tx n9 (kE tx n9 i)))) (s p 1 - 1) (kE tx n9 (kE tx n9 (kE tx n9 (kE tx n9 (kE tx n9 i))))) ∧ zFarm p s tx n9 i = none ∧ fr (fun a j => a = 128 ∧ 48 ≤ j) σ8 σ' ∧ (∀ c : Int, 0 ≤ c → c < 48 → σ' 128 (48 + c) = if pRc (s p 0) (nV tx n9 0 (s p 0 - 1) (kE tx n9 (kE tx n9 i))) (nV tx n9 (nV tx n9 0 (s p 0 - 1) (kE tx n9 (kE tx n9 i))) (s p 0 - 1) (kE tx n9 (kE tx n9 (kE tx n9 (kE tx n9 i))))) (nV tx n9 0 (s p 1 - 1) (kE tx n9 (kE tx n9 (kE tx n9 i)))) v (nV tx n9 0 (s p 0 - 1) (kE tx n9 (kE tx n9 i))) c then s p 4 else s (p + 2) c) ∧ s p 4 < 3 ∧ nV tx n9 0 (s p 1 - 1) (kE tx n9 (kE tx n9 (kE tx n9 i))) ≤ v ∧ v ≤ nV tx n9 (nV tx n9 0 (s p 1 - 1) (kE tx n9 (kE tx n9 (kE tx n9 i)))) (s p 1 - 1) (kE tx n9 (kE tx n9 (kE tx n9 (kE tx n9 (kE tx n9 i))))) + 1) ∧ n = ((20 - v) * 100 + 50).toNat) ∨ (t = 135 ∧ ∃ v u : Int, st = [] ∧ L = [some (.inr (.inr (124))), some (.inl (nV tx n9 0 (s p 0 - 1) (kE tx n9 (kE tx n9 i)))), some (.inl (nV tx n9 0 (s p 1 - 1) (kE tx n9 (kE tx n9 (kE tx n9 i))))), some (.inl (nV tx n9 (nV tx n9 0 (s p 0 - 1) (kE tx n9 (kE tx n9 i))) (s p 0 - 1) (kE tx n9 (kE tx n9 (kE tx n9 (kE tx n9 i)))))), some (.inl (v)), some (.inl (u))] ∧ (∃ σ8 : sx_S, fr (FF0 (s p 4)) σ σ8 ∧ rQ σ8 tx n9 (kE tx n9 (kE tx n9 (kE tx n9 (kE tx n9 (kE tx n9 (kE tx n9 i)))))) ∧ σ8 124 29 = 1 ∧ σ8 129 (3 + s p 4) = aV tx n9 (kE tx n9 i) ∧ σ8 124 11 = nV tx n9 (nV tx n9 0 (s p 1 - 1) (kE tx n9 (kE tx n9 (kE tx n9 i)))) (s p 1 - 1) (kE tx n9 (kE tx n9 (kE tx n9 (kE tx n9 (kE tx n9 i))))) ∧ zFarm p s tx n9 i = none ∧ fr (fun a j => a = 128 ∧ 48 ≤ j) σ8 σ' ∧ (∀ c : Int, 0 ≤ c → c < 48 → σ' 128 (48 + c) = if pRc (s p 0) (nV tx n9 0 (s p 0 - 1) (kE tx n9 (kE tx n9 i))) (nV tx n9 (nV tx n9 0 (s p 0 - 1) (kE tx n9 (kE tx n9 i))) (s p 0 - 1) (kE tx n9 (kE tx n9 (kE tx n9 (kE tx n9 i))))) (nV tx n9 0 (s p 1 - 1) (kE tx n9 (kE tx n9 (kE tx n9 i)))) v u c then s p 4 else s (p + 2) c) ∧ s p 4 < 3 ∧ nV tx n9 0 (s p 1 - 1) (kE tx n9 (kE tx n9 (kE tx n9 i))) ≤ v ∧ v ≤ nV tx n9 (nV tx n9 0 (s p 1 - 1) (kE tx n9 (kE tx n9 (kE tx n9 i)))) (s p 1 - 1) (kE tx n9 (kE tx n9 (kE tx n9 (kE tx n9 (kE tx n9 i))))) ∧ nV tx n9 0 (s p 0 - 1) (kE tx n9 (kE tx n9 i)) ≤ u ∧ u ≤ nV tx n9 (nV tx n9 0 (s p 0 - 1) (kE tx n9 (kE tx n9 i))) (s p 0 - 1) (kE tx n9 (kE tx n9 (kE tx n9 (kE tx n9 i)))) + 1) ∧ n = ((20 - v) * 100 + 20 - u).toNat)) ?_ ?_
  · skip
    conv => whnf
    refine ⟨(by first | assumption | rfl), ?_⟩
    try simp (disch := omega) only [Int.cast_ofNat_Int, up_s, up_a, up_i, mp_a, mp_ge]
    try simp only [c20]
    try simp only [w18]
    try simp only [w19]
    try simp only [w20]
    try simp only [t32]
    try simp only [t31]
    try simp only [v5]
    try simp only [v6]
    try simp only [v7]
    try simp only [v8]
    try simp only [w11]
    try simp only [lk_128]
    conv => whnf
    refine ⟨fun g => ?_, fun g => ?_⟩
    · simp only [sx_cc, Classical.not_not] at g
      have h3 : s p 4 < 3 := by omega
      skip
      conv => whnf
      refine ⟨Nat.le_of_ble_eq_true rfl, Nat.le_of_ble_eq_true rfl, (by first | assumption | rfl), ?_⟩
      refine r_tok hq (fun σ3 hf3 hq3 => ?_)
      have w20 : σ3 124 20 = s p 4 := (hf3 _ _ (by unfold FRt; omega)).trans c20
      have t32 := pt_124_32 hq3.pt
      have ew := cpl_fa (σ' := σ3) (v := aV tx n9 (kE tx n9 i)) hc0 z2.1 (fun j => hf3 129 j (by unfold FRt; omega))
      conv => whnf
      refine ⟨(by first | assumption | rfl), ?_⟩
      try simp (disch := omega) only [Int.cast_ofNat_Int, up_s, up_a, up_i, mp_a, mp_ge]
      try simp only [c20]
      try simp only [w18]
      try simp only [w19]
      try simp only [w20]
      try simp only [t32]
      try simp only [t31]
      try simp only [v5]
      try simp only [v6]
      try simp only [v7]
      try simp only [v8]
      try simp only [w11]
      try simp only [lk_128]
      conv => whnf
      refine ⟨(by first | assumption | rfl), ?_⟩
      try simp (disch := omega) only [Int.cast_ofNat_Int, up_s, up_a, up_i, mp_a, mp_ge]
      try simp only [c20]
      try simp only [w18]
      try simp only [w19]
      try simp only [w20]
      try simp only [t32]
      try simp only [t31]
      try simp only [v5]
      try simp only [v6]
      try simp only [v7]
      try simp only [v8]
      try simp only [w11]
      try simp only [lk_128]
      conv => whnf
      refine ⟨Nat.le_of_ble_eq_true rfl, Nat.le_of_ble_eq_true rfl, (by first | assumption | rfl), ?_⟩
      refine r_name hq3 (by decide) lk_129 (by omega) (by decide) (fun k pl σ4 n4 hf4 hl4 => ?_) (fun n4 σ4 hf4 hq4 v4 => ?_)
      · rw [ew] at n4
        conv => whnf
        refine ⟨fun g => ?_, fun g => ?_⟩
        · exact absurd g (by simp [sx_cc])
        · skip
          conv => whnf
          refine ⟨fun q9 => by first | (simp at q9; done) | omega, ?_⟩
          exact hF k pl _ h3 (by unfold zFarm; rw [← Option.or_assoc, n4]; rfl) (fun a j z9 => by rw [hf4 a j (fun z => z9 (frx_fw z)), hf3 a j (fun z => z9 (frx_t z))]) hl4
      · rw [ew] at n4
        obtain ⟨n4a, n4b⟩ := or_n n4
        have hg4 : fr (FF0 (s p 4)) σ σ4 := fun a j z => (hf4 a j (by unfold FF0 at z; unfold FRg; omega)).trans (hf3 a j (by unfold FF0 at z; unfold FRt; omega))
        have w18 : σ4 124 18 = s p 0 := (hg4 _ _ (by unfold FF0; omega)).trans c18
        have w19 : σ4 124 19 = s p 1 := (hg4 _ _ (by unfold FF0; omega)).trans c19
        conv => whnf
        refine ⟨fun g => ?_, fun g => ?_⟩
        · skip
          conv => whnf
          refine ⟨(by first | assumption | rfl), by omega, ?_⟩
          try simp (disch := omega) only [Int.cast_ofNat_Int, up_s, up_a, up_i, mp_a, mp_ge]
          try simp only [c20]
          try simp only [w18]
          try simp only [w19]
          try simp only [w20]
          try simp only [t32]
          try simp only [t31]
          try simp only [v5]
          try simp only [v6]
          try simp only [v7]
          try simp only [v8]
          try simp only [w11]
          try simp only [lk_128]
          conv => whnf
          refine ⟨(by first | assumption | rfl), ?_⟩
          try simp (disch := omega) only [Int.cast_ofNat_Int, up_s, up_a, up_i, mp_a, mp_ge]
          try simp only [c20]
          try simp only [w18]
          try simp only [w19]
          try simp only [w20]
          try simp only [t32]
          try simp only [t31]
          try simp only [v5]
          try simp only [v6]
          try simp only [v7]
          try simp only [v8]
          try simp only [w11]
          try simp only [lk_128]
          conv => whnf
          refine ⟨⟨by omega, by omega⟩, ?_⟩
          conv => whnf
          refine ⟨Nat.le_of_ble_eq_true rfl, Nat.le_of_ble_eq_true rfl, (by first | assumption | rfl), ?_⟩
          refine r_num (rQ_up hq4 (by unfold FRd; omega)) (by omega) (fun k pl σ5 n5 hf5 hl5 => ?_) (fun n5 σ5 hf5 hq5 v5 => ?_)
          · skip
            conv => whnf
            refine ⟨fun g => ?_, fun g => ?_⟩
            · exact absurd g (by simp [sx_cc])
            · skip
              conv => whnf
              refine ⟨fun q9 => by first | (simp at q9; done) | omega, ?_⟩
              exact hF k pl _ h3 (by unfold zFarm; rw [n4a, n4b, n5]; rfl) (fun a j z9 => by
                   have z8 : ¬ FF0 (s p 4) a j := fun z => z9 (frx_f z2.1 z)
                   rw [hf5 a j (fun z => z9 (frx_fw z)), up_n (by unfold FF0 at z8; omega)]
                   exact hg4 a j z8) hl5
          · have hg5 : fr (FF0 (s p 4)) σ σ5 := fun a j z => ((hf5 a j (by unfold FF0 at z; unfold FRg; omega)).trans (up_n (by unfold FF0 at z; omega))).trans (hg4 a j z)
            have w18 : σ5 124 18 = s p 0 := (hg5 _ _ (by unfold FF0; omega)).trans c18
            have w19 : σ5 124 19 = s p 1 := (hg5 _ _ (by unfold FF0; omega)).trans c19
            have w20 : σ5 124 20 = s p 4 := (hg5 _ _ (by unfold FF0; omega)).trans c20
            have e29 : σ5 124 29 = 1 := by rw [hf5 _ _ (by unfold FRg; omega), up_s]
            have e129 : σ5 129 (3 + s p 4) = aV tx n9 (kE tx n9 i) := by rw [hf5 _ _ (by unfold FRg; omega), up_n (by omega)]; exact v4
            conv => whnf
            refine ⟨fun g => ?_, fun g => ?_⟩
            · skip
              conv => whnf
              refine ⟨(by first | assumption | rfl), ?_⟩
              try simp (disch := omega) only [Int.cast_ofNat_Int, up_s, up_a, up_i, mp_a, mp_ge]
              try simp only [c20]
              try simp only [w18]
              try simp only [w19]
              try simp only [w20]
              try simp only [t32]
              try simp only [t31]
              try simp only [v5]
              try simp only [v6]
              try simp only [v7]
              try simp only [v8]
              try simp only [w11]
              try simp only [lk_128]
              conv => whnf
              refine ⟨(by first | assumption | rfl), ?_⟩
              try simp (disch := omega) only [Int.cast_ofNat_Int, up_s, up_a, up_i, mp_a, mp_ge]
              try simp only [c20]
              try simp only [w18]
              try simp only [w19]
              try simp only [w20]
              try simp only [t32]
              try simp only [t31]
              try simp only [v5]
              try simp only [v6]
              try simp only [v7]
              try simp only [v8]
              try simp only [w11]
              try simp only [lk_128]
              conv => whnf
              refine ⟨⟨by omega, by omega⟩, ?_⟩
              conv => whnf
              refine ⟨Nat.le_of_ble_eq_true rfl, Nat.le_of_ble_eq_true rfl, (by first | assumption | rfl), ?_⟩
              refine r_num hq5 (by omega) (fun k pl σ6 n6 hf6 hl6 => ?_) (fun n6 σ6 hf6 hq6 v6 => ?_)
              · skip
                conv => whnf
                refine ⟨fun g => ?_, fun g => ?_⟩
                · exact absurd g (by simp [sx_cc])
                · skip
                  conv => whnf
                  refine ⟨fun q9 => by first | (simp at q9; done) | omega, ?_⟩
                  exact hF k pl _ h3 (by unfold zFarm; rw [n4a, n4b, n5, n6]; rfl) (fun a j z9 => by
                       have z8 : ¬ FF0 (s p 4) a j := fun z => z9 (frx_f z2.1 z)
                       rw [hf6 a j (fun z => z9 (frx_fw z))]
                       exact hg5 a j z8) hl6
              · have hg6 : fr (FF0 (s p 4)) σ σ6 := fun a j z => (hf6 a j (by unfold FF0 at z; unfold FRg; omega)).trans (hg5 a j z)
                have w18 : σ6 124 18 = s p 0 := (hg6 _ _ (by unfold FF0; omega)).trans c18
                have w19 : σ6 124 19 = s p 1 := (hg6 _ _ (by unfold FF0; omega)).trans c19
                have w20 : σ6 124 20 = s p 4 := (hg6 _ _ (by unfold FF0; omega)).trans c20
                have e29 : σ6 124 29 = 1 := (hf6 _ _ (by unfold FRg; omega)).trans e29
                have e129 : σ6 129 (3 + s p 4) = _ := (hf6 _ _ (by unfold FRg; omega)).trans e129
                conv => whnf
                refine ⟨fun g => ?_, fun g => ?_⟩
                · skip
                  conv => whnf
                  refine ⟨(by first | assumption | rfl), ?_⟩
                  try simp (disch := omega) only [Int.cast_ofNat_Int, up_s, up_a, up_i, mp_a, mp_ge]
                  try simp only [c20]
                  try simp only [w18]
                  try simp only [w19]
                  try simp only [w20]
                  try simp only [t32]
                  try simp only [t31]
                  try simp only [v5]
                  try simp only [v6]
                  try simp only [v7]
                  try simp only [v8]
                  try simp only [w11]
                  try simp only [lk_128]
                  conv => whnf
                  refine ⟨(by first | assumption | rfl), ?_⟩
                  try simp (disch := omega) only [Int.cast_ofNat_Int, up_s, up_a, up_i, mp_a, mp_ge]
                  try simp only [c20]
                  try simp only [w18]
                  try simp only [w19]
                  try simp only [w20]
                  try simp only [t32]
                  try simp only [t31]
                  try simp only [v5]
                  try simp only [v6]
                  try simp only [v7]
                  try simp only [v8]
                  try simp only [w11]
                  try simp only [lk_128]
                  conv => whnf
                  refine ⟨⟨by omega, by omega⟩, ?_⟩
                  conv => whnf
                  refine ⟨Nat.le_of_ble_eq_true rfl, Nat.le_of_ble_eq_true rfl, (by first | assumption | rfl), ?_⟩
                  refine r_num hq6 (by omega) (fun k pl σ7 n7 hf7 hl7 => ?_) (fun n7 σ7 hf7 hq7 v7 => ?_)
                  · skip
                    conv => whnf
                    refine ⟨fun g => ?_, fun g => ?_⟩
                    · exact absurd g (by simp [sx_cc])
                    · skip
                      conv => whnf
                      refine ⟨fun q9 => by first | (simp at q9; done) | omega, ?_⟩
                      exact hF k pl _ h3 (by unfold zFarm; rw [n4a, n4b, n5, n6, n7]; rfl) (fun a j z9 => by
                           have z8 : ¬ FF0 (s p 4) a j := fun z => z9 (frx_f z2.1 z)
                           rw [hf7 a j (fun z => z9 (frx_fw z))]
                           exact hg6 a j z8) hl7
                  · have hg7 : fr (FF0 (s p 4)) σ σ7 := fun a j z => (hf7 a j (by unfold FF0 at z; unfold FRg; omega)).trans (hg6 a j z)
                    have w18 : σ7 124 18 = s p 0 := (hg7 _ _ (by unfold FF0; omega)).trans c18
                    have w19 : σ7 124 19 = s p 1 := (hg7 _ _ (by unfold FF0; omega)).trans c19
                    have w20 : σ7 124 20 = s p 4 := (hg7 _ _ (by unfold FF0; omega)).trans c20
                    have e29 : σ7 124 29 = 1 := (hf7 _ _ (by unfold FRg; omega)).trans e29
                    have e129 : σ7 129 (3 + s p 4) = _ := (hf7 _ _ (by unfold FRg; omega)).trans e129
                    conv => whnf
                    refine ⟨fun g => ?_, fun g => ?_⟩
                    · skip
                      conv => whnf
                      refine ⟨(by first | assumption | rfl), ?_⟩
                      try simp (disch := omega) only [Int.cast_ofNat_Int, up_s, up_a, up_i, mp_a, mp_ge]
                      try simp only [c20]
                      try simp only [w18]
                      try simp only [w19]
                      try simp only [w20]
                      try simp only [t32]
                      try simp only [t31]
                      try simp only [v5]
                      try simp only [v6]
                      try simp only [v7]
                      try simp only [v8]
                      try simp only [w11]
                      try simp only [lk_128]
                      conv => whnf
                      refine ⟨(by first | assumption | rfl), ?_⟩
                      try simp (disch := omega) only [Int.cast_ofNat_Int, up_s, up_a, up_i, mp_a, mp_ge]
                      try simp only [c20]
                      try simp only [w18]
                      try simp only [w19]
                      try simp only [w20]
                      try simp only [t32]
                      try simp only [t31]
                      try simp only [v5]
                      try simp only [v6]
                      try simp only [v7]
                      try simp only [v8]
                      try simp only [w11]
                      try simp only [lk_128]
                      conv => whnf
                      refine ⟨⟨by omega, by omega⟩, ?_⟩
                      conv => whnf
                      refine ⟨Nat.le_of_ble_eq_true rfl, Nat.le_of_ble_eq_true rfl, (by first | assumption | rfl), ?_⟩
                      refine r_num hq7 (by omega) (fun k pl σ8 n8 hf8 hl8 => ?_) (fun n8 σ8 hf8 hq8 v8 => ?_)
                      · skip
                        conv => whnf
                        refine ⟨fun g => ?_, fun g => ?_⟩
                        · exact absurd g (by simp [sx_cc])
                        · skip
                          conv => whnf
                          refine ⟨fun q9 => by first | (simp at q9; done) | omega, ?_⟩
                          exact hF k pl _ h3 (by unfold zFarm; rw [n4a, n4b, n5, n6, n7, n8]; rfl) (fun a j z9 => by
                               have z8 : ¬ FF0 (s p 4) a j := fun z => z9 (frx_f z2.1 z)
                               rw [hf8 a j (fun z => z9 (frx_fw z))]
                               exact hg7 a j z8) hl8
                      · have hg8 : fr (FF0 (s p 4)) σ σ8 := fun a j z => (hf8 a j (by unfold FF0 at z; unfold FRg; omega)).trans (hg7 a j z)
                        have w18 : σ8 124 18 = s p 0 := (hg8 _ _ (by unfold FF0; omega)).trans c18
                        have w19 : σ8 124 19 = s p 1 := (hg8 _ _ (by unfold FF0; omega)).trans c19
                        have w20 : σ8 124 20 = s p 4 := (hg8 _ _ (by unfold FF0; omega)).trans c20
                        have e29 : σ8 124 29 = 1 := (hf8 _ _ (by unfold FRg; omega)).trans e29
                        have e129 : σ8 129 (3 + s p 4) = _ := (hf8 _ _ (by unfold FRg; omega)).trans e129
                        conv => whnf
                        refine ⟨fun g => ?_, fun g => ?_⟩
                        · skip
                          conv => whnf
                          refine ⟨_, Or.inl ⟨rfl, _, _, rfl, rfl, ?_, rfl⟩⟩
                          refine ⟨σ8, hg8, hq8, e29, e129, v8, by unfold zFarm; rw [n4a, n4b, n5, n6, n7, n8]; rfl, fun _ _ _ => rfl, fun c y0 y1 => ?_, h3, by omega, by omega⟩
                          rw [if_neg pRc_0, hg8 _ _ (by unfold FF0; omega)]; exact cg c y0 y1
                        · exact absurd g (by simp [sx_cc])
                    · exact absurd g (by simp [sx_cc])
                · exact absurd g (by simp [sx_cc])
            · exact absurd g (by simp [sx_cc])
        · exact absurd g (by simp [sx_cc])
    · simp only [sx_cc, Classical.not_not] at g
      conv => whnf
      refine ⟨Nat.le_of_ble_eq_true rfl, Nat.le_of_ble_eq_true rfl, (by first | assumption | rfl), ?_⟩
      refine r_wrong ?_
      conv => whnf
      refine ⟨fun q9 => by first | (simp at q9; done) | omega, ?_⟩
      exact hF0 (by omega) _ (fun a j z9 => by unfold FRx at z9; rw [up_n (by omega), up_n (by omega)]) ⟨by rw [up_n (by omega), up_s], by rw [up_s, ha]⟩
  · intro n t L st σ' hk
    rcases hk with hk | hk
    · obtain ⟨rfl, v, w5, rfl, rfl, hc, rfl⟩ := hk
      obtain ⟨σ8, hf8, hq8, h9, h129, e11, hzn, hg, hv, hfa, hv0, hv1⟩ := hc
      have hq9 : rQ σ' tx n9 (kE tx n9 (kE tx n9 (kE tx n9 (kE tx n9 (kE tx n9 (kE tx n9 i)))))) := rQ_of hq8 (fun a j z9 => hg a j (by unfold FRd at z9; omega))
      have hgx : ∀ a j : Int, ¬ FFm (s p 4) a j → σ' a j = σ a j := fun a j z => (hg a j (by unfold FFm at z; omega)).trans (hf8 a j (by unfold FFm at z; unfold FF0; omega))
      have w18 : σ' 124 18 = s p 0 := (hgx _ _ (by unfold FFm; omega)).trans c18
      have w20 : σ' 124 20 = s p 4 := ((hg _ _ (by omega)).trans (hf8 _ _ (by unfold FF0; omega))).trans c20
      have w11 : σ' 124 11 = nV tx n9 (nV tx n9 0 (s p 1 - 1) (kE tx n9 (kE tx n9 (kE tx n9 i)))) (s p 1 - 1) (kE tx n9 (kE tx n9 (kE tx n9 (kE tx n9 (kE tx n9 i))))) := (hg _ _ (by omega)).trans e11
      have t31 := pt_124_31 hq9.pt
      conv => whnf
      refine ⟨(by first | assumption | rfl), ?_⟩
      try simp (disch := omega) only [Int.cast_ofNat_Int, up_s, up_a, up_i, mp_a, mp_ge]
      try simp only [c20]
      try simp only [w18]
      try simp only [w19]
      try simp only [w20]
      try simp only [t32]
      try simp only [t31]
      try simp only [v5]
      try simp only [v6]
      try simp only [v7]
      try simp only [v8]
      try simp only [w11]
      try simp only [lk_128]
      conv => whnf
      refine ⟨fun g => ?_, fun g => ?_⟩
      · simp only [sx_cc, Classical.not_not] at g
        conv => whnf
        refine ⟨(by first | assumption | rfl), ?_⟩
        try simp (disch := omega) only [Int.cast_ofNat_Int, up_s, up_a, up_i, mp_a, mp_ge]
        try simp only [c20]
        try simp only [w18]
        try simp only [w19]
        try simp only [w20]
        try simp only [t32]
        try simp only [t31]
        try simp only [v5]
        try simp only [v6]
        try simp only [v7]
        try simp only [v8]
        try simp only [w11]
        try simp only [lk_128]
        conv => whnf
        refine ⟨⟨by omega, by omega⟩, ?_⟩
        conv => whnf
        refine ⟨(by first | assumption | rfl), ?_⟩
        try simp (disch := omega) only [Int.cast_ofNat_Int, up_s, up_a, up_i, mp_a, mp_ge]
        try simp only [c20]
        try simp only [w18]
        try simp only [w19]
        try simp only [w20]
        try simp only [t32]
        try simp only [t31]
        try simp only [v5]
        try simp only [v6]
        try simp only [v7]
        try simp only [v8]
        try simp only [w11]
        try simp only [lk_128]
        conv => whnf
        refine ⟨fun q9 => by first | (simp at q9; done) | omega, ?_⟩
        have ev : v = nV tx n9 (nV tx n9 0 (s p 1 - 1) (kE tx n9 (kE tx n9 (kE tx n9 i)))) (s p 1 - 1) (kE tx n9 (kE tx n9 (kE tx n9 (kE tx n9 (kE tx n9 i))))) + 1 := by omega
        subst ev
        refine hS hfa hzn _ (fun a j z9 => ?_) (rQ_up hq9 (by unfold FRd; omega)) ?_ (fun c y0 y1 => ?_) ?_ ?_
        · unfold FFm at z9; rw [up_n (by omega)]; exact hgx a j (by unfold FFm; omega)
        · rw [up_n (by omega), hg _ _ (by omega)]; exact h9
        · rw [up_n (by omega)]; exact hv c y0 y1
        · rw [up_n (by omega), hg _ _ (by omega)]; exact h129
        · rw [up_s]
      · simp only [sx_cc, Classical.not_not] at g
        conv => whnf
        refine ⟨_, ?_, Or.inr (⟨rfl, _, _, rfl, rfl, ?_, rfl⟩)⟩
        · omega
        · exact ⟨σ8, hf8, hq8, h9, h129, e11, hzn, hg, hv, hfa, hv0, by omega, by omega, by omega⟩
    · obtain ⟨rfl, v, u, rfl, rfl, hc, rfl⟩ := hk
      obtain ⟨σ8, hf8, hq8, h9, h129, e11, hzn, hg, hv, hfa, hv0, hv1, hu0, hu1⟩ := hc
      have hq9 : rQ σ' tx n9 (kE tx n9 (kE tx n9 (kE tx n9 (kE tx n9 (kE tx n9 (kE tx n9 i)))))) := rQ_of hq8 (fun a j z9 => hg a j (by unfold FRd at z9; omega))
      have hgx : ∀ a j : Int, ¬ FFm (s p 4) a j → σ' a j = σ a j := fun a j z => (hg a j (by unfold FFm at z; omega)).trans (hf8 a j (by unfold FFm at z; unfold FF0; omega))
      have w18 : σ' 124 18 = s p 0 := (hgx _ _ (by unfold FFm; omega)).trans c18
      have w20 : σ' 124 20 = s p 4 := ((hg _ _ (by omega)).trans (hf8 _ _ (by unfold FF0; omega))).trans c20
      have w11 : σ' 124 11 = nV tx n9 (nV tx n9 0 (s p 1 - 1) (kE tx n9 (kE tx n9 (kE tx n9 i)))) (s p 1 - 1) (kE tx n9 (kE tx n9 (kE tx n9 (kE tx n9 (kE tx n9 i))))) := (hg _ _ (by omega)).trans e11
      have t31 := pt_124_31 hq9.pt
      have zcb := fun hu2 : u ≤ nV tx n9 (nV tx n9 0 (s p 0 - 1) (kE tx n9 (kE tx n9 i))) (s p 0 - 1) (kE tx n9 (kE tx n9 (kE tx n9 (kE tx n9 i)))) => cell_bd (x := u) (y := v) z0 z1 (by omega) (by omega)
      conv => whnf
      refine ⟨fun g => ?_, fun g => ?_⟩
      · simp only [sx_cc, Classical.not_not] at g
        conv => whnf
        refine ⟨⟨by omega, by omega⟩, ?_⟩
        conv => whnf
        refine ⟨_, ?_, Or.inl ⟨rfl, _, _, rfl, rfl, ?_, rfl⟩⟩
        · omega
        · have eu : u = nV tx n9 (nV tx n9 0 (s p 0 - 1) (kE tx n9 (kE tx n9 i))) (s p 0 - 1) (kE tx n9 (kE tx n9 (kE tx n9 (kE tx n9 i)))) + 1 := by omega
          subst eu
          refine ⟨σ8, hf8, hq8, h9, h129, e11, hzn, hg, fun c y0 y1 => ?_, hfa, by omega, by omega⟩
          rw [hv c y0 y1]
          have hk := pRc_r (w := s p 0) (x := nV tx n9 0 (s p 0 - 1) (kE tx n9 (kE tx n9 i))) (x2 := nV tx n9 (nV tx n9 0 (s p 0 - 1) (kE tx n9 (kE tx n9 i))) (s p 0 - 1) (kE tx n9 (kE tx n9 (kE tx n9 (kE tx n9 i))))) (y := nV tx n9 0 (s p 1 - 1) (kE tx n9 (kE tx n9 (kE tx n9 i)))) (v := v) (c := c) hv0
          by_cases e8 : pRc (s p 0) (nV tx n9 0 (s p 0 - 1) (kE tx n9 (kE tx n9 i))) (nV tx n9 (nV tx n9 0 (s p 0 - 1) (kE tx n9 (kE tx n9 i))) (s p 0 - 1) (kE tx n9 (kE tx n9 (kE tx n9 (kE tx n9 i))))) (nV tx n9 0 (s p 1 - 1) (kE tx n9 (kE tx n9 (kE tx n9 i)))) v (nV tx n9 (nV tx n9 0 (s p 0 - 1) (kE tx n9 (kE tx n9 i))) (s p 0 - 1) (kE tx n9 (kE tx n9 (kE tx n9 (kE tx n9 i)))) + 1) c
          · rw [if_pos e8, if_pos (hk.mp e8)]
          · rw [if_neg e8, if_neg (fun z => e8 (hk.mpr z))]
      · simp only [sx_cc, Classical.not_not] at g
        have zcb := zcb (by omega)
        have zmc : s p 0 * v = v * s p 0 := Int.mul_comm _ _
        conv => whnf
        refine ⟨(by first | assumption | rfl), ?_⟩
        try simp (disch := omega) only [Int.cast_ofNat_Int, up_s, up_a, up_i, mp_a, mp_ge]
        try simp only [c20]
        try simp only [w18]
        try simp only [w19]
        try simp only [w20]
        try simp only [t32]
        try simp only [t31]
        try simp only [v5]
        try simp only [v6]
        try simp only [v7]
        try simp only [v8]
        try simp only [w11]
        try simp only [lk_128]
        conv => whnf
        refine ⟨(by first | assumption | rfl), ?_⟩
        try simp (disch := omega) only [Int.cast_ofNat_Int, up_s, up_a, up_i, mp_a, mp_ge]
        try simp only [c20]
        try simp only [w18]
        try simp only [w19]
        try simp only [w20]
        try simp only [t32]
        try simp only [t31]
        try simp only [v5]
        try simp only [v6]
        try simp only [v7]
        try simp only [v8]
        try simp only [w11]
        try simp only [lk_128]
        conv => whnf
        refine ⟨⟨by omega, by omega⟩, ?_⟩
        conv => whnf
        refine ⟨⟨by omega, by omega⟩, ?_⟩
        conv => whnf
        refine ⟨⟨by omega, by omega⟩, ?_⟩
        conv => whnf
        refine ⟨(by first | assumption | rfl), ?_⟩
        try simp (disch := omega) only [Int.cast_ofNat_Int, up_s, up_a, up_i, mp_a, mp_ge]
        try simp only [c20]
        try simp only [w18]
        try simp only [w19]
        try simp only [w20]
        try simp only [t32]
        try simp only [t31]
        try simp only [v5]
        try simp only [v6]
        try simp only [v7]
        try simp only [v8]
        try simp only [w11]
        try simp only [lk_128]
        conv => whnf
        refine ⟨sx_ixI (by first | assumption | rfl) (by omega) (by omega), ?_⟩
        conv => whnf
        refine ⟨⟨by omega, by omega⟩, ?_⟩
        conv => whnf
        refine ⟨_, ?_, Or.inr (⟨rfl, _, _, rfl, rfl, ?_, rfl⟩)⟩
        · omega
        · refine ⟨σ8, hf8, hq8, h9, h129, e11, hzn, fun a j z9 => by rw [up_n (by omega)]; exact hg a j z9, fun c y0 y1 => ?_, hfa, hv0, by omega, by omega, by omega⟩
          have hk := pRc_s (w := s p 0) (x := nV tx n9 0 (s p 0 - 1) (kE tx n9 (kE tx n9 i))) (x2 := nV tx n9 (nV tx n9 0 (s p 0 - 1) (kE tx n9 (kE tx n9 i))) (s p 0 - 1) (kE tx n9 (kE tx n9 (kE tx n9 (kE tx n9 i))))) (y := nV tx n9 0 (s p 1 - 1) (kE tx n9 (kE tx n9 (kE tx n9 i)))) (v := v) (u := u) (c := c) (by omega) (by omega) (by omega)
          by_cases e9 : c = v * s p 0 + u
          · rw [show 48 + s p 0 * v + u = 48 + c by omega, up_s, if_pos (hk.mpr (Or.inl e9))]
          · rw [up_n (by omega), hv c y0 y1]
            by_cases e8 : pRc (s p 0) (nV tx n9 0 (s p 0 - 1) (kE tx n9 (kE tx n9 i))) (nV tx n9 (nV tx n9 0 (s p 0 - 1) (kE tx n9 (kE tx n9 i))) (s p 0 - 1) (kE tx n9 (kE tx n9 (kE tx n9 (kE tx n9 i))))) (nV tx n9 0 (s p 1 - 1) (kE tx n9 (kE tx n9 (kE tx n9 i)))) v u c
            · rw [if_pos e8, if_pos (hk.mpr (Or.inr e8))]
            · rw [if_neg e8, if_neg (fun z => by rcases hk.mp z with z | z; exact e9 z; exact e8 z)]
end SXR4
