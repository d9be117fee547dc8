/-! THE TELLER: the forecast (by wip/whole) -/
section SXP5
variable {X : sx_X} {Q : sx_R} {σ σ0 σ' σ1 σ2 : sx_S} {tx : Int → Int} {n9 p i : Int} {F : Option (Int × Int)}
/-- the m-th token behind i -/
def kI (tx : Int → Int) (n9 : Int) : Nat → Int → Int
  | 0, i => i
  | m + 1, i => kE tx n9 (kI tx n9 m i)
theorem kI_s {q : Int} (h : 0 ≤ q) : kI tx n9 (q + 1).toNat i = kE tx n9 (kI tx n9 q.toNat i) := by
  rw [show (q + 1).toNat = q.toNat + 1 by omega]; rfl
abbrev FZc (p m a j : Int) : Prop := FNx a j ∨ (a = 32 ∧ j = 7) ∨ (a = p + 10 ∧ 0 ≤ j ∧ j < m)
def zCastF (s : sx_S) (tx : Int → Int) (n9 i k pl : Int) : Prop := (¬ s 32 7 = 0 ∧ k = 3 ∧ pl = kS tx n9 i) ∨ (s 32 7 = 0 ∧ ∃ m : Int, 0 ≤ m ∧ m ≤ 24 ∧ (∀ q : Int, 0 ≤ q → q < m → nF tx n9 0 100 (kI tx n9 q.toNat (kE tx n9 i)) = none) ∧ ((m < 24 ∧ (m = 0 ∨ kT tx n9 (kI tx n9 m.toNat (kE tx n9 i)) = 21) ∧ nF tx n9 0 100 (kI tx n9 m.toNat (kE tx n9 i)) = some (k, pl)) ∨ (m = 24 ∧ kT tx n9 (kI tx n9 m.toNat (kE tx n9 i)) = 21 ∧ k = 2 ∧ pl = kS tx n9 (kI tx n9 m.toNat (kE tx n9 i)))))
def pCs (s : sx_S) (tx : Int → Int) (n9 i m : Int) (F : Option (Int × Int)) : Prop := (F = none ∧ s 32 7 = 0 ∧ ∀ q : Int, 0 ≤ q → q < m → nF tx n9 0 100 (kI tx n9 q.toNat (kE tx n9 i)) = none) ∨ (∃ k pl : Int, F = some (k, pl) ∧ zCastF s tx n9 i k pl)
theorem pCs_s {m : Int} (h : pCs σ tx n9 i m F) (hm : 0 ≤ m ∧ m < 24) (ht : m = 0 ∨ kT tx n9 (kI tx n9 m.toNat (kE tx n9 i)) = 21) : pCs σ tx n9 i (m + 1) (F.or (nF tx n9 0 100 (kI tx n9 m.toNat (kE tx n9 i)))) := by
  rcases h with ⟨rfl, h0, h1⟩ | ⟨k, pl, rfl, h1⟩
  · cases e : nF tx n9 0 100 (kI tx n9 m.toNat (kE tx n9 i)) with
    | none =>
      refine Or.inl ⟨rfl, h0, fun q q0 q1 => ?_⟩
      by_cases e9 : q = m
      · rw [e9]; exact e
      · exact h1 q q0 (by omega)
    | some z => exact Or.inr ⟨z.1, z.2, rfl, Or.inr ⟨h0, m, hm.1, by omega, h1, Or.inl ⟨hm.2, ht, e⟩⟩⟩
  · exact Or.inr ⟨k, pl, rfl, h1⟩
theorem pCs_0 : pCs σ tx n9 i 0 (none.or (fBq (¬ σ 32 7 = 0) 3 (kS tx n9 i))) := by
  by_cases e : σ 32 7 = 0
  · rw [fBq_0 (fun z => z e)]
    exact Or.inl ⟨rfl, e, fun q q0 q1 => by omega⟩
  · rw [fBq_1 e]
    exact Or.inr ⟨3, _, rfl, Or.inl ⟨e, rfl, rfl⟩⟩
theorem c_Tcast_v {σ3 σ5 σ6 : sx_S} {v : Int} (hp : 2 ≤ p ∧ p ≤ 17)  (hf3 : fr FFl σ σ3) (hf5 : fr FNx (sx_up σ3 (32) (7) (1)) σ5) (hf6 : fr FXa (sx_up σ5 (p + 10) (0) (v)) σ6) : fr (FZc p 1) σ σ6 ∧ σ6 (32) (7) = 1 ∧ σ6 (p + 10) (0) = v := by
  refine ⟨fun a j z9 => by unfold FZc FNx at z9; rw [hf6 _ _ (by unfold FXa; omega), up_n (by omega), hf5 _ _ (by unfold FNx; omega), up_n (by omega), hf3 _ _ (by unfold FFl; omega)],
    by rw [hf6 _ _ (by unfold FXa; omega), up_n (by omega), hf5 _ _ (by unfold FNx; omega), up_s],
    by rw [hf6 _ _ (by unfold FXa; omega), up_s]⟩
set_option maxRecDepth 20000 in
theorem c_Tcast (hw : sx_WT X) (hq : cQ p σ tx n9 i none) (hF : ∀ (σ' : sx_S) (k pl j : Int), fr (FZc p 24) σ σ' → cQ p σ' tx n9 j (some (k, pl)) → zCastF σ tx n9 i k pl → Q none shM σ') (hS : ∀ (σ' : sx_S) (m : Int), (1 ≤ m ∧ m ≤ 24) → σ 32 7 = 0 → (∀ q : Int, 0 ≤ q → q < m → nF tx n9 0 100 (kI tx n9 q.toNat (kE tx n9 i)) = none) → ¬ kT tx n9 (kI tx n9 m.toNat (kE tx n9 i)) = 21 → fr (FZc p m) σ σ' → cQ p σ' tx n9 (kI tx n9 m.toNat (kE tx n9 i)) none → σ' 32 7 = 1 → (∀ q : Int, 0 ≤ q → q < m → σ' (p + 10) q = nV tx n9 0 100 (kI tx n9 q.toNat (kE tx n9 i))) → Q none shM σ') : sx_Run X 110 [.inr (.inr 32)] shM σ Q := by
  have hp : 2 ≤ p ∧ p ≤ 17 := by rcases hq.ip with rfl | rfl <;> decide
  have k0 := lkP0 hq.1
  have k1 := lkP1 hq.1
  have k2 := lkP2 hq.1
  have k3 := lkP3 hq.1
  have k4 := lkP4 hq.1
  have k5 := lkP5 hq.1
  have k6 := lkP6 hq.1
  have k7 := lkP7 hq.1
  have k8 := lkP8 hq.1
  have k9 := lkP9 hq.1
  have k10 := lkP10 hq.1
  have k11 := lkP11 hq.1
  have k12 := lkP12 hq.1
  have k13 := lkP13 hq.1
  have k14 := lkP14 hq.1
  skip
  have t3 := pt_32_3 hq.pt
  have t4 := hq.ep
  have t5 := pt_32_5 hq.pt
  have m12 := ptP_12 hq.pt hq.1
  have mc := ptP_c hq.pt hq.1
  have pl : p ≤ 31 := by omega
  have pn32 : ¬ p = 32 := by omega
  have pl1 : p + 1 ≤ 31 := by omega
  have pl2 : p + 2 ≤ 31 := by omega
  have pl3 : p + 3 ≤ 31 := by omega
  have pl4 : p + 4 ≤ 31 := by omega
  have pn1 : ¬ p = p + 1 := by omega
  have pn2 : ¬ p = p + 2 := by omega
  have pn3 : ¬ p = p + 3 := by omega
  have pn4 : ¬ p = p + 4 := by omega
  have pn5 : ¬ p = p + 5 := by omega
  have pn6 : ¬ p = p + 6 := by omega
  have pn7 : ¬ p = p + 7 := by omega
  have pn8 : ¬ p = p + 8 := by omega
  have pn10 : ¬ p = p + 10 := by omega
  refine sx_rule2 (own := 10) (cd := kX10_tellCast) (nL := 2) (by decide +kernel) (by decide +kernel) kX10_tellCast_ok (by decide +kernel) (Nat.le_of_ble_eq_true rfl) [45] 40 (fun n t L st _ σ' => (t = 45 ∧ ∃ hh : Int, st = [] ∧ L = [some (.inr (.inr (32))), some (.inl (hh))] ∧ (∃ F : Option (Int × Int), fr (FZc p hh) σ σ' ∧ cQ p σ' tx n9 (kI tx n9 hh.toNat (kE tx n9 i)) F ∧ σ' 32 7 = 1 ∧ (∀ q : Int, 0 ≤ q → q < hh → σ' (p + 10) q = nV tx n9 0 100 (kI tx n9 q.toNat (kE tx n9 i))) ∧ 1 ≤ hh ∧ hh ≤ 24 ∧ pCs σ tx n9 i hh F) ∧ n = (24 - hh).toNat)) ?_ ?_
  · skip
    conv => whnf
    refine ⟨(by first | assumption | rfl), ?_⟩
    try simp (disch := omega) only [Int.cast_ofNat_Int, up_s, up_a, up_i, mp_a, mp_ge]
    try simp only [t3]
    try simp only [t4]
    try simp only [m12]
    try simp only [mc]
    try simp only [e3]
    conv => whnf
    refine ⟨fun g => ?_, fun g => ?_⟩
    · simp only [sx_cc, Classical.not_not] at g
      have f9 := fBq_0 (k := 3) (s := kS tx n9 (i)) (b := ¬ σ 32 7 = 0) (by omega)
      obtain ⟨σ3, e9, hf3, hq3⟩ : ∃ s9, σ = s9 ∧ fr FFl σ s9 ∧ cQ p s9 tx n9 (i) (Option.or none (fBq (¬ σ 32 7 = 0) 3 (kS tx n9 (i)))) := ⟨σ, rfl, fun _ _ _ => rfl, by rw [f9, Option.or_none]; exact hq⟩
      rw [e9]
      clear t3 t4 t5 m12 mc
      have t3 := pt_32_3 hq3.pt
      have t4 := hq3.ep
      have t5 := pt_32_5 hq3.pt
      have m12 := ptP_12 hq3.pt hq3.1
      have mc := ptP_c hq3.pt hq3.1
      conv => whnf
      refine ⟨(by first | assumption | rfl), by omega, ?_⟩
      try simp (disch := omega) only [Int.cast_ofNat_Int, up_s, up_a, up_i, mp_a, mp_ge]
      try simp only [t3]
      try simp only [t4]
      try simp only [m12]
      try simp only [mc]
      try simp only [e3]
      conv => whnf
      refine ⟨(by first | assumption | rfl), ?_⟩
      try simp (disch := omega) only [Int.cast_ofNat_Int, up_s, up_a, up_i, mp_a, mp_ge]
      try simp only [t3]
      try simp only [t4]
      try simp only [m12]
      try simp only [mc]
      try simp only [e3]
      conv => whnf
      refine ⟨(by first | assumption | rfl), ?_⟩
      try simp (disch := omega) only [Int.cast_ofNat_Int, up_s, up_a, up_i, mp_a, mp_ge]
      try simp only [t3]
      try simp only [t4]
      try simp only [m12]
      try simp only [mc]
      try simp only [e3]
      conv => whnf
      refine ⟨(by first | assumption | rfl), ?_⟩
      try simp (disch := omega) only [Int.cast_ofNat_Int, up_s, up_a, up_i, mp_a, mp_ge]
      try simp only [t3]
      try simp only [t4]
      try simp only [m12]
      try simp only [mc]
      try simp only [e3]
      conv => whnf
      refine ⟨Nat.le_of_ble_eq_true rfl, Nat.le_of_ble_eq_true rfl, (by first | assumption | rfl), ?_⟩
      refine c_Tnxt hw (cQ_up hq3 (by unfold FPd; omega)) (by decide) (fun σ5 hf5 hq5 => ?_)
      clear t3 t4 t5 m12 mc
      have t3 := pt_32_3 hq5.pt
      have t4 := hq5.ep
      have t5 := pt_32_5 hq5.pt
      have m12 := ptP_12 hq5.pt hq5.1
      have mc := ptP_c hq5.pt hq5.1
      conv => whnf
      refine ⟨sx_ixI (by first | assumption | rfl) (by omega) (by omega), ?_⟩
      conv => whnf
      refine ⟨(by first | assumption | rfl), ?_⟩
      try simp (disch := omega) only [Int.cast_ofNat_Int, up_s, up_a, up_i, mp_a, mp_ge]
      try simp only [t3]
      try simp only [t4]
      try simp only [m12]
      try simp only [mc]
      try simp only [e3]
      conv => whnf
      refine ⟨Nat.le_of_ble_eq_true rfl, Nat.le_of_ble_eq_true rfl, (by first | assumption | rfl), ?_⟩
      refine c_Tadv hw (cQ_up hq5 (by unfold FPd; omega)) (fun σ6 hf6 hq6 => ?_)
      conv => whnf
      refine ⟨_, ⟨rfl, _, rfl, rfl, ?_, rfl⟩⟩
      try subst e9
      obtain ⟨c0, c1, c2⟩ := c_Tcast_v hp hf3 hf5 hf6
      refine ⟨_, c0, hq6, c1, fun q q0 q1 => ?_, by decide, by decide, ?_⟩
      · have e9 : q = 0 := by omega
        subst e9
        exact c2
      · exact pCs_s (m := 0) pCs_0 (by decide) (Or.inl rfl)
    · simp only [sx_cc, Classical.not_not] at g
      have f9 := fBq_1 (k := 3) (s := kS tx n9 (i)) (b := ¬ σ 32 7 = 0) (by omega)
      conv => whnf
      refine ⟨Nat.le_of_ble_eq_true rfl, Nat.le_of_ble_eq_true rfl, (by first | assumption | rfl), ?_⟩
      refine c_Tfail hq (by decide) (fun σ3 hf3 hq3 => ?_)
      rw [← f9] at hq3
      clear t3 t4 t5 m12 mc
      have t3 := pt_32_3 hq3.pt
      have t4 := hq3.ep
      have t5 := pt_32_5 hq3.pt
      have m12 := ptP_12 hq3.pt hq3.1
      have mc := ptP_c hq3.pt hq3.1
      conv => whnf
      refine ⟨(by first | assumption | rfl), by omega, ?_⟩
      try simp (disch := omega) only [Int.cast_ofNat_Int, up_s, up_a, up_i, mp_a, mp_ge]
      try simp only [t3]
      try simp only [t4]
      try simp only [m12]
      try simp only [mc]
      try simp only [e3]
      conv => whnf
      refine ⟨(by first | assumption | rfl), ?_⟩
      try simp (disch := omega) only [Int.cast_ofNat_Int, up_s, up_a, up_i, mp_a, mp_ge]
      try simp only [t3]
      try simp only [t4]
      try simp only [m12]
      try simp only [mc]
      try simp only [e3]
      conv => whnf
      refine ⟨(by first | assumption | rfl), ?_⟩
      try simp (disch := omega) only [Int.cast_ofNat_Int, up_s, up_a, up_i, mp_a, mp_ge]
      try simp only [t3]
      try simp only [t4]
      try simp only [m12]
      try simp only [mc]
      try simp only [e3]
      conv => whnf
      refine ⟨(by first | assumption | rfl), ?_⟩
      try simp (disch := omega) only [Int.cast_ofNat_Int, up_s, up_a, up_i, mp_a, mp_ge]
      try simp only [t3]
      try simp only [t4]
      try simp only [m12]
      try simp only [mc]
      try simp only [e3]
      conv => whnf
      refine ⟨Nat.le_of_ble_eq_true rfl, Nat.le_of_ble_eq_true rfl, (by first | assumption | rfl), ?_⟩
      refine c_Tnxt hw (cQ_up hq3 (by unfold FPd; omega)) (by decide) (fun σ5 hf5 hq5 => ?_)
      clear t3 t4 t5 m12 mc
      have t3 := pt_32_3 hq5.pt
      have t4 := hq5.ep
      have t5 := pt_32_5 hq5.pt
      have m12 := ptP_12 hq5.pt hq5.1
      have mc := ptP_c hq5.pt hq5.1
      conv => whnf
      refine ⟨sx_ixI (by first | assumption | rfl) (by omega) (by omega), ?_⟩
      conv => whnf
      refine ⟨(by first | assumption | rfl), ?_⟩
      try simp (disch := omega) only [Int.cast_ofNat_Int, up_s, up_a, up_i, mp_a, mp_ge]
      try simp only [t3]
      try simp only [t4]
      try simp only [m12]
      try simp only [mc]
      try simp only [e3]
      conv => whnf
      refine ⟨Nat.le_of_ble_eq_true rfl, Nat.le_of_ble_eq_true rfl, (by first | assumption | rfl), ?_⟩
      refine c_Tadv hw (cQ_up hq5 (by unfold FPd; omega)) (fun σ6 hf6 hq6 => ?_)
      conv => whnf
      refine ⟨_, ⟨rfl, _, rfl, rfl, ?_, rfl⟩⟩
      try subst e9
      obtain ⟨c0, c1, c2⟩ := c_Tcast_v hp hf3 hf5 hf6
      refine ⟨_, c0, hq6, c1, fun q q0 q1 => ?_, by decide, by decide, ?_⟩
      · have e9 : q = 0 := by omega
        subst e9
        exact c2
      · exact pCs_s (m := 0) pCs_0 (by decide) (Or.inl rfl)
  · intro n t L st σ' hk
    obtain ⟨rfl, hh, rfl, rfl, hc, rfl⟩ := hk
    obtain ⟨F, hfi, hqi, h7, hv, h1, h24, hcs⟩ := hc
    clear t3 t4 t5 m12 mc
    have t3 := pt_32_3 hqi.pt
    have t4 := hqi.ep
    have t5 := pt_32_5 hqi.pt
    have m12 := ptP_12 hqi.pt hqi.1
    have mc := ptP_c hqi.pt hqi.1
    have e3 := hqi.tk.2.1
    conv => whnf
    refine ⟨fun g => ?_, fun g => ?_⟩
    · simp only [sx_cc, Classical.not_not] at g
      conv => whnf
      refine ⟨(by first | assumption | rfl), ?_⟩
      try simp (disch := omega) only [Int.cast_ofNat_Int, up_s, up_a, up_i, mp_a, mp_ge]
      try simp only [t3]
      try simp only [t4]
      try simp only [m12]
      try simp only [mc]
      try simp only [e3]
      conv => whnf
      refine ⟨(by first | assumption | rfl), ?_⟩
      try simp (disch := omega) only [Int.cast_ofNat_Int, up_s, up_a, up_i, mp_a, mp_ge]
      try simp only [t3]
      try simp only [t4]
      try simp only [m12]
      try simp only [mc]
      try simp only [e3]
      conv => whnf
      refine ⟨fun g => ?_, fun g => ?_⟩
      · simp only [sx_cc, Classical.not_not] at g
        conv => whnf
        refine ⟨rfl, ?_⟩
        rcases hcs with ⟨rfl, hs0, hs1⟩ | ⟨k, pl, rfl, hs1⟩
        · first
          | exact hS σ' hh ⟨h1, h24⟩ hs0 hs1 g hfi hqi h7 hv
          | exact hF _ 2 (kS tx n9 (kI tx n9 hh.toNat (kE tx n9 i))) _ (fun a j z9 => by unfold FZc FNx at z9; rw [hf8 a j (by unfold FFl; omega)]; exact hfi a j (by unfold FZc FNx; omega)) hq8 (Or.inr ⟨hs0, hh, by omega, by omega, hs1, Or.inr ⟨by omega, g, rfl, rfl⟩⟩)
        · first
          | exact hF _ k pl _ (fun a j z9 => by unfold FZc FNx at z9; rw [hf8 a j (by unfold FFl; omega)]; exact hfi a j (by unfold FZc FNx; omega)) hq8 hs1
          | exact hF _ k pl _ (fun a j z9 => by unfold FZc FNx at z9; exact hfi a j (by unfold FZc FNx; omega)) hqi hs1
      · simp only [sx_cc, Classical.not_not] at g
        conv => whnf
        refine ⟨Nat.le_of_ble_eq_true rfl, Nat.le_of_ble_eq_true rfl, (by first | assumption | rfl), ?_⟩
        refine c_Tfail hqi (by decide) (fun σ8 hf8 hq8 => ?_)
        conv => whnf
        refine ⟨rfl, ?_⟩
        rcases hcs with ⟨rfl, hs0, hs1⟩ | ⟨k, pl, rfl, hs1⟩
        · first
          | exact hS σ' hh ⟨h1, h24⟩ hs0 hs1 g hfi hqi h7 hv
          | exact hF _ 2 (kS tx n9 (kI tx n9 hh.toNat (kE tx n9 i))) _ (fun a j z9 => by unfold FZc FNx at z9; rw [hf8 a j (by unfold FFl; omega)]; exact hfi a j (by unfold FZc FNx; omega)) hq8 (Or.inr ⟨hs0, hh, by omega, by omega, hs1, Or.inr ⟨by omega, g, rfl, rfl⟩⟩)
        · first
          | exact hF _ k pl _ (fun a j z9 => by unfold FZc FNx at z9; rw [hf8 a j (by unfold FFl; omega)]; exact hfi a j (by unfold FZc FNx; omega)) hq8 hs1
          | exact hF _ k pl _ (fun a j z9 => by unfold FZc FNx at z9; exact hfi a j (by unfold FZc FNx; omega)) hqi hs1
    · simp only [sx_cc, Classical.not_not] at g
      conv => whnf
      refine ⟨(by first | assumption | rfl), ?_⟩
      try simp (disch := omega) only [Int.cast_ofNat_Int, up_s, up_a, up_i, mp_a, mp_ge]
      try simp only [t3]
      try simp only [t4]
      try simp only [m12]
      try simp only [mc]
      try simp only [e3]
      conv => whnf
      refine ⟨(by first | assumption | rfl), ?_⟩
      try simp (disch := omega) only [Int.cast_ofNat_Int, up_s, up_a, up_i, mp_a, mp_ge]
      try simp only [t3]
      try simp only [t4]
      try simp only [m12]
      try simp only [mc]
      try simp only [e3]
      conv => whnf
      refine ⟨fun g => ?_, fun g => ?_⟩
      · simp only [sx_cc, Classical.not_not] at g
        conv => whnf
        refine ⟨(by first | assumption | rfl), ?_⟩
        try simp (disch := omega) only [Int.cast_ofNat_Int, up_s, up_a, up_i, mp_a, mp_ge]
        try simp only [t3]
        try simp only [t4]
        try simp only [m12]
        try simp only [mc]
        try simp only [e3]
        conv => whnf
        refine ⟨(by first | assumption | rfl), ?_⟩
        try simp (disch := omega) only [Int.cast_ofNat_Int, up_s, up_a, up_i, mp_a, mp_ge]
        try simp only [t3]
        try simp only [t4]
        try simp only [m12]
        try simp only [mc]
        try simp only [e3]
        conv => whnf
        refine ⟨fun g => ?_, fun g => ?_⟩
        · simp only [sx_cc, Classical.not_not] at g
          conv => whnf
          refine ⟨rfl, ?_⟩
          rcases hcs with ⟨rfl, hs0, hs1⟩ | ⟨k, pl, rfl, hs1⟩
          · first
            | exact hS σ' hh ⟨h1, h24⟩ hs0 hs1 g hfi hqi h7 hv
            | exact hF _ 2 (kS tx n9 (kI tx n9 hh.toNat (kE tx n9 i))) _ (fun a j z9 => by unfold FZc FNx at z9; rw [hf8 a j (by unfold FFl; omega)]; exact hfi a j (by unfold FZc FNx; omega)) hq8 (Or.inr ⟨hs0, hh, by omega, by omega, hs1, Or.inr ⟨by omega, g, rfl, rfl⟩⟩)
          · first
            | exact hF _ k pl _ (fun a j z9 => by unfold FZc FNx at z9; rw [hf8 a j (by unfold FFl; omega)]; exact hfi a j (by unfold FZc FNx; omega)) hq8 hs1
            | exact hF _ k pl _ (fun a j z9 => by unfold FZc FNx at z9; exact hfi a j (by unfold FZc FNx; omega)) hqi hs1
        · simp only [sx_cc, Classical.not_not] at g
          conv => whnf
          refine ⟨Nat.le_of_ble_eq_true rfl, Nat.le_of_ble_eq_true rfl, (by first | assumption | rfl), ?_⟩
          refine c_Tfail hqi (by decide) (fun σ8 hf8 hq8 => ?_)
          conv => whnf
          refine ⟨rfl, ?_⟩
          rcases hcs with ⟨rfl, hs0, hs1⟩ | ⟨k, pl, rfl, hs1⟩
          · first
            | exact hS σ' hh ⟨h1, h24⟩ hs0 hs1 g hfi hqi h7 hv
            | exact hF _ 2 (kS tx n9 (kI tx n9 hh.toNat (kE tx n9 i))) _ (fun a j z9 => by unfold FZc FNx at z9; rw [hf8 a j (by unfold FFl; omega)]; exact hfi a j (by unfold FZc FNx; omega)) hq8 (Or.inr ⟨hs0, hh, by omega, by omega, hs1, Or.inr ⟨by omega, g, rfl, rfl⟩⟩)
          · first
            | exact hF _ k pl _ (fun a j z9 => by unfold FZc FNx at z9; rw [hf8 a j (by unfold FFl; omega)]; exact hfi a j (by unfold FZc FNx; omega)) hq8 hs1
            | exact hF _ k pl _ (fun a j z9 => by unfold FZc FNx at z9; exact hfi a j (by unfold FZc FNx; omega)) hqi hs1
      · simp only [sx_cc, Classical.not_not] at g
        have g9 := g
        conv => whnf
        refine ⟨(by first | assumption | rfl), ?_⟩
        try simp (disch := omega) only [Int.cast_ofNat_Int, up_s, up_a, up_i, mp_a, mp_ge]
        try simp only [t3]
        try simp only [t4]
        try simp only [m12]
        try simp only [mc]
        try simp only [e3]
        conv => whnf
        refine ⟨(by first | assumption | rfl), ?_⟩
        try simp (disch := omega) only [Int.cast_ofNat_Int, up_s, up_a, up_i, mp_a, mp_ge]
        try simp only [t3]
        try simp only [t4]
        try simp only [m12]
        try simp only [mc]
        try simp only [e3]
        conv => whnf
        refine ⟨(by first | assumption | rfl), ?_⟩
        try simp (disch := omega) only [Int.cast_ofNat_Int, up_s, up_a, up_i, mp_a, mp_ge]
        try simp only [t3]
        try simp only [t4]
        try simp only [m12]
        try simp only [mc]
        try simp only [e3]
        conv => whnf
        refine ⟨Nat.le_of_ble_eq_true rfl, Nat.le_of_ble_eq_true rfl, (by first | assumption | rfl), ?_⟩
        refine c_Tnum hqi (by decide) (fun σ5 hf5 hq5 => ?_)
        clear t3 t4 t5 m12 mc
        have t3 := pt_32_3 hq5.pt
        have t4 := hq5.ep
        have m12 := ptP_12 hq5.pt hq5.1
        have mc := ptP_c hq5.pt hq5.1
        conv => whnf
        refine ⟨sx_ixI (by first | assumption | rfl) (by omega) (by omega), ?_⟩
        conv => whnf
        refine ⟨(by first | assumption | rfl), ?_⟩
        try simp (disch := omega) only [Int.cast_ofNat_Int, up_s, up_a, up_i, mp_a, mp_ge]
        try simp only [t3]
        try simp only [t4]
        try simp only [m12]
        try simp only [mc]
        try simp only [e3]
        conv => whnf
        refine ⟨Nat.le_of_ble_eq_true rfl, Nat.le_of_ble_eq_true rfl, (by first | assumption | rfl), ?_⟩
        refine c_Tadv hw (cQ_up hq5 (by unfold FPd; omega)) (fun σ6 hf6 hq6 => ?_)
        conv => whnf
        refine ⟨⟨by omega, by omega⟩, ?_⟩
        conv => whnf
        refine ⟨_, ?_, ⟨rfl, _, rfl, rfl, ?_, rfl⟩⟩
        · omega
        · refine ⟨_, fun a j z9 => ?_, ?_, ?_, fun q q0 q1 => ?_, by omega, by omega, pCs_s hcs (by omega) (Or.inr g9)⟩
          · unfold FZc FNx at z9
            rw [hf6 a j (by unfold FXa; omega), up_n (by omega), hf5 a j (by unfold FFl; omega)]
            exact hfi a j (by unfold FZc FNx; omega)
          · rw [kI_s (by omega)]; exact hq6
          · rw [hf6 _ _ (by unfold FXa; omega), up_n (by omega), hf5 _ _ (by unfold FFl; omega)]; exact h7
          · rw [hf6 _ _ (by unfold FXa; omega)]
            by_cases e9 : q = hh
            · rw [e9, up_s]
            · rw [up_n (by omega), hf5 _ _ (by unfold FFl; omega)]
              exact hv q q0 (by omega)
end SXP5
