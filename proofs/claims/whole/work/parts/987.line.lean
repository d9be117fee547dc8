/-! A LINE IS TOLD, class side (by wip/whole) -/
section SXQ1
variable {X : sx_X} {Q : sx_R} {σ σ0 σ' σ1 σ2 : sx_S} {tx : Int → Int} {n9 p i : Int} {F : Option (Int × Int)}
abbrev FLw (p k a j : Int) : Prop := (a = 33 ∧ 2 ≤ j ∧ j ≤ 6) ∨ (a = p + 13 ∧ j = k)
def zLawF (p : Int) (tx : Int → Int) (n9 : Int) (s : sx_S) (i k pl : Int) : Prop := (¬ (0 ≤ kT tx n9 (kE tx n9 i) - 8 ∧ kT tx n9 (kE tx n9 i) - 8 < 3) ∧ k = 1 ∧ pl = kS tx n9 (kE tx n9 i)) ∨ ((0 ≤ kT tx n9 (kE tx n9 i) - 8 ∧ kT tx n9 (kE tx n9 i) - 8 < 3) ∧ s (p + 13) (kT tx n9 (kE tx n9 i) - 8) < s (p + 14) (kT tx n9 (kE tx n9 i) - 8) ∧ k = 3 ∧ pl = kS tx n9 (kE tx n9 i)) ∨ ((0 ≤ kT tx n9 (kE tx n9 i) - 8 ∧ kT tx n9 (kE tx n9 i) - 8 < 3) ∧ ¬ s (p + 13) (kT tx n9 (kE tx n9 i) - 8) < s (p + 14) (kT tx n9 (kE tx n9 i) - 8) ∧ ∃ s2 : sx_S, fr (FLw p (kT tx n9 (kE tx n9 i) - 8)) s s2 ∧ s2 (p + 13) (kT tx n9 (kE tx n9 i) - 8) = s 32 14 ∧ zExF p tx n9 s2 (kE tx n9 (kE tx n9 i)) k pl)
def zLawS (p : Int) (tx : Int → Int) (n9 : Int) (s : sx_S) (i : Int) (s' : sx_S) (j : Int) : Prop := (0 ≤ kT tx n9 (kE tx n9 i) - 8 ∧ kT tx n9 (kE tx n9 i) - 8 < 3) ∧ ¬ s (p + 13) (kT tx n9 (kE tx n9 i) - 8) < s (p + 14) (kT tx n9 (kE tx n9 i) - 8) ∧ ∃ s2 s3 : sx_S, fr (FLw p (kT tx n9 (kE tx n9 i) - 8)) s s2 ∧ s2 (p + 13) (kT tx n9 (kE tx n9 i) - 8) = s 32 14 ∧ zExS p tx n9 s2 (kE tx n9 (kE tx n9 i)) s3 j ∧ fr (FEv p) s2 s3 ∧ s' = sx_up s3 (p + 14) (kT tx n9 (kE tx n9 i) - 8) (s3 32 14)
abbrev FLa (p a j : Int) : Prop := (a = 32 ∧ (j = 0 ∨ j = 1 ∨ (11 ≤ j ∧ j ≤ 14))) ∨ a = 36 ∨ (a = p ∧ j = 14) ∨ (p + 11 ≤ a ∧ a ≤ p + 14) ∨ (a = 33 ∧ 2 ≤ j ∧ j ≤ 6)
set_option maxRecDepth 20000 in
theorem c_Tlaw (hw : sx_WT X) (hq : cQ p σ tx n9 i none) (hkn : σ 32 14 = σ p 14) (hk6 : 0 ≤ σ p 14 ∧ σ p 14 ≤ 64) (hF : ∀ (σ' : sx_S) (k pl j : Int), fr (FLa p) σ σ' → cQ p σ' tx n9 j (some (k, pl)) → zLawF p tx n9 σ i k pl → Q none shM σ') (hE9 : ∀ (σ' : sx_S) (j : Int), fr (FLa p) σ σ' → cQ p σ' tx n9 j none → kT tx n9 j = 36 → zLawF p tx n9 σ i 1 (kS tx n9 j) → Q none shM σ') (hS : ∀ (σ' : sx_S) (j : Int), fr (FLa p) σ σ' → cQ p σ' tx n9 j none → kT tx n9 j = 22 → zLawS p tx n9 σ i σ' j → Q none shM σ') : sx_Run X 112 [.inr (.inr 32)] shM σ Q := by
  have hp : 2 ≤ p ∧ p ≤ 17 := by rcases hq.ip with rfl | rfl <;> decide
  have k13 := lkP13 hq.1
  have k14 := lkP14 hq.1
  have k0 := lkP0 hq.1
  have t3 := pt_32_3 hq.pt
  have t4 := hq.ep
  have m17 := ptP_17 hq.pt hq.1
  have m18 := ptP_18 hq.pt hq.1
  have kb := kT_bd (tx := tx) (n9 := n9) (kE tx n9 i)
  refine sx_rule0 (own := 10) (cd := kX10_tellLaw) (nL := 2) (by decide +kernel) (by decide +kernel) kX10_tellLaw_ok (by decide +kernel) (Nat.le_of_ble_eq_true rfl) 40 ?_
  conv => whnf
  refine ⟨(by first | assumption | rfl), ?_⟩
  try simp (disch := omega) only [Int.cast_ofNat_Int, up_s, up_a, up_i, mp_a, mp_ge]
  try simp only [t3]
  try simp only [t4]
  try simp only [m17]
  try simp only [m18]
  try simp only [e3]
  try simp only [u13]
  try simp only [u14]
  conv => whnf
  refine ⟨Nat.le_of_ble_eq_true rfl, Nat.le_of_ble_eq_true rfl, (by first | assumption | rfl), ?_⟩
  refine c_Tadv hw hq (fun σ3 hf3 hq3 => ?_)
  clear t3 t4 m17 m18
  have t3 := pt_32_3 hq3.pt
  have t4 := hq3.ep
  have m17 := ptP_17 hq3.pt hq3.1
  have m18 := ptP_18 hq3.pt hq3.1
  have e3 := hq3.tk.2.1
  have u13 : σ3 (p + 13) (kT tx n9 (kE tx n9 i) - 8) = σ (p + 13) (kT tx n9 (kE tx n9 i) - 8) := hf3 _ _ (by unfold FXa; omega)
  have u14 : σ3 (p + 14) (kT tx n9 (kE tx n9 i) - 8) = σ (p + 14) (kT tx n9 (kE tx n9 i) - 8) := hf3 _ _ (by unfold FXa; omega)
  conv => whnf
  refine ⟨(by first | assumption | rfl), ?_⟩
  try simp (disch := omega) only [Int.cast_ofNat_Int, up_s, up_a, up_i, mp_a, mp_ge]
  try simp only [t3]
  try simp only [t4]
  try simp only [m17]
  try simp only [m18]
  try simp only [e3]
  try simp only [u13]
  try simp only [u14]
  conv => whnf
  refine ⟨(by first | assumption | rfl), ?_⟩
  try simp (disch := omega) only [Int.cast_ofNat_Int, up_s, up_a, up_i, mp_a, mp_ge]
  try simp only [t3]
  try simp only [t4]
  try simp only [m17]
  try simp only [m18]
  try simp only [e3]
  try simp only [u13]
  try simp only [u14]
  conv => whnf
  refine ⟨⟨by omega, by omega⟩, ?_⟩
  conv => whnf
  refine ⟨fun g => ?_, fun g => ?_⟩
  · simp only [sx_cc, Classical.not_not] at g
    conv => whnf
    refine ⟨Nat.le_of_ble_eq_true rfl, Nat.le_of_ble_eq_true rfl, (by first | assumption | rfl), ?_⟩
    refine c_Tfail hq3 (by decide) (fun σ4 hf4 hq4 => ?_)
    conv => whnf
    refine ⟨rfl, ?_⟩
    exact hF _ _ _ _ (fun a j z9 => by unfold FLa at z9; rw [hf4 a j (by unfold FFl; omega), hf3 a j (by unfold FXa; omega)]) hq4 (Or.inl ⟨by omega, rfl, rfl⟩)
  · simp only [sx_cc, Classical.not_not] at g
    conv => whnf
    refine ⟨fun g => ?_, fun g => ?_⟩
    · simp only [sx_cc, Classical.not_not] at g
      have gk : 0 ≤ kT tx n9 (kE tx n9 i) - 8 ∧ kT tx n9 (kE tx n9 i) - 8 < 3 := by omega
      skip
      conv => whnf
      refine ⟨(by first | assumption | rfl), ?_⟩
      try simp (disch := omega) only [Int.cast_ofNat_Int, up_s, up_a, up_i, mp_a, mp_ge]
      try simp only [t3]
      try simp only [t4]
      try simp only [m17]
      try simp only [m18]
      try simp only [e3]
      try simp only [u13]
      try simp only [u14]
      conv => whnf
      refine ⟨(by first | assumption | rfl), ?_⟩
      try simp (disch := omega) only [Int.cast_ofNat_Int, up_s, up_a, up_i, mp_a, mp_ge]
      try simp only [t3]
      try simp only [t4]
      try simp only [m17]
      try simp only [m18]
      try simp only [e3]
      try simp only [u13]
      try simp only [u14]
      conv => whnf
      refine ⟨sx_ixI (by first | assumption | rfl) (by omega) (by omega), ?_⟩
      try simp (disch := omega) only [Int.cast_ofNat_Int, up_s, up_a, up_i, mp_a, mp_ge]
      try simp only [t3]
      try simp only [t4]
      try simp only [m17]
      try simp only [m18]
      try simp only [e3]
      try simp only [u13]
      try simp only [u14]
      conv => whnf
      refine ⟨(by first | assumption | rfl), ?_⟩
      try simp (disch := omega) only [Int.cast_ofNat_Int, up_s, up_a, up_i, mp_a, mp_ge]
      try simp only [t3]
      try simp only [t4]
      try simp only [m17]
      try simp only [m18]
      try simp only [e3]
      try simp only [u13]
      try simp only [u14]
      conv => whnf
      refine ⟨(by first | assumption | rfl), ?_⟩
      try simp (disch := omega) only [Int.cast_ofNat_Int, up_s, up_a, up_i, mp_a, mp_ge]
      try simp only [t3]
      try simp only [t4]
      try simp only [m17]
      try simp only [m18]
      try simp only [e3]
      try simp only [u13]
      try simp only [u14]
      conv => whnf
      refine ⟨sx_ixI (by first | assumption | rfl) (by omega) (by omega), ?_⟩
      try simp (disch := omega) only [Int.cast_ofNat_Int, up_s, up_a, up_i, mp_a, mp_ge]
      try simp only [t3]
      try simp only [t4]
      try simp only [m17]
      try simp only [m18]
      try simp only [e3]
      try simp only [u13]
      try simp only [u14]
      conv => whnf
      refine ⟨fun g => ?_, fun g => ?_⟩
      · simp only [sx_cc, Classical.not_not] at g
        have gt : ¬ σ (p + 13) (kT tx n9 (kE tx n9 i) - 8) < σ (p + 14) (kT tx n9 (kE tx n9 i) - 8) := by omega
        skip
        conv => whnf
        refine ⟨(by first | assumption | rfl), ?_⟩
        try simp (disch := omega) only [Int.cast_ofNat_Int, up_s, up_a, up_i, mp_a, mp_ge]
        try simp only [t3]
        try simp only [t4]
        try simp only [m17]
        try simp only [m18]
        try simp only [e3]
        try simp only [u13]
        try simp only [u14]
        conv => whnf
        refine ⟨(by first | assumption | rfl), ?_⟩
        try simp (disch := omega) only [Int.cast_ofNat_Int, up_s, up_a, up_i, mp_a, mp_ge]
        try simp only [t3]
        try simp only [t4]
        try simp only [m17]
        try simp only [m18]
        try simp only [e3]
        try simp only [u13]
        try simp only [u14]
        conv => whnf
        refine ⟨(by first | assumption | rfl), ?_⟩
        try simp (disch := omega) only [Int.cast_ofNat_Int, up_s, up_a, up_i, mp_a, mp_ge]
        try simp only [t3]
        try simp only [t4]
        try simp only [m17]
        try simp only [m18]
        try simp only [e3]
        try simp only [u13]
        try simp only [u14]
        conv => whnf
        refine ⟨sx_ixI (by first | assumption | rfl) (by omega) (by omega), ?_⟩
        conv => whnf
        refine ⟨(by first | assumption | rfl), ?_⟩
        try simp (disch := omega) only [Int.cast_ofNat_Int, up_s, up_a, up_i, mp_a, mp_ge]
        try simp only [t3]
        try simp only [t4]
        try simp only [m17]
        try simp only [m18]
        try simp only [e3]
        try simp only [u13]
        try simp only [u14]
        conv => whnf
        refine ⟨Nat.le_of_ble_eq_true rfl, Nat.le_of_ble_eq_true rfl, (by first | assumption | rfl), ?_⟩
        refine c_Tadv hw (cQ_up hq3 (by unfold FPd; omega)) (fun σ5 hf5 hq5 => ?_)
        clear t3 t4 m17 m18
        have t3 := pt_32_3 hq5.pt
        have t4 := hq5.ep
        have m17 := ptP_17 hq5.pt hq5.1
        have m18 := ptP_18 hq5.pt hq5.1
        have hf9 : fr (FLw p (kT tx n9 (kE tx n9 i) - 8)) σ σ5 := fun a j z9 => by unfold FLw at z9; rw [hf5 a j (by unfold FXa; omega), up_n (by omega), hf3 a j (by unfold FXa; omega)]
        have e13 : σ5 (p + 13) (kT tx n9 (kE tx n9 i) - 8) = σ 32 14 := by rw [hf5 _ _ (by unfold FXa; omega), up_s, hf3 _ _ (by unfold FXa; omega)]
        have ek1 : σ5 32 14 = σ5 p 14 := by rw [hf9 32 14 (by unfold FLw; omega), hf9 p 14 (by unfold FLw; omega)]; exact hkn
        have ek2 : 0 ≤ σ5 p 14 ∧ σ5 p 14 ≤ 64 := by rw [hf9 p 14 (by unfold FLw; omega)]; exact hk6
        conv => whnf
        refine ⟨Nat.le_of_ble_eq_true rfl, Nat.le_of_ble_eq_true rfl, (by first | assumption | rfl), ?_⟩
        refine c_Texpr hw hq5 ek1 ek2 (fun σ6 k pl j hf6 hq6 hz6 => ?_) (fun σ6 j hf6 hq6 h36 hz6 => ?_) (fun σ6 j hf6 hq6 hz6 => ?_)
        · clear t3 t4 m17 m18
          have t3 := pt_32_3 hq6.pt
          have t4 := hq6.ep
          have m17 := ptP_17 hq6.pt hq6.1
          have m18 := ptP_18 hq6.pt hq6.1
          conv => whnf
          refine ⟨(by first | assumption | rfl), ?_⟩
          try simp (disch := omega) only [Int.cast_ofNat_Int, up_s, up_a, up_i, mp_a, mp_ge]
          try simp only [t3]
          try simp only [t4]
          try simp only [m17]
          try simp only [m18]
          try simp only [e3]
          try simp only [u13]
          try simp only [u14]
          conv => whnf
          refine ⟨(by first | assumption | rfl), ?_⟩
          try simp (disch := omega) only [Int.cast_ofNat_Int, up_s, up_a, up_i, mp_a, mp_ge]
          try simp only [t3]
          try simp only [t4]
          try simp only [m17]
          try simp only [m18]
          try simp only [e3]
          try simp only [u13]
          try simp only [u14]
          conv => whnf
          refine ⟨(by first | assumption | rfl), ?_⟩
          try simp (disch := omega) only [Int.cast_ofNat_Int, up_s, up_a, up_i, mp_a, mp_ge]
          try simp only [t3]
          try simp only [t4]
          try simp only [m17]
          try simp only [m18]
          try simp only [e3]
          try simp only [u13]
          try simp only [u14]
          conv => whnf
          refine ⟨sx_ixI (by first | assumption | rfl) (by omega) (by omega), ?_⟩
          conv => whnf
          refine ⟨rfl, ?_⟩
          first
          | exact hE9 _ _ (fun a j z9 => by unfold FLa at z9; rw [up_n (by omega), hf6 a j (by unfold FEv; omega), hf9 a j (by unfold FLw; omega)]) (cQ_up hq6 (by unfold FPd; omega)) h36 (Or.inr (Or.inr ⟨gk, gt, σ5, hf9, e13, hz6⟩))
          | exact hS _ _ (fun a j z9 => by unfold FLa at z9; rw [up_n (by omega), hf6 a j (by unfold FEv; omega), hf9 a j (by unfold FLw; omega)]) (cQ_up hq6 (by unfold FPd; omega)) (by obtain ⟨E, m, _, _, _, e, _⟩ := hz6; exact e) ⟨gk, gt, σ5, σ6, hf9, e13, hz6, hf6, rfl⟩
          | exact hF _ _ _ _ (fun a j z9 => by unfold FLa at z9; rw [up_n (by omega), hf6 a j (by unfold FEv; omega), hf9 a j (by unfold FLw; omega)]) (cQ_up hq6 (by unfold FPd; omega)) (Or.inr (Or.inr ⟨gk, gt, σ5, hf9, e13, hz6⟩))
        · clear t3 t4 m17 m18
          have t3 := pt_32_3 hq6.pt
          have t4 := hq6.ep
          have m17 := ptP_17 hq6.pt hq6.1
          have m18 := ptP_18 hq6.pt hq6.1
          conv => whnf
          refine ⟨(by first | assumption | rfl), ?_⟩
          try simp (disch := omega) only [Int.cast_ofNat_Int, up_s, up_a, up_i, mp_a, mp_ge]
          try simp only [t3]
          try simp only [t4]
          try simp only [m17]
          try simp only [m18]
          try simp only [e3]
          try simp only [u13]
          try simp only [u14]
          conv => whnf
          refine ⟨(by first | assumption | rfl), ?_⟩
          try simp (disch := omega) only [Int.cast_ofNat_Int, up_s, up_a, up_i, mp_a, mp_ge]
          try simp only [t3]
          try simp only [t4]
          try simp only [m17]
          try simp only [m18]
          try simp only [e3]
          try simp only [u13]
          try simp only [u14]
          conv => whnf
          refine ⟨(by first | assumption | rfl), ?_⟩
          try simp (disch := omega) only [Int.cast_ofNat_Int, up_s, up_a, up_i, mp_a, mp_ge]
          try simp only [t3]
          try simp only [t4]
          try simp only [m17]
          try simp only [m18]
          try simp only [e3]
          try simp only [u13]
          try simp only [u14]
          conv => whnf
          refine ⟨sx_ixI (by first | assumption | rfl) (by omega) (by omega), ?_⟩
          conv => whnf
          refine ⟨rfl, ?_⟩
          first
          | exact hE9 _ _ (fun a j z9 => by unfold FLa at z9; rw [up_n (by omega), hf6 a j (by unfold FEv; omega), hf9 a j (by unfold FLw; omega)]) (cQ_up hq6 (by unfold FPd; omega)) h36 (Or.inr (Or.inr ⟨gk, gt, σ5, hf9, e13, hz6⟩))
          | exact hS _ _ (fun a j z9 => by unfold FLa at z9; rw [up_n (by omega), hf6 a j (by unfold FEv; omega), hf9 a j (by unfold FLw; omega)]) (cQ_up hq6 (by unfold FPd; omega)) (by obtain ⟨E, m, _, _, _, e, _⟩ := hz6; exact e) ⟨gk, gt, σ5, σ6, hf9, e13, hz6, hf6, rfl⟩
          | exact hF _ _ _ _ (fun a j z9 => by unfold FLa at z9; rw [up_n (by omega), hf6 a j (by unfold FEv; omega), hf9 a j (by unfold FLw; omega)]) (cQ_up hq6 (by unfold FPd; omega)) (Or.inr (Or.inr ⟨gk, gt, σ5, hf9, e13, hz6⟩))
        · clear t3 t4 m17 m18
          have t3 := pt_32_3 hq6.pt
          have t4 := hq6.ep
          have m17 := ptP_17 hq6.pt hq6.1
          have m18 := ptP_18 hq6.pt hq6.1
          conv => whnf
          refine ⟨(by first | assumption | rfl), ?_⟩
          try simp (disch := omega) only [Int.cast_ofNat_Int, up_s, up_a, up_i, mp_a, mp_ge]
          try simp only [t3]
          try simp only [t4]
          try simp only [m17]
          try simp only [m18]
          try simp only [e3]
          try simp only [u13]
          try simp only [u14]
          conv => whnf
          refine ⟨(by first | assumption | rfl), ?_⟩
          try simp (disch := omega) only [Int.cast_ofNat_Int, up_s, up_a, up_i, mp_a, mp_ge]
          try simp only [t3]
          try simp only [t4]
          try simp only [m17]
          try simp only [m18]
          try simp only [e3]
          try simp only [u13]
          try simp only [u14]
          conv => whnf
          refine ⟨(by first | assumption | rfl), ?_⟩
          try simp (disch := omega) only [Int.cast_ofNat_Int, up_s, up_a, up_i, mp_a, mp_ge]
          try simp only [t3]
          try simp only [t4]
          try simp only [m17]
          try simp only [m18]
          try simp only [e3]
          try simp only [u13]
          try simp only [u14]
          conv => whnf
          refine ⟨sx_ixI (by first | assumption | rfl) (by omega) (by omega), ?_⟩
          conv => whnf
          refine ⟨rfl, ?_⟩
          first
          | exact hE9 _ _ (fun a j z9 => by unfold FLa at z9; rw [up_n (by omega), hf6 a j (by unfold FEv; omega), hf9 a j (by unfold FLw; omega)]) (cQ_up hq6 (by unfold FPd; omega)) h36 (Or.inr (Or.inr ⟨gk, gt, σ5, hf9, e13, hz6⟩))
          | exact hS _ _ (fun a j z9 => by unfold FLa at z9; rw [up_n (by omega), hf6 a j (by unfold FEv; omega), hf9 a j (by unfold FLw; omega)]) (cQ_up hq6 (by unfold FPd; omega)) (by obtain ⟨E, m, _, _, _, e, _⟩ := hz6; exact e) ⟨gk, gt, σ5, σ6, hf9, e13, hz6, hf6, rfl⟩
          | exact hF _ _ _ _ (fun a j z9 => by unfold FLa at z9; rw [up_n (by omega), hf6 a j (by unfold FEv; omega), hf9 a j (by unfold FLw; omega)]) (cQ_up hq6 (by unfold FPd; omega)) (Or.inr (Or.inr ⟨gk, gt, σ5, hf9, e13, hz6⟩))
      · simp only [sx_cc, Classical.not_not] at g
        have gt : σ (p + 13) (kT tx n9 (kE tx n9 i) - 8) < σ (p + 14) (kT tx n9 (kE tx n9 i) - 8) := by omega
        skip
        conv => whnf
        refine ⟨Nat.le_of_ble_eq_true rfl, Nat.le_of_ble_eq_true rfl, (by first | assumption | rfl), ?_⟩
        refine c_Tfail hq3 (by decide) (fun σ4 hf4 hq4 => ?_)
        conv => whnf
        refine ⟨rfl, ?_⟩
        exact hF _ _ _ _ (fun a j z9 => by unfold FLa at z9; rw [hf4 a j (by unfold FFl; omega), hf3 a j (by unfold FXa; omega)]) hq4 (Or.inr (Or.inl ⟨gk, gt, rfl, rfl⟩))
    · simp only [sx_cc, Classical.not_not] at g
      conv => whnf
      refine ⟨Nat.le_of_ble_eq_true rfl, Nat.le_of_ble_eq_true rfl, (by first | assumption | rfl), ?_⟩
      refine c_Tfail hq3 (by decide) (fun σ4 hf4 hq4 => ?_)
      conv => whnf
      refine ⟨rfl, ?_⟩
      exact hF _ _ _ _ (fun a j z9 => by unfold FLa at z9; rw [hf4 a j (by unfold FFl; omega), hf3 a j (by unfold FXa; omega)]) hq4 (Or.inl ⟨by omega, rfl, rfl⟩)
end SXQ1
