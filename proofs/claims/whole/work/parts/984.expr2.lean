/-! A LAW IS TOLD: operands and operators, class side (by wip/whole) -/
section SXP7
variable {X : sx_X} {Q : sx_R} {σ σ0 σ' σ1 σ2 : sx_S} {tx : Int → Int} {n9 p i : Int} {F : Option (Int × Int)}
/-- how many brackets are held -/
def fOpn (row : Int → Int) : Nat → Int
  | 0 => 0
  | k + 1 => fOpn row k + if row (k : Int) = 23 then 1 else 0
theorem fOpn_bd {row : Int → Int} : ∀ k : Nat, 0 ≤ fOpn row k ∧ fOpn row k ≤ k
  | 0 => by show (0 : Int) ≤ 0 ∧ (0 : Int) ≤ ((0 : Nat) : Int); decide
  | k + 1 => by
    have h := fOpn_bd (row := row) k
    show 0 ≤ fOpn row k + (if row (k : Int) = 23 then 1 else 0) ∧ fOpn row k + (if row (k : Int) = 23 then 1 else 0) ≤ ((k + 1 : Nat) : Int)
    split <;> omega
theorem fOpn_0 {row : Int → Int} : ∀ k : Nat, (∀ j : Int, 0 ≤ j → j < k → ¬ row j = 23) → fOpn row k = 0
  | 0, _ => rfl
  | k + 1, h => by
    show fOpn row k + (if row (k : Int) = 23 then 1 else 0) = 0
    rw [fOpn_0 k (fun j y0 y1 => h j y0 (by omega)), if_neg (h k (by omega) (by omega))]
    rfl
/-- a sign that may be held -/
abbrev pSn (t : Int) : Prop := t = 17 ∨ t = 18 ∨ t = 19 ∨ t = 23 ∨ (25 ≤ t ∧ t ≤ 34)
def eInv (p : Int) (s : sx_S) : Prop := 0 ≤ s 32 11 ∧ 0 ≤ s 32 14 ∧ (0 ≤ s p 14 ∧ s p 14 ≤ 64) ∧ s 32 14 + (s 32 11 - fOpn (s 36) (s 32 11).toNat) = s p 14 ∧ fOpn (s 36) (s 32 11).toNat = s 32 12 ∧ (0 ≤ s 32 12 ∧ s 32 12 ≤ 8) ∧ (∀ j : Int, 0 ≤ j → j < s 32 11 → pSn (s 36 j)) ∧ (s 32 13 = 0 ∨ s 32 13 = 1)
abbrev FEx (p a j : Int) : Prop := (a = 32 ∧ (j = 0 ∨ j = 1 ∨ (11 ≤ j ∧ j ≤ 14))) ∨ a = 36 ∨ (a = p ∧ j = 14) ∨ a = p + 11 ∨ a = p + 12
def zOpd (p : Int) (s s' : sx_S) (t v : Int) : Prop :=
  (t = 21 ∧ v ≤ 9999 ∧ s p 14 < 64 ∧ s' = sx_up (sx_up (sx_up (sx_up (sx_up s p 14 (s p 14 + 1)) (p + 11) (s 32 14) 21) (p + 12) (s 32 14) v) 32 14 (s 32 14 + 1)) 32 13 0)
  ∨ (10 ≤ t ∧ t ≤ 16 ∧ s p 14 < 64 ∧ s' = sx_up (sx_up (sx_up (sx_up (sx_up s p 14 (s p 14 + 1)) (p + 11) (s 32 14) t) (p + 12) (s 32 14) 0) 32 14 (s 32 14 + 1)) 32 13 0)
  ∨ (t = 23 ∧ s 32 12 < 8 ∧ s' = sx_up (sx_up (sx_up s 32 12 (s 32 12 + 1)) 36 (s 32 11) 23) 32 11 (s 32 11 + 1))
  ∨ (t = 19 ∧ fHdr s ≤ 3 ∧ s p 14 < 64 ∧ s' = sx_up (sx_up (sx_up s p 14 (s p 14 + 1)) 36 (s 32 11) 19) 32 11 (s 32 11 + 1))
def zOpdF (p : Int) (s : sx_S) (t v k : Int) : Prop := (t = 21 ∧ (9999 < v ∨ 64 ≤ s p 14) ∧ k = 2) ∨ (10 ≤ t ∧ t ≤ 16 ∧ 64 ≤ s p 14 ∧ k = 2) ∨ (t = 23 ∧ 8 ≤ s 32 12 ∧ k = 2) ∨ (t = 19 ∧ fHdr s ≤ 3 ∧ 64 ≤ s p 14 ∧ k = 2) ∨ (¬ t = 21 ∧ ¬ (10 ≤ t ∧ t ≤ 16) ∧ ¬ t = 23 ∧ ¬ (t = 19 ∧ fHdr s ≤ 3) ∧ k = 1)
def fR5 (r : Int) : Int := if r = 4 then 5 else r
def zOpt (p : Int) (s s' : sx_S) (t : Int) : Prop :=
  (t = 24 ∧ 0 < s 32 12 ∧ ∃ (s1 : sx_S) (m : Int), pRel p 1 s s1 m ∧ 1 ≤ s1 32 11 ∧ s' = sx_up (sx_up s1 32 11 (s1 32 11 - 1)) 32 12 (s 32 12 - 1))
  ∨ (1 ≤ fRk t ∧ ¬ t = 19 ∧ ∃ (s1 : sx_S) (m : Int), pRel p (fR5 (fRk t)) s s1 m ∧ ¬ (fRk t = 4 ∧ fHdr s1 = 4) ∧ s p 14 < 64 ∧ s' = sx_up (sx_up (sx_up (sx_up s1 p 14 (s1 p 14 + 1)) 36 (s1 32 11) t) 32 11 (s1 32 11 + 1)) 32 13 1)
def zOptF (p : Int) (s : sx_S) (t k : Int) : Prop := (¬ (t = 24 ∧ 0 < s 32 12) ∧ (fRk t < 1 ∨ t = 19) ∧ k = 1) ∨ (1 ≤ fRk t ∧ ¬ t = 19 ∧ ∃ (s1 : sx_S) (m : Int), pRel p (fR5 (fRk t)) s s1 m ∧ ((fRk t = 4 ∧ fHdr s1 = 4 ∧ k = 1) ∨ (¬ (fRk t = 4 ∧ fHdr s1 = 4) ∧ 64 ≤ s p 14 ∧ k = 2)))
theorem eq_fl (h : fr FFl σ σ') (h0 : pFl σ none) (h1 : pFl σ' none) : σ' = σ := by
  funext a j
  by_cases e : FFl a j
  · obtain ⟨rfl, e | e⟩ := e
    · subst e; exact h1.1.trans h0.1.symm
    · subst e; exact h1.2.trans h0.2.symm
  · exact h a j e
theorem c_Tnum2 (hq : cQ p σ tx n9 i none) (ht : kT tx n9 i = 21) (h1 : kV tx n9 i ≤ 9999 → Q (some (.inl (kV tx n9 i))) shM σ) (h0 : 9999 < kV tx n9 i → ∀ σ', fr FFl σ σ' → cQ p σ' tx n9 i (some (2, kS tx n9 i)) → Q (some (.inl 0)) shM σ') : sx_Run X 103 [.inr (.inr 32), .inl 0, .inl 9999] shM σ Q := by
  have hb := kV_nn hq.lx.2.2.1.2 hq.bi ht
  refine c_Tnum hq (by decide) (fun σ' hf hq' => ?_)
  by_cases e : kV tx n9 i ≤ 9999
  · rw [nF_0 ht ⟨hb.1, e⟩] at hq'
    rw [nV_0 ht ⟨hb.1, e⟩, eq_fl hf hq.fl hq'.fl]
    exact h1 e
  · rw [nF_2 ht (by omega)] at hq'
    rw [nV_x (by omega)]
    exact h0 (by omega) σ' hf hq'
set_option maxRecDepth 20000 in
theorem c_Topd (hq : cQ p σ tx n9 i none) (hI : eInv p σ) (hF : ∀ (σ' : sx_S) (k : Int), fr (FEx p) σ σ' → cQ p σ' tx n9 i (some (k, kS tx n9 i)) → (0 ≤ σ' 32 11 ∧ σ' 32 11 ≤ 72) → (0 ≤ σ' 32 14 ∧ σ' 32 14 ≤ 64) → zOpdF p σ (kT tx n9 i) (kV tx n9 i) k → Q none shM σ') (hS : ∀ (σ' : sx_S), zOpd p σ σ' (kT tx n9 i) (kV tx n9 i) → cQ p σ' tx n9 i none → Q none shM σ') : sx_Run X 114 [.inr (.inr 32)] shM σ Q := by
  have hp : 2 ≤ p ∧ p ≤ 17 := by rcases hq.ip with rfl | rfl <;> decide
  have k0 := lkP0 hq.1
  have t3 := pt_32_3 hq.pt
  have t4 := hq.ep
  have e3 := hq.tk.2.1
  obtain ⟨z0, z1, z2, z3, z4, z5, z6, z7⟩ := hI
  have hI : eInv p σ := ⟨z0, z1, z2, z3, z4, z5, z6, z7⟩
  have zo := fOpn_bd (row := σ 36) (σ 32 11).toNat
  refine sx_rule0 (own := 10) (cd := kX10_takeOperand) (nL := 3) (by decide +kernel) (by decide +kernel) kX10_takeOperand_ok (by decide +kernel) (Nat.le_of_ble_eq_true rfl) 40 ?_
  conv => whnf
  refine ⟨(by first | assumption | rfl), ?_⟩
  try simp (disch := omega) only [Int.cast_ofNat_Int, up_s, up_a, up_i, mp_a, mp_ge]
  try simp only [t3]
  try simp only [t4]
  try simp only [e3]
  try simp only [e12]
  conv => whnf
  refine ⟨(by first | assumption | rfl), ?_⟩
  try simp (disch := omega) only [Int.cast_ofNat_Int, up_s, up_a, up_i, mp_a, mp_ge]
  try simp only [t3]
  try simp only [t4]
  try simp only [e3]
  try simp only [e12]
  conv => whnf
  refine ⟨fun g => ?_, fun g => ?_⟩
  · simp only [sx_cc, Classical.not_not] at g
    have g7 := g
    conv => whnf
    refine ⟨fun g => ?_, fun g => ?_⟩
    · simp only [sx_cc, Classical.not_not] at g
      have g9 := g
      conv => whnf
      refine ⟨fun g => ?_, fun g => ?_⟩
      · simp only [sx_cc, Classical.not_not] at g
        have g8 := g
        conv => whnf
        refine ⟨fun g => ?_, fun g => ?_⟩
        · simp only [sx_cc, Classical.not_not] at g
          conv => whnf
          refine ⟨Nat.le_of_ble_eq_true rfl, Nat.le_of_ble_eq_true rfl, (by first | assumption | rfl), ?_⟩
          refine c_Tfail hq (by decide) (fun σ5 hf5 hq5 => ?_)
          conv => whnf
          refine ⟨rfl, ?_⟩
          first
          | (exfalso; omega)
          | exact hS _ (Or.inl ⟨g0, hv9, hk9, rfl⟩) (by repeat (first | exact hq | refine cQ_up ?_ (by unfold FPd; omega)))
          | exact hS _ (Or.inr (Or.inl ⟨g1, g2, hk9, rfl⟩)) (by repeat (first | exact hq | refine cQ_up ?_ (by unfold FPd; omega)))
          | exact hS _ (Or.inr (Or.inr (Or.inl ⟨g3, g4, rfl⟩))) (by repeat (first | exact hq | refine cQ_up ?_ (by unfold FPd; omega)))
          | exact hS _ (Or.inr (Or.inr (Or.inr (⟨g5, g6, hk9, rfl⟩)))) (by repeat (first | exact hq | refine cQ_up ?_ (by unfold FPd; omega)))
          | exact hF _ _ (fun a j z9 => by unfold FEx at z9; repeat (first | rw [hf5 a j (by unfold FFl; omega)] | rw [hf4 a j (by unfold FFl; omega)] | rw [hf3 a j (by unfold FFl; omega)] | rw [up_n (by omega)])) (by repeat (first | exact hq5 | exact hq4 | exact hq3 | refine cQ_up ?_ (by unfold FPd; omega))) (by (repeat (first | rw [hf5 _ _ (by unfold FFl; omega)] | rw [hf4 _ _ (by unfold FFl; omega)] | rw [hf3 _ _ (by unfold FFl; omega)] | rw [up_s] | rw [up_n (by omega)])); omega) (by (repeat (first | rw [hf5 _ _ (by unfold FFl; omega)] | rw [hf4 _ _ (by unfold FFl; omega)] | rw [hf3 _ _ (by unfold FFl; omega)] | rw [up_s] | rw [up_n (by omega)])); omega) (Or.inl ⟨g0, by omega, rfl⟩)
          | exact hF _ _ (fun a j z9 => by unfold FEx at z9; repeat (first | rw [hf5 a j (by unfold FFl; omega)] | rw [hf4 a j (by unfold FFl; omega)] | rw [hf3 a j (by unfold FFl; omega)] | rw [up_n (by omega)])) (by repeat (first | exact hq5 | exact hq4 | exact hq3 | refine cQ_up ?_ (by unfold FPd; omega))) (by (repeat (first | rw [hf5 _ _ (by unfold FFl; omega)] | rw [hf4 _ _ (by unfold FFl; omega)] | rw [hf3 _ _ (by unfold FFl; omega)] | rw [up_s] | rw [up_n (by omega)])); omega) (by (repeat (first | rw [hf5 _ _ (by unfold FFl; omega)] | rw [hf4 _ _ (by unfold FFl; omega)] | rw [hf3 _ _ (by unfold FFl; omega)] | rw [up_s] | rw [up_n (by omega)])); omega) (Or.inr (Or.inl ⟨g1, g2, by omega, rfl⟩))
          | exact hF _ _ (fun a j z9 => by unfold FEx at z9; repeat (first | rw [hf5 a j (by unfold FFl; omega)] | rw [hf4 a j (by unfold FFl; omega)] | rw [hf3 a j (by unfold FFl; omega)] | rw [up_n (by omega)])) (by repeat (first | exact hq5 | exact hq4 | exact hq3 | refine cQ_up ?_ (by unfold FPd; omega))) (by (repeat (first | rw [hf5 _ _ (by unfold FFl; omega)] | rw [hf4 _ _ (by unfold FFl; omega)] | rw [hf3 _ _ (by unfold FFl; omega)] | rw [up_s] | rw [up_n (by omega)])); omega) (by (repeat (first | rw [hf5 _ _ (by unfold FFl; omega)] | rw [hf4 _ _ (by unfold FFl; omega)] | rw [hf3 _ _ (by unfold FFl; omega)] | rw [up_s] | rw [up_n (by omega)])); omega) (Or.inr (Or.inr (Or.inl ⟨g3, by omega, rfl⟩)))
          | exact hF _ _ (fun a j z9 => by unfold FEx at z9; repeat (first | rw [hf5 a j (by unfold FFl; omega)] | rw [hf4 a j (by unfold FFl; omega)] | rw [hf3 a j (by unfold FFl; omega)] | rw [up_n (by omega)])) (by repeat (first | exact hq5 | exact hq4 | exact hq3 | refine cQ_up ?_ (by unfold FPd; omega))) (by (repeat (first | rw [hf5 _ _ (by unfold FFl; omega)] | rw [hf4 _ _ (by unfold FFl; omega)] | rw [hf3 _ _ (by unfold FFl; omega)] | rw [up_s] | rw [up_n (by omega)])); omega) (by (repeat (first | rw [hf5 _ _ (by unfold FFl; omega)] | rw [hf4 _ _ (by unfold FFl; omega)] | rw [hf3 _ _ (by unfold FFl; omega)] | rw [up_s] | rw [up_n (by omega)])); omega) (Or.inr (Or.inr (Or.inr (Or.inl ⟨g5, g6, by omega, rfl⟩))))
          | exact hF _ _ (fun a j z9 => by unfold FEx at z9; repeat (first | rw [hf5 a j (by unfold FFl; omega)] | rw [hf4 a j (by unfold FFl; omega)] | rw [hf3 a j (by unfold FFl; omega)] | rw [up_n (by omega)])) (by repeat (first | exact hq5 | exact hq4 | exact hq3 | refine cQ_up ?_ (by unfold FPd; omega))) (by (repeat (first | rw [hf5 _ _ (by unfold FFl; omega)] | rw [hf4 _ _ (by unfold FFl; omega)] | rw [hf3 _ _ (by unfold FFl; omega)] | rw [up_s] | rw [up_n (by omega)])); omega) (by (repeat (first | rw [hf5 _ _ (by unfold FFl; omega)] | rw [hf4 _ _ (by unfold FFl; omega)] | rw [hf3 _ _ (by unfold FFl; omega)] | rw [up_s] | rw [up_n (by omega)])); omega) (Or.inr (Or.inr (Or.inr (Or.inr (⟨g7, by omega, g8, by omega, rfl⟩)))))
        · simp only [sx_cc, Classical.not_not] at g
          have g5 := g
          conv => whnf
          refine ⟨Nat.le_of_ble_eq_true rfl, Nat.le_of_ble_eq_true rfl, (by first | assumption | rfl), ?_⟩
          refine c_Thrank hq ?_
          conv => whnf
          refine ⟨fun g => ?_, fun g => ?_⟩
          · simp only [sx_cc, Classical.not_not] at g
            conv => whnf
            refine ⟨Nat.le_of_ble_eq_true rfl, Nat.le_of_ble_eq_true rfl, (by first | assumption | rfl), ?_⟩
            refine c_Tfail hq (by decide) (fun σ5 hf5 hq5 => ?_)
            conv => whnf
            refine ⟨rfl, ?_⟩
            first
            | (exfalso; omega)
            | exact hS _ (Or.inl ⟨g0, hv9, hk9, rfl⟩) (by repeat (first | exact hq | refine cQ_up ?_ (by unfold FPd; omega)))
            | exact hS _ (Or.inr (Or.inl ⟨g1, g2, hk9, rfl⟩)) (by repeat (first | exact hq | refine cQ_up ?_ (by unfold FPd; omega)))
            | exact hS _ (Or.inr (Or.inr (Or.inl ⟨g3, g4, rfl⟩))) (by repeat (first | exact hq | refine cQ_up ?_ (by unfold FPd; omega)))
            | exact hS _ (Or.inr (Or.inr (Or.inr (⟨g5, g6, hk9, rfl⟩)))) (by repeat (first | exact hq | refine cQ_up ?_ (by unfold FPd; omega)))
            | exact hF _ _ (fun a j z9 => by unfold FEx at z9; repeat (first | rw [hf5 a j (by unfold FFl; omega)] | rw [hf4 a j (by unfold FFl; omega)] | rw [hf3 a j (by unfold FFl; omega)] | rw [up_n (by omega)])) (by repeat (first | exact hq5 | exact hq4 | exact hq3 | refine cQ_up ?_ (by unfold FPd; omega))) (by (repeat (first | rw [hf5 _ _ (by unfold FFl; omega)] | rw [hf4 _ _ (by unfold FFl; omega)] | rw [hf3 _ _ (by unfold FFl; omega)] | rw [up_s] | rw [up_n (by omega)])); omega) (by (repeat (first | rw [hf5 _ _ (by unfold FFl; omega)] | rw [hf4 _ _ (by unfold FFl; omega)] | rw [hf3 _ _ (by unfold FFl; omega)] | rw [up_s] | rw [up_n (by omega)])); omega) (Or.inl ⟨g0, by omega, rfl⟩)
            | exact hF _ _ (fun a j z9 => by unfold FEx at z9; repeat (first | rw [hf5 a j (by unfold FFl; omega)] | rw [hf4 a j (by unfold FFl; omega)] | rw [hf3 a j (by unfold FFl; omega)] | rw [up_n (by omega)])) (by repeat (first | exact hq5 | exact hq4 | exact hq3 | refine cQ_up ?_ (by unfold FPd; omega))) (by (repeat (first | rw [hf5 _ _ (by unfold FFl; omega)] | rw [hf4 _ _ (by unfold FFl; omega)] | rw [hf3 _ _ (by unfold FFl; omega)] | rw [up_s] | rw [up_n (by omega)])); omega) (by (repeat (first | rw [hf5 _ _ (by unfold FFl; omega)] | rw [hf4 _ _ (by unfold FFl; omega)] | rw [hf3 _ _ (by unfold FFl; omega)] | rw [up_s] | rw [up_n (by omega)])); omega) (Or.inr (Or.inl ⟨g1, g2, by omega, rfl⟩))
            | exact hF _ _ (fun a j z9 => by unfold FEx at z9; repeat (first | rw [hf5 a j (by unfold FFl; omega)] | rw [hf4 a j (by unfold FFl; omega)] | rw [hf3 a j (by unfold FFl; omega)] | rw [up_n (by omega)])) (by repeat (first | exact hq5 | exact hq4 | exact hq3 | refine cQ_up ?_ (by unfold FPd; omega))) (by (repeat (first | rw [hf5 _ _ (by unfold FFl; omega)] | rw [hf4 _ _ (by unfold FFl; omega)] | rw [hf3 _ _ (by unfold FFl; omega)] | rw [up_s] | rw [up_n (by omega)])); omega) (by (repeat (first | rw [hf5 _ _ (by unfold FFl; omega)] | rw [hf4 _ _ (by unfold FFl; omega)] | rw [hf3 _ _ (by unfold FFl; omega)] | rw [up_s] | rw [up_n (by omega)])); omega) (Or.inr (Or.inr (Or.inl ⟨g3, by omega, rfl⟩)))
            | exact hF _ _ (fun a j z9 => by unfold FEx at z9; repeat (first | rw [hf5 a j (by unfold FFl; omega)] | rw [hf4 a j (by unfold FFl; omega)] | rw [hf3 a j (by unfold FFl; omega)] | rw [up_n (by omega)])) (by repeat (first | exact hq5 | exact hq4 | exact hq3 | refine cQ_up ?_ (by unfold FPd; omega))) (by (repeat (first | rw [hf5 _ _ (by unfold FFl; omega)] | rw [hf4 _ _ (by unfold FFl; omega)] | rw [hf3 _ _ (by unfold FFl; omega)] | rw [up_s] | rw [up_n (by omega)])); omega) (by (repeat (first | rw [hf5 _ _ (by unfold FFl; omega)] | rw [hf4 _ _ (by unfold FFl; omega)] | rw [hf3 _ _ (by unfold FFl; omega)] | rw [up_s] | rw [up_n (by omega)])); omega) (Or.inr (Or.inr (Or.inr (Or.inl ⟨g5, g6, by omega, rfl⟩))))
            | exact hF _ _ (fun a j z9 => by unfold FEx at z9; repeat (first | rw [hf5 a j (by unfold FFl; omega)] | rw [hf4 a j (by unfold FFl; omega)] | rw [hf3 a j (by unfold FFl; omega)] | rw [up_n (by omega)])) (by repeat (first | exact hq5 | exact hq4 | exact hq3 | refine cQ_up ?_ (by unfold FPd; omega))) (by (repeat (first | rw [hf5 _ _ (by unfold FFl; omega)] | rw [hf4 _ _ (by unfold FFl; omega)] | rw [hf3 _ _ (by unfold FFl; omega)] | rw [up_s] | rw [up_n (by omega)])); omega) (by (repeat (first | rw [hf5 _ _ (by unfold FFl; omega)] | rw [hf4 _ _ (by unfold FFl; omega)] | rw [hf3 _ _ (by unfold FFl; omega)] | rw [up_s] | rw [up_n (by omega)])); omega) (Or.inr (Or.inr (Or.inr (Or.inr (⟨g7, by omega, g8, by omega, rfl⟩)))))
          · simp only [sx_cc, Classical.not_not] at g
            have g6 : fHdr σ ≤ 3 := by omega
            skip
            conv => whnf
            refine ⟨Nat.le_of_ble_eq_true rfl, Nat.le_of_ble_eq_true rfl, (by first | assumption | rfl), ?_⟩
            refine c_Taddk (by first | exact hq3 | exact hq) (by (repeat (first | rw [hf5 _ _ (by unfold FFl; omega)] | rw [hf4 _ _ (by unfold FFl; omega)] | rw [hf3 _ _ (by unfold FFl; omega)] | rw [up_s] | rw [up_n (by omega)])); omega) (fun hk9 => ?_) (fun hk9 σ4 hf4 hq4 => ?_)
            · skip
              conv => whnf
              refine ⟨Nat.le_of_ble_eq_true rfl, Nat.le_of_ble_eq_true rfl, (by first | assumption | rfl), ?_⟩
              first
              | refine c_Thold hq4 (n := σ 32 11) (by repeat (first | rw [hf5 _ _ (by unfold FFl; omega)] | rw [hf4 _ _ (by unfold FFl; omega)] | rw [hf3 _ _ (by unfold FFl; omega)] | rw [up_s] | rw [up_n (by omega)])) (by omega) (fun hw9 => ?_) (fun hw9 => ?_)
              | refine c_Thold (cQ_up hq4 (by unfold FPd; omega)) (n := σ 32 11) (by repeat (first | rw [hf5 _ _ (by unfold FFl; omega)] | rw [hf4 _ _ (by unfold FFl; omega)] | rw [hf3 _ _ (by unfold FFl; omega)] | rw [up_s] | rw [up_n (by omega)])) (by omega) (fun hw9 => ?_) (fun hw9 => ?_)
              | refine c_Thold (cQ_up hq3 (by unfold FPd; omega)) (n := σ 32 11) (by repeat (first | rw [hf5 _ _ (by unfold FFl; omega)] | rw [hf4 _ _ (by unfold FFl; omega)] | rw [hf3 _ _ (by unfold FFl; omega)] | rw [up_s] | rw [up_n (by omega)])) (by omega) (fun hw9 => ?_) (fun hw9 => ?_)
              | refine c_Thold (cQ_up hq (by unfold FPd; omega)) (n := σ 32 11) (by repeat (first | rw [hf5 _ _ (by unfold FFl; omega)] | rw [hf4 _ _ (by unfold FFl; omega)] | rw [hf3 _ _ (by unfold FFl; omega)] | rw [up_s] | rw [up_n (by omega)])) (by omega) (fun hw9 => ?_) (fun hw9 => ?_)
              · skip
                conv => whnf
                refine ⟨rfl, ?_⟩
                first
                | (exfalso; omega)
                | exact hS _ (Or.inl ⟨g0, hv9, hk9, rfl⟩) (by repeat (first | exact hq | refine cQ_up ?_ (by unfold FPd; omega)))
                | exact hS _ (Or.inr (Or.inl ⟨g1, g2, hk9, rfl⟩)) (by repeat (first | exact hq | refine cQ_up ?_ (by unfold FPd; omega)))
                | exact hS _ (Or.inr (Or.inr (Or.inl ⟨g3, g4, rfl⟩))) (by repeat (first | exact hq | refine cQ_up ?_ (by unfold FPd; omega)))
                | exact hS _ (Or.inr (Or.inr (Or.inr (⟨g5, g6, hk9, rfl⟩)))) (by repeat (first | exact hq | refine cQ_up ?_ (by unfold FPd; omega)))
                | exact hF _ _ (fun a j z9 => by unfold FEx at z9; repeat (first | rw [hf5 a j (by unfold FFl; omega)] | rw [hf4 a j (by unfold FFl; omega)] | rw [hf3 a j (by unfold FFl; omega)] | rw [up_n (by omega)])) (by repeat (first | exact hq5 | exact hq4 | exact hq3 | refine cQ_up ?_ (by unfold FPd; omega))) (by (repeat (first | rw [hf5 _ _ (by unfold FFl; omega)] | rw [hf4 _ _ (by unfold FFl; omega)] | rw [hf3 _ _ (by unfold FFl; omega)] | rw [up_s] | rw [up_n (by omega)])); omega) (by (repeat (first | rw [hf5 _ _ (by unfold FFl; omega)] | rw [hf4 _ _ (by unfold FFl; omega)] | rw [hf3 _ _ (by unfold FFl; omega)] | rw [up_s] | rw [up_n (by omega)])); omega) (Or.inl ⟨g0, by omega, rfl⟩)
                | exact hF _ _ (fun a j z9 => by unfold FEx at z9; repeat (first | rw [hf5 a j (by unfold FFl; omega)] | rw [hf4 a j (by unfold FFl; omega)] | rw [hf3 a j (by unfold FFl; omega)] | rw [up_n (by omega)])) (by repeat (first | exact hq5 | exact hq4 | exact hq3 | refine cQ_up ?_ (by unfold FPd; omega))) (by (repeat (first | rw [hf5 _ _ (by unfold FFl; omega)] | rw [hf4 _ _ (by unfold FFl; omega)] | rw [hf3 _ _ (by unfold FFl; omega)] | rw [up_s] | rw [up_n (by omega)])); omega) (by (repeat (first | rw [hf5 _ _ (by unfold FFl; omega)] | rw [hf4 _ _ (by unfold FFl; omega)] | rw [hf3 _ _ (by unfold FFl; omega)] | rw [up_s] | rw [up_n (by omega)])); omega) (Or.inr (Or.inl ⟨g1, g2, by omega, rfl⟩))
                | exact hF _ _ (fun a j z9 => by unfold FEx at z9; repeat (first | rw [hf5 a j (by unfold FFl; omega)] | rw [hf4 a j (by unfold FFl; omega)] | rw [hf3 a j (by unfold FFl; omega)] | rw [up_n (by omega)])) (by repeat (first | exact hq5 | exact hq4 | exact hq3 | refine cQ_up ?_ (by unfold FPd; omega))) (by (repeat (first | rw [hf5 _ _ (by unfold FFl; omega)] | rw [hf4 _ _ (by unfold FFl; omega)] | rw [hf3 _ _ (by unfold FFl; omega)] | rw [up_s] | rw [up_n (by omega)])); omega) (by (repeat (first | rw [hf5 _ _ (by unfold FFl; omega)] | rw [hf4 _ _ (by unfold FFl; omega)] | rw [hf3 _ _ (by unfold FFl; omega)] | rw [up_s] | rw [up_n (by omega)])); omega) (Or.inr (Or.inr (Or.inl ⟨g3, by omega, rfl⟩)))
                | exact hF _ _ (fun a j z9 => by unfold FEx at z9; repeat (first | rw [hf5 a j (by unfold FFl; omega)] | rw [hf4 a j (by unfold FFl; omega)] | rw [hf3 a j (by unfold FFl; omega)] | rw [up_n (by omega)])) (by repeat (first | exact hq5 | exact hq4 | exact hq3 | refine cQ_up ?_ (by unfold FPd; omega))) (by (repeat (first | rw [hf5 _ _ (by unfold FFl; omega)] | rw [hf4 _ _ (by unfold FFl; omega)] | rw [hf3 _ _ (by unfold FFl; omega)] | rw [up_s] | rw [up_n (by omega)])); omega) (by (repeat (first | rw [hf5 _ _ (by unfold FFl; omega)] | rw [hf4 _ _ (by unfold FFl; omega)] | rw [hf3 _ _ (by unfold FFl; omega)] | rw [up_s] | rw [up_n (by omega)])); omega) (Or.inr (Or.inr (Or.inr (Or.inl ⟨g5, g6, by omega, rfl⟩))))
                | exact hF _ _ (fun a j z9 => by unfold FEx at z9; repeat (first | rw [hf5 a j (by unfold FFl; omega)] | rw [hf4 a j (by unfold FFl; omega)] | rw [hf3 a j (by unfold FFl; omega)] | rw [up_n (by omega)])) (by repeat (first | exact hq5 | exact hq4 | exact hq3 | refine cQ_up ?_ (by unfold FPd; omega))) (by (repeat (first | rw [hf5 _ _ (by unfold FFl; omega)] | rw [hf4 _ _ (by unfold FFl; omega)] | rw [hf3 _ _ (by unfold FFl; omega)] | rw [up_s] | rw [up_n (by omega)])); omega) (by (repeat (first | rw [hf5 _ _ (by unfold FFl; omega)] | rw [hf4 _ _ (by unfold FFl; omega)] | rw [hf3 _ _ (by unfold FFl; omega)] | rw [up_s] | rw [up_n (by omega)])); omega) (Or.inr (Or.inr (Or.inr (Or.inr (⟨g7, by omega, g8, by omega, rfl⟩)))))
              · skip
                conv => whnf
                refine ⟨rfl, ?_⟩
                first
                | (exfalso; omega)
                | exact hS _ (Or.inl ⟨g0, hv9, hk9, rfl⟩) (by repeat (first | exact hq | refine cQ_up ?_ (by unfold FPd; omega)))
                | exact hS _ (Or.inr (Or.inl ⟨g1, g2, hk9, rfl⟩)) (by repeat (first | exact hq | refine cQ_up ?_ (by unfold FPd; omega)))
                | exact hS _ (Or.inr (Or.inr (Or.inl ⟨g3, g4, rfl⟩))) (by repeat (first | exact hq | refine cQ_up ?_ (by unfold FPd; omega)))
                | exact hS _ (Or.inr (Or.inr (Or.inr (⟨g5, g6, hk9, rfl⟩)))) (by repeat (first | exact hq | refine cQ_up ?_ (by unfold FPd; omega)))
                | exact hF _ _ (fun a j z9 => by unfold FEx at z9; repeat (first | rw [hf5 a j (by unfold FFl; omega)] | rw [hf4 a j (by unfold FFl; omega)] | rw [hf3 a j (by unfold FFl; omega)] | rw [up_n (by omega)])) (by repeat (first | exact hq5 | exact hq4 | exact hq3 | refine cQ_up ?_ (by unfold FPd; omega))) (by (repeat (first | rw [hf5 _ _ (by unfold FFl; omega)] | rw [hf4 _ _ (by unfold FFl; omega)] | rw [hf3 _ _ (by unfold FFl; omega)] | rw [up_s] | rw [up_n (by omega)])); omega) (by (repeat (first | rw [hf5 _ _ (by unfold FFl; omega)] | rw [hf4 _ _ (by unfold FFl; omega)] | rw [hf3 _ _ (by unfold FFl; omega)] | rw [up_s] | rw [up_n (by omega)])); omega) (Or.inl ⟨g0, by omega, rfl⟩)
                | exact hF _ _ (fun a j z9 => by unfold FEx at z9; repeat (first | rw [hf5 a j (by unfold FFl; omega)] | rw [hf4 a j (by unfold FFl; omega)] | rw [hf3 a j (by unfold FFl; omega)] | rw [up_n (by omega)])) (by repeat (first | exact hq5 | exact hq4 | exact hq3 | refine cQ_up ?_ (by unfold FPd; omega))) (by (repeat (first | rw [hf5 _ _ (by unfold FFl; omega)] | rw [hf4 _ _ (by unfold FFl; omega)] | rw [hf3 _ _ (by unfold FFl; omega)] | rw [up_s] | rw [up_n (by omega)])); omega) (by (repeat (first | rw [hf5 _ _ (by unfold FFl; omega)] | rw [hf4 _ _ (by unfold FFl; omega)] | rw [hf3 _ _ (by unfold FFl; omega)] | rw [up_s] | rw [up_n (by omega)])); omega) (Or.inr (Or.inl ⟨g1, g2, by omega, rfl⟩))
                | exact hF _ _ (fun a j z9 => by unfold FEx at z9; repeat (first | rw [hf5 a j (by unfold FFl; omega)] | rw [hf4 a j (by unfold FFl; omega)] | rw [hf3 a j (by unfold FFl; omega)] | rw [up_n (by omega)])) (by repeat (first | exact hq5 | exact hq4 | exact hq3 | refine cQ_up ?_ (by unfold FPd; omega))) (by (repeat (first | rw [hf5 _ _ (by unfold FFl; omega)] | rw [hf4 _ _ (by unfold FFl; omega)] | rw [hf3 _ _ (by unfold FFl; omega)] | rw [up_s] | rw [up_n (by omega)])); omega) (by (repeat (first | rw [hf5 _ _ (by unfold FFl; omega)] | rw [hf4 _ _ (by unfold FFl; omega)] | rw [hf3 _ _ (by unfold FFl; omega)] | rw [up_s] | rw [up_n (by omega)])); omega) (Or.inr (Or.inr (Or.inl ⟨g3, by omega, rfl⟩)))
                | exact hF _ _ (fun a j z9 => by unfold FEx at z9; repeat (first | rw [hf5 a j (by unfold FFl; omega)] | rw [hf4 a j (by unfold FFl; omega)] | rw [hf3 a j (by unfold FFl; omega)] | rw [up_n (by omega)])) (by repeat (first | exact hq5 | exact hq4 | exact hq3 | refine cQ_up ?_ (by unfold FPd; omega))) (by (repeat (first | rw [hf5 _ _ (by unfold FFl; omega)] | rw [hf4 _ _ (by unfold FFl; omega)] | rw [hf3 _ _ (by unfold FFl; omega)] | rw [up_s] | rw [up_n (by omega)])); omega) (by (repeat (first | rw [hf5 _ _ (by unfold FFl; omega)] | rw [hf4 _ _ (by unfold FFl; omega)] | rw [hf3 _ _ (by unfold FFl; omega)] | rw [up_s] | rw [up_n (by omega)])); omega) (Or.inr (Or.inr (Or.inr (Or.inl ⟨g5, g6, by omega, rfl⟩))))
                | exact hF _ _ (fun a j z9 => by unfold FEx at z9; repeat (first | rw [hf5 a j (by unfold FFl; omega)] | rw [hf4 a j (by unfold FFl; omega)] | rw [hf3 a j (by unfold FFl; omega)] | rw [up_n (by omega)])) (by repeat (first | exact hq5 | exact hq4 | exact hq3 | refine cQ_up ?_ (by unfold FPd; omega))) (by (repeat (first | rw [hf5 _ _ (by unfold FFl; omega)] | rw [hf4 _ _ (by unfold FFl; omega)] | rw [hf3 _ _ (by unfold FFl; omega)] | rw [up_s] | rw [up_n (by omega)])); omega) (by (repeat (first | rw [hf5 _ _ (by unfold FFl; omega)] | rw [hf4 _ _ (by unfold FFl; omega)] | rw [hf3 _ _ (by unfold FFl; omega)] | rw [up_s] | rw [up_n (by omega)])); omega) (Or.inr (Or.inr (Or.inr (Or.inr (⟨g7, by omega, g8, by omega, rfl⟩)))))
            · skip
              conv => whnf
              refine ⟨Nat.le_of_ble_eq_true rfl, Nat.le_of_ble_eq_true rfl, (by first | assumption | rfl), ?_⟩
              first
              | refine c_Thold hq4 (n := σ 32 11) (by repeat (first | rw [hf5 _ _ (by unfold FFl; omega)] | rw [hf4 _ _ (by unfold FFl; omega)] | rw [hf3 _ _ (by unfold FFl; omega)] | rw [up_s] | rw [up_n (by omega)])) (by omega) (fun hw9 => ?_) (fun hw9 => ?_)
              | refine c_Thold (cQ_up hq4 (by unfold FPd; omega)) (n := σ 32 11) (by repeat (first | rw [hf5 _ _ (by unfold FFl; omega)] | rw [hf4 _ _ (by unfold FFl; omega)] | rw [hf3 _ _ (by unfold FFl; omega)] | rw [up_s] | rw [up_n (by omega)])) (by omega) (fun hw9 => ?_) (fun hw9 => ?_)
              | refine c_Thold (cQ_up hq3 (by unfold FPd; omega)) (n := σ 32 11) (by repeat (first | rw [hf5 _ _ (by unfold FFl; omega)] | rw [hf4 _ _ (by unfold FFl; omega)] | rw [hf3 _ _ (by unfold FFl; omega)] | rw [up_s] | rw [up_n (by omega)])) (by omega) (fun hw9 => ?_) (fun hw9 => ?_)
              | refine c_Thold (cQ_up hq (by unfold FPd; omega)) (n := σ 32 11) (by repeat (first | rw [hf5 _ _ (by unfold FFl; omega)] | rw [hf4 _ _ (by unfold FFl; omega)] | rw [hf3 _ _ (by unfold FFl; omega)] | rw [up_s] | rw [up_n (by omega)])) (by omega) (fun hw9 => ?_) (fun hw9 => ?_)
              · skip
                conv => whnf
                refine ⟨rfl, ?_⟩
                first
                | (exfalso; omega)
                | exact hS _ (Or.inl ⟨g0, hv9, hk9, rfl⟩) (by repeat (first | exact hq | refine cQ_up ?_ (by unfold FPd; omega)))
                | exact hS _ (Or.inr (Or.inl ⟨g1, g2, hk9, rfl⟩)) (by repeat (first | exact hq | refine cQ_up ?_ (by unfold FPd; omega)))
                | exact hS _ (Or.inr (Or.inr (Or.inl ⟨g3, g4, rfl⟩))) (by repeat (first | exact hq | refine cQ_up ?_ (by unfold FPd; omega)))
                | exact hS _ (Or.inr (Or.inr (Or.inr (⟨g5, g6, hk9, rfl⟩)))) (by repeat (first | exact hq | refine cQ_up ?_ (by unfold FPd; omega)))
                | exact hF _ _ (fun a j z9 => by unfold FEx at z9; repeat (first | rw [hf5 a j (by unfold FFl; omega)] | rw [hf4 a j (by unfold FFl; omega)] | rw [hf3 a j (by unfold FFl; omega)] | rw [up_n (by omega)])) (by repeat (first | exact hq5 | exact hq4 | exact hq3 | refine cQ_up ?_ (by unfold FPd; omega))) (by (repeat (first | rw [hf5 _ _ (by unfold FFl; omega)] | rw [hf4 _ _ (by unfold FFl; omega)] | rw [hf3 _ _ (by unfold FFl; omega)] | rw [up_s] | rw [up_n (by omega)])); omega) (by (repeat (first | rw [hf5 _ _ (by unfold FFl; omega)] | rw [hf4 _ _ (by unfold FFl; omega)] | rw [hf3 _ _ (by unfold FFl; omega)] | rw [up_s] | rw [up_n (by omega)])); omega) (Or.inl ⟨g0, by omega, rfl⟩)
                | exact hF _ _ (fun a j z9 => by unfold FEx at z9; repeat (first | rw [hf5 a j (by unfold FFl; omega)] | rw [hf4 a j (by unfold FFl; omega)] | rw [hf3 a j (by unfold FFl; omega)] | rw [up_n (by omega)])) (by repeat (first | exact hq5 | exact hq4 | exact hq3 | refine cQ_up ?_ (by unfold FPd; omega))) (by (repeat (first | rw [hf5 _ _ (by unfold FFl; omega)] | rw [hf4 _ _ (by unfold FFl; omega)] | rw [hf3 _ _ (by unfold FFl; omega)] | rw [up_s] | rw [up_n (by omega)])); omega) (by (repeat (first | rw [hf5 _ _ (by unfold FFl; omega)] | rw [hf4 _ _ (by unfold FFl; omega)] | rw [hf3 _ _ (by unfold FFl; omega)] | rw [up_s] | rw [up_n (by omega)])); omega) (Or.inr (Or.inl ⟨g1, g2, by omega, rfl⟩))
                | exact hF _ _ (fun a j z9 => by unfold FEx at z9; repeat (first | rw [hf5 a j (by unfold FFl; omega)] | rw [hf4 a j (by unfold FFl; omega)] | rw [hf3 a j (by unfold FFl; omega)] | rw [up_n (by omega)])) (by repeat (first | exact hq5 | exact hq4 | exact hq3 | refine cQ_up ?_ (by unfold FPd; omega))) (by (repeat (first | rw [hf5 _ _ (by unfold FFl; omega)] | rw [hf4 _ _ (by unfold FFl; omega)] | rw [hf3 _ _ (by unfold FFl; omega)] | rw [up_s] | rw [up_n (by omega)])); omega) (by (repeat (first | rw [hf5 _ _ (by unfold FFl; omega)] | rw [hf4 _ _ (by unfold FFl; omega)] | rw [hf3 _ _ (by unfold FFl; omega)] | rw [up_s] | rw [up_n (by omega)])); omega) (Or.inr (Or.inr (Or.inl ⟨g3, by omega, rfl⟩)))
                | exact hF _ _ (fun a j z9 => by unfold FEx at z9; repeat (first | rw [hf5 a j (by unfold FFl; omega)] | rw [hf4 a j (by unfold FFl; omega)] | rw [hf3 a j (by unfold FFl; omega)] | rw [up_n (by omega)])) (by repeat (first | exact hq5 | exact hq4 | exact hq3 | refine cQ_up ?_ (by unfold FPd; omega))) (by (repeat (first | rw [hf5 _ _ (by unfold FFl; omega)] | rw [hf4 _ _ (by unfold FFl; omega)] | rw [hf3 _ _ (by unfold FFl; omega)] | rw [up_s] | rw [up_n (by omega)])); omega) (by (repeat (first | rw [hf5 _ _ (by unfold FFl; omega)] | rw [hf4 _ _ (by unfold FFl; omega)] | rw [hf3 _ _ (by unfold FFl; omega)] | rw [up_s] | rw [up_n (by omega)])); omega) (Or.inr (Or.inr (Or.inr (Or.inl ⟨g5, g6, by omega, rfl⟩))))
                | exact hF _ _ (fun a j z9 => by unfold FEx at z9; repeat (first | rw [hf5 a j (by unfold FFl; omega)] | rw [hf4 a j (by unfold FFl; omega)] | rw [hf3 a j (by unfold FFl; omega)] | rw [up_n (by omega)])) (by repeat (first | exact hq5 | exact hq4 | exact hq3 | refine cQ_up ?_ (by unfold FPd; omega))) (by (repeat (first | rw [hf5 _ _ (by unfold FFl; omega)] | rw [hf4 _ _ (by unfold FFl; omega)] | rw [hf3 _ _ (by unfold FFl; omega)] | rw [up_s] | rw [up_n (by omega)])); omega) (by (repeat (first | rw [hf5 _ _ (by unfold FFl; omega)] | rw [hf4 _ _ (by unfold FFl; omega)] | rw [hf3 _ _ (by unfold FFl; omega)] | rw [up_s] | rw [up_n (by omega)])); omega) (Or.inr (Or.inr (Or.inr (Or.inr (⟨g7, by omega, g8, by omega, rfl⟩)))))
              · skip
                conv => whnf
                refine ⟨rfl, ?_⟩
                first
                | (exfalso; omega)
                | exact hS _ (Or.inl ⟨g0, hv9, hk9, rfl⟩) (by repeat (first | exact hq | refine cQ_up ?_ (by unfold FPd; omega)))
                | exact hS _ (Or.inr (Or.inl ⟨g1, g2, hk9, rfl⟩)) (by repeat (first | exact hq | refine cQ_up ?_ (by unfold FPd; omega)))
                | exact hS _ (Or.inr (Or.inr (Or.inl ⟨g3, g4, rfl⟩))) (by repeat (first | exact hq | refine cQ_up ?_ (by unfold FPd; omega)))
                | exact hS _ (Or.inr (Or.inr (Or.inr (⟨g5, g6, hk9, rfl⟩)))) (by repeat (first | exact hq | refine cQ_up ?_ (by unfold FPd; omega)))
                | exact hF _ _ (fun a j z9 => by unfold FEx at z9; repeat (first | rw [hf5 a j (by unfold FFl; omega)] | rw [hf4 a j (by unfold FFl; omega)] | rw [hf3 a j (by unfold FFl; omega)] | rw [up_n (by omega)])) (by repeat (first | exact hq5 | exact hq4 | exact hq3 | refine cQ_up ?_ (by unfold FPd; omega))) (by (repeat (first | rw [hf5 _ _ (by unfold FFl; omega)] | rw [hf4 _ _ (by unfold FFl; omega)] | rw [hf3 _ _ (by unfold FFl; omega)] | rw [up_s] | rw [up_n (by omega)])); omega) (by (repeat (first | rw [hf5 _ _ (by unfold FFl; omega)] | rw [hf4 _ _ (by unfold FFl; omega)] | rw [hf3 _ _ (by unfold FFl; omega)] | rw [up_s] | rw [up_n (by omega)])); omega) (Or.inl ⟨g0, by omega, rfl⟩)
                | exact hF _ _ (fun a j z9 => by unfold FEx at z9; repeat (first | rw [hf5 a j (by unfold FFl; omega)] | rw [hf4 a j (by unfold FFl; omega)] | rw [hf3 a j (by unfold FFl; omega)] | rw [up_n (by omega)])) (by repeat (first | exact hq5 | exact hq4 | exact hq3 | refine cQ_up ?_ (by unfold FPd; omega))) (by (repeat (first | rw [hf5 _ _ (by unfold FFl; omega)] | rw [hf4 _ _ (by unfold FFl; omega)] | rw [hf3 _ _ (by unfold FFl; omega)] | rw [up_s] | rw [up_n (by omega)])); omega) (by (repeat (first | rw [hf5 _ _ (by unfold FFl; omega)] | rw [hf4 _ _ (by unfold FFl; omega)] | rw [hf3 _ _ (by unfold FFl; omega)] | rw [up_s] | rw [up_n (by omega)])); omega) (Or.inr (Or.inl ⟨g1, g2, by omega, rfl⟩))
                | exact hF _ _ (fun a j z9 => by unfold FEx at z9; repeat (first | rw [hf5 a j (by unfold FFl; omega)] | rw [hf4 a j (by unfold FFl; omega)] | rw [hf3 a j (by unfold FFl; omega)] | rw [up_n (by omega)])) (by repeat (first | exact hq5 | exact hq4 | exact hq3 | refine cQ_up ?_ (by unfold FPd; omega))) (by (repeat (first | rw [hf5 _ _ (by unfold FFl; omega)] | rw [hf4 _ _ (by unfold FFl; omega)] | rw [hf3 _ _ (by unfold FFl; omega)] | rw [up_s] | rw [up_n (by omega)])); omega) (by (repeat (first | rw [hf5 _ _ (by unfold FFl; omega)] | rw [hf4 _ _ (by unfold FFl; omega)] | rw [hf3 _ _ (by unfold FFl; omega)] | rw [up_s] | rw [up_n (by omega)])); omega) (Or.inr (Or.inr (Or.inl ⟨g3, by omega, rfl⟩)))
                | exact hF _ _ (fun a j z9 => by unfold FEx at z9; repeat (first | rw [hf5 a j (by unfold FFl; omega)] | rw [hf4 a j (by unfold FFl; omega)] | rw [hf3 a j (by unfold FFl; omega)] | rw [up_n (by omega)])) (by repeat (first | exact hq5 | exact hq4 | exact hq3 | refine cQ_up ?_ (by unfold FPd; omega))) (by (repeat (first | rw [hf5 _ _ (by unfold FFl; omega)] | rw [hf4 _ _ (by unfold FFl; omega)] | rw [hf3 _ _ (by unfold FFl; omega)] | rw [up_s] | rw [up_n (by omega)])); omega) (by (repeat (first | rw [hf5 _ _ (by unfold FFl; omega)] | rw [hf4 _ _ (by unfold FFl; omega)] | rw [hf3 _ _ (by unfold FFl; omega)] | rw [up_s] | rw [up_n (by omega)])); omega) (Or.inr (Or.inr (Or.inr (Or.inl ⟨g5, g6, by omega, rfl⟩))))
                | exact hF _ _ (fun a j z9 => by unfold FEx at z9; repeat (first | rw [hf5 a j (by unfold FFl; omega)] | rw [hf4 a j (by unfold FFl; omega)] | rw [hf3 a j (by unfold FFl; omega)] | rw [up_n (by omega)])) (by repeat (first | exact hq5 | exact hq4 | exact hq3 | refine cQ_up ?_ (by unfold FPd; omega))) (by (repeat (first | rw [hf5 _ _ (by unfold FFl; omega)] | rw [hf4 _ _ (by unfold FFl; omega)] | rw [hf3 _ _ (by unfold FFl; omega)] | rw [up_s] | rw [up_n (by omega)])); omega) (by (repeat (first | rw [hf5 _ _ (by unfold FFl; omega)] | rw [hf4 _ _ (by unfold FFl; omega)] | rw [hf3 _ _ (by unfold FFl; omega)] | rw [up_s] | rw [up_n (by omega)])); omega) (Or.inr (Or.inr (Or.inr (Or.inr (⟨g7, by omega, g8, by omega, rfl⟩)))))
      · simp only [sx_cc, Classical.not_not] at g
        have g3 := g
        conv => whnf
        refine ⟨(by first | assumption | rfl), ?_⟩
        try simp (disch := omega) only [Int.cast_ofNat_Int, up_s, up_a, up_i, mp_a, mp_ge]
        try simp only [t3]
        try simp only [t4]
        try simp only [e3]
        try simp only [e12]
        conv => whnf
        refine ⟨fun g => ?_, fun g => ?_⟩
        · simp only [sx_cc, Classical.not_not] at g
          have g4 : σ 32 12 < 8 := by omega
          skip
          conv => whnf
          refine ⟨(by first | assumption | rfl), ?_⟩
          try simp (disch := omega) only [Int.cast_ofNat_Int, up_s, up_a, up_i, mp_a, mp_ge]
          try simp only [t3]
          try simp only [t4]
          try simp only [e3]
          try simp only [e12]
          conv => whnf
          refine ⟨⟨by omega, by omega⟩, ?_⟩
          conv => whnf
          refine ⟨(by first | assumption | rfl), ?_⟩
          try simp (disch := omega) only [Int.cast_ofNat_Int, up_s, up_a, up_i, mp_a, mp_ge]
          try simp only [t3]
          try simp only [t4]
          try simp only [e3]
          try simp only [e12]
          conv => whnf
          refine ⟨Nat.le_of_ble_eq_true rfl, Nat.le_of_ble_eq_true rfl, (by first | assumption | rfl), ?_⟩
          first
          | refine c_Thold hq4 (n := σ 32 11) (by repeat (first | rw [hf5 _ _ (by unfold FFl; omega)] | rw [hf4 _ _ (by unfold FFl; omega)] | rw [hf3 _ _ (by unfold FFl; omega)] | rw [up_s] | rw [up_n (by omega)])) (by omega) (fun hw9 => ?_) (fun hw9 => ?_)
          | refine c_Thold (cQ_up hq4 (by unfold FPd; omega)) (n := σ 32 11) (by repeat (first | rw [hf5 _ _ (by unfold FFl; omega)] | rw [hf4 _ _ (by unfold FFl; omega)] | rw [hf3 _ _ (by unfold FFl; omega)] | rw [up_s] | rw [up_n (by omega)])) (by omega) (fun hw9 => ?_) (fun hw9 => ?_)
          | refine c_Thold (cQ_up hq3 (by unfold FPd; omega)) (n := σ 32 11) (by repeat (first | rw [hf5 _ _ (by unfold FFl; omega)] | rw [hf4 _ _ (by unfold FFl; omega)] | rw [hf3 _ _ (by unfold FFl; omega)] | rw [up_s] | rw [up_n (by omega)])) (by omega) (fun hw9 => ?_) (fun hw9 => ?_)
          | refine c_Thold (cQ_up hq (by unfold FPd; omega)) (n := σ 32 11) (by repeat (first | rw [hf5 _ _ (by unfold FFl; omega)] | rw [hf4 _ _ (by unfold FFl; omega)] | rw [hf3 _ _ (by unfold FFl; omega)] | rw [up_s] | rw [up_n (by omega)])) (by omega) (fun hw9 => ?_) (fun hw9 => ?_)
          · skip
            conv => whnf
            refine ⟨rfl, ?_⟩
            first
            | (exfalso; omega)
            | exact hS _ (Or.inl ⟨g0, hv9, hk9, rfl⟩) (by repeat (first | exact hq | refine cQ_up ?_ (by unfold FPd; omega)))
            | exact hS _ (Or.inr (Or.inl ⟨g1, g2, hk9, rfl⟩)) (by repeat (first | exact hq | refine cQ_up ?_ (by unfold FPd; omega)))
            | exact hS _ (Or.inr (Or.inr (Or.inl ⟨g3, g4, rfl⟩))) (by repeat (first | exact hq | refine cQ_up ?_ (by unfold FPd; omega)))
            | exact hS _ (Or.inr (Or.inr (Or.inr (⟨g5, g6, hk9, rfl⟩)))) (by repeat (first | exact hq | refine cQ_up ?_ (by unfold FPd; omega)))
            | exact hF _ _ (fun a j z9 => by unfold FEx at z9; repeat (first | rw [hf5 a j (by unfold FFl; omega)] | rw [hf4 a j (by unfold FFl; omega)] | rw [hf3 a j (by unfold FFl; omega)] | rw [up_n (by omega)])) (by repeat (first | exact hq5 | exact hq4 | exact hq3 | refine cQ_up ?_ (by unfold FPd; omega))) (by (repeat (first | rw [hf5 _ _ (by unfold FFl; omega)] | rw [hf4 _ _ (by unfold FFl; omega)] | rw [hf3 _ _ (by unfold FFl; omega)] | rw [up_s] | rw [up_n (by omega)])); omega) (by (repeat (first | rw [hf5 _ _ (by unfold FFl; omega)] | rw [hf4 _ _ (by unfold FFl; omega)] | rw [hf3 _ _ (by unfold FFl; omega)] | rw [up_s] | rw [up_n (by omega)])); omega) (Or.inl ⟨g0, by omega, rfl⟩)
            | exact hF _ _ (fun a j z9 => by unfold FEx at z9; repeat (first | rw [hf5 a j (by unfold FFl; omega)] | rw [hf4 a j (by unfold FFl; omega)] | rw [hf3 a j (by unfold FFl; omega)] | rw [up_n (by omega)])) (by repeat (first | exact hq5 | exact hq4 | exact hq3 | refine cQ_up ?_ (by unfold FPd; omega))) (by (repeat (first | rw [hf5 _ _ (by unfold FFl; omega)] | rw [hf4 _ _ (by unfold FFl; omega)] | rw [hf3 _ _ (by unfold FFl; omega)] | rw [up_s] | rw [up_n (by omega)])); omega) (by (repeat (first | rw [hf5 _ _ (by unfold FFl; omega)] | rw [hf4 _ _ (by unfold FFl; omega)] | rw [hf3 _ _ (by unfold FFl; omega)] | rw [up_s] | rw [up_n (by omega)])); omega) (Or.inr (Or.inl ⟨g1, g2, by omega, rfl⟩))
            | exact hF _ _ (fun a j z9 => by unfold FEx at z9; repeat (first | rw [hf5 a j (by unfold FFl; omega)] | rw [hf4 a j (by unfold FFl; omega)] | rw [hf3 a j (by unfold FFl; omega)] | rw [up_n (by omega)])) (by repeat (first | exact hq5 | exact hq4 | exact hq3 | refine cQ_up ?_ (by unfold FPd; omega))) (by (repeat (first | rw [hf5 _ _ (by unfold FFl; omega)] | rw [hf4 _ _ (by unfold FFl; omega)] | rw [hf3 _ _ (by unfold FFl; omega)] | rw [up_s] | rw [up_n (by omega)])); omega) (by (repeat (first | rw [hf5 _ _ (by unfold FFl; omega)] | rw [hf4 _ _ (by unfold FFl; omega)] | rw [hf3 _ _ (by unfold FFl; omega)] | rw [up_s] | rw [up_n (by omega)])); omega) (Or.inr (Or.inr (Or.inl ⟨g3, by omega, rfl⟩)))
            | exact hF _ _ (fun a j z9 => by unfold FEx at z9; repeat (first | rw [hf5 a j (by unfold FFl; omega)] | rw [hf4 a j (by unfold FFl; omega)] | rw [hf3 a j (by unfold FFl; omega)] | rw [up_n (by omega)])) (by repeat (first | exact hq5 | exact hq4 | exact hq3 | refine cQ_up ?_ (by unfold FPd; omega))) (by (repeat (first | rw [hf5 _ _ (by unfold FFl; omega)] | rw [hf4 _ _ (by unfold FFl; omega)] | rw [hf3 _ _ (by unfold FFl; omega)] | rw [up_s] | rw [up_n (by omega)])); omega) (by (repeat (first | rw [hf5 _ _ (by unfold FFl; omega)] | rw [hf4 _ _ (by unfold FFl; omega)] | rw [hf3 _ _ (by unfold FFl; omega)] | rw [up_s] | rw [up_n (by omega)])); omega) (Or.inr (Or.inr (Or.inr (Or.inl ⟨g5, g6, by omega, rfl⟩))))
            | exact hF _ _ (fun a j z9 => by unfold FEx at z9; repeat (first | rw [hf5 a j (by unfold FFl; omega)] | rw [hf4 a j (by unfold FFl; omega)] | rw [hf3 a j (by unfold FFl; omega)] | rw [up_n (by omega)])) (by repeat (first | exact hq5 | exact hq4 | exact hq3 | refine cQ_up ?_ (by unfold FPd; omega))) (by (repeat (first | rw [hf5 _ _ (by unfold FFl; omega)] | rw [hf4 _ _ (by unfold FFl; omega)] | rw [hf3 _ _ (by unfold FFl; omega)] | rw [up_s] | rw [up_n (by omega)])); omega) (by (repeat (first | rw [hf5 _ _ (by unfold FFl; omega)] | rw [hf4 _ _ (by unfold FFl; omega)] | rw [hf3 _ _ (by unfold FFl; omega)] | rw [up_s] | rw [up_n (by omega)])); omega) (Or.inr (Or.inr (Or.inr (Or.inr (⟨g7, by omega, g8, by omega, rfl⟩)))))
          · skip
            conv => whnf
            refine ⟨rfl, ?_⟩
            first
            | (exfalso; omega)
            | exact hS _ (Or.inl ⟨g0, hv9, hk9, rfl⟩) (by repeat (first | exact hq | refine cQ_up ?_ (by unfold FPd; omega)))
            | exact hS _ (Or.inr (Or.inl ⟨g1, g2, hk9, rfl⟩)) (by repeat (first | exact hq | refine cQ_up ?_ (by unfold FPd; omega)))
            | exact hS _ (Or.inr (Or.inr (Or.inl ⟨g3, g4, rfl⟩))) (by repeat (first | exact hq | refine cQ_up ?_ (by unfold FPd; omega)))
            | exact hS _ (Or.inr (Or.inr (Or.inr (⟨g5, g6, hk9, rfl⟩)))) (by repeat (first | exact hq | refine cQ_up ?_ (by unfold FPd; omega)))
            | exact hF _ _ (fun a j z9 => by unfold FEx at z9; repeat (first | rw [hf5 a j (by unfold FFl; omega)] | rw [hf4 a j (by unfold FFl; omega)] | rw [hf3 a j (by unfold FFl; omega)] | rw [up_n (by omega)])) (by repeat (first | exact hq5 | exact hq4 | exact hq3 | refine cQ_up ?_ (by unfold FPd; omega))) (by (repeat (first | rw [hf5 _ _ (by unfold FFl; omega)] | rw [hf4 _ _ (by unfold FFl; omega)] | rw [hf3 _ _ (by unfold FFl; omega)] | rw [up_s] | rw [up_n (by omega)])); omega) (by (repeat (first | rw [hf5 _ _ (by unfold FFl; omega)] | rw [hf4 _ _ (by unfold FFl; omega)] | rw [hf3 _ _ (by unfold FFl; omega)] | rw [up_s] | rw [up_n (by omega)])); omega) (Or.inl ⟨g0, by omega, rfl⟩)
            | exact hF _ _ (fun a j z9 => by unfold FEx at z9; repeat (first | rw [hf5 a j (by unfold FFl; omega)] | rw [hf4 a j (by unfold FFl; omega)] | rw [hf3 a j (by unfold FFl; omega)] | rw [up_n (by omega)])) (by repeat (first | exact hq5 | exact hq4 | exact hq3 | refine cQ_up ?_ (by unfold FPd; omega))) (by (repeat (first | rw [hf5 _ _ (by unfold FFl; omega)] | rw [hf4 _ _ (by unfold FFl; omega)] | rw [hf3 _ _ (by unfold FFl; omega)] | rw [up_s] | rw [up_n (by omega)])); omega) (by (repeat (first | rw [hf5 _ _ (by unfold FFl; omega)] | rw [hf4 _ _ (by unfold FFl; omega)] | rw [hf3 _ _ (by unfold FFl; omega)] | rw [up_s] | rw [up_n (by omega)])); omega) (Or.inr (Or.inl ⟨g1, g2, by omega, rfl⟩))
            | exact hF _ _ (fun a j z9 => by unfold FEx at z9; repeat (first | rw [hf5 a j (by unfold FFl; omega)] | rw [hf4 a j (by unfold FFl; omega)] | rw [hf3 a j (by unfold FFl; omega)] | rw [up_n (by omega)])) (by repeat (first | exact hq5 | exact hq4 | exact hq3 | refine cQ_up ?_ (by unfold FPd; omega))) (by (repeat (first | rw [hf5 _ _ (by unfold FFl; omega)] | rw [hf4 _ _ (by unfold FFl; omega)] | rw [hf3 _ _ (by unfold FFl; omega)] | rw [up_s] | rw [up_n (by omega)])); omega) (by (repeat (first | rw [hf5 _ _ (by unfold FFl; omega)] | rw [hf4 _ _ (by unfold FFl; omega)] | rw [hf3 _ _ (by unfold FFl; omega)] | rw [up_s] | rw [up_n (by omega)])); omega) (Or.inr (Or.inr (Or.inl ⟨g3, by omega, rfl⟩)))
            | exact hF _ _ (fun a j z9 => by unfold FEx at z9; repeat (first | rw [hf5 a j (by unfold FFl; omega)] | rw [hf4 a j (by unfold FFl; omega)] | rw [hf3 a j (by unfold FFl; omega)] | rw [up_n (by omega)])) (by repeat (first | exact hq5 | exact hq4 | exact hq3 | refine cQ_up ?_ (by unfold FPd; omega))) (by (repeat (first | rw [hf5 _ _ (by unfold FFl; omega)] | rw [hf4 _ _ (by unfold FFl; omega)] | rw [hf3 _ _ (by unfold FFl; omega)] | rw [up_s] | rw [up_n (by omega)])); omega) (by (repeat (first | rw [hf5 _ _ (by unfold FFl; omega)] | rw [hf4 _ _ (by unfold FFl; omega)] | rw [hf3 _ _ (by unfold FFl; omega)] | rw [up_s] | rw [up_n (by omega)])); omega) (Or.inr (Or.inr (Or.inr (Or.inl ⟨g5, g6, by omega, rfl⟩))))
            | exact hF _ _ (fun a j z9 => by unfold FEx at z9; repeat (first | rw [hf5 a j (by unfold FFl; omega)] | rw [hf4 a j (by unfold FFl; omega)] | rw [hf3 a j (by unfold FFl; omega)] | rw [up_n (by omega)])) (by repeat (first | exact hq5 | exact hq4 | exact hq3 | refine cQ_up ?_ (by unfold FPd; omega))) (by (repeat (first | rw [hf5 _ _ (by unfold FFl; omega)] | rw [hf4 _ _ (by unfold FFl; omega)] | rw [hf3 _ _ (by unfold FFl; omega)] | rw [up_s] | rw [up_n (by omega)])); omega) (by (repeat (first | rw [hf5 _ _ (by unfold FFl; omega)] | rw [hf4 _ _ (by unfold FFl; omega)] | rw [hf3 _ _ (by unfold FFl; omega)] | rw [up_s] | rw [up_n (by omega)])); omega) (Or.inr (Or.inr (Or.inr (Or.inr (⟨g7, by omega, g8, by omega, rfl⟩)))))
        · simp only [sx_cc, Classical.not_not] at g
          conv => whnf
          refine ⟨Nat.le_of_ble_eq_true rfl, Nat.le_of_ble_eq_true rfl, (by first | assumption | rfl), ?_⟩
          refine c_Tfail hq (by decide) (fun σ3 hf3 hq3 => ?_)
          have e12 : σ3 32 12 = σ 32 12 := hf3 _ _ (by decide)
          conv => whnf
          refine ⟨(by first | assumption | rfl), ?_⟩
          try simp (disch := omega) only [Int.cast_ofNat_Int, up_s, up_a, up_i, mp_a, mp_ge]
          try simp only [t3]
          try simp only [t4]
          try simp only [e3]
          try simp only [e12]
          conv => whnf
          refine ⟨⟨by omega, by omega⟩, ?_⟩
          conv => whnf
          refine ⟨(by first | assumption | rfl), ?_⟩
          try simp (disch := omega) only [Int.cast_ofNat_Int, up_s, up_a, up_i, mp_a, mp_ge]
          try simp only [t3]
          try simp only [t4]
          try simp only [e3]
          try simp only [e12]
          conv => whnf
          refine ⟨Nat.le_of_ble_eq_true rfl, Nat.le_of_ble_eq_true rfl, (by first | assumption | rfl), ?_⟩
          first
          | refine c_Thold hq4 (n := σ 32 11) (by repeat (first | rw [hf5 _ _ (by unfold FFl; omega)] | rw [hf4 _ _ (by unfold FFl; omega)] | rw [hf3 _ _ (by unfold FFl; omega)] | rw [up_s] | rw [up_n (by omega)])) (by omega) (fun hw9 => ?_) (fun hw9 => ?_)
          | refine c_Thold (cQ_up hq4 (by unfold FPd; omega)) (n := σ 32 11) (by repeat (first | rw [hf5 _ _ (by unfold FFl; omega)] | rw [hf4 _ _ (by unfold FFl; omega)] | rw [hf3 _ _ (by unfold FFl; omega)] | rw [up_s] | rw [up_n (by omega)])) (by omega) (fun hw9 => ?_) (fun hw9 => ?_)
          | refine c_Thold (cQ_up hq3 (by unfold FPd; omega)) (n := σ 32 11) (by repeat (first | rw [hf5 _ _ (by unfold FFl; omega)] | rw [hf4 _ _ (by unfold FFl; omega)] | rw [hf3 _ _ (by unfold FFl; omega)] | rw [up_s] | rw [up_n (by omega)])) (by omega) (fun hw9 => ?_) (fun hw9 => ?_)
          | refine c_Thold (cQ_up hq (by unfold FPd; omega)) (n := σ 32 11) (by repeat (first | rw [hf5 _ _ (by unfold FFl; omega)] | rw [hf4 _ _ (by unfold FFl; omega)] | rw [hf3 _ _ (by unfold FFl; omega)] | rw [up_s] | rw [up_n (by omega)])) (by omega) (fun hw9 => ?_) (fun hw9 => ?_)
          · skip
            conv => whnf
            refine ⟨rfl, ?_⟩
            first
            | (exfalso; omega)
            | exact hS _ (Or.inl ⟨g0, hv9, hk9, rfl⟩) (by repeat (first | exact hq | refine cQ_up ?_ (by unfold FPd; omega)))
            | exact hS _ (Or.inr (Or.inl ⟨g1, g2, hk9, rfl⟩)) (by repeat (first | exact hq | refine cQ_up ?_ (by unfold FPd; omega)))
            | exact hS _ (Or.inr (Or.inr (Or.inl ⟨g3, g4, rfl⟩))) (by repeat (first | exact hq | refine cQ_up ?_ (by unfold FPd; omega)))
            | exact hS _ (Or.inr (Or.inr (Or.inr (⟨g5, g6, hk9, rfl⟩)))) (by repeat (first | exact hq | refine cQ_up ?_ (by unfold FPd; omega)))
            | exact hF _ _ (fun a j z9 => by unfold FEx at z9; repeat (first | rw [hf5 a j (by unfold FFl; omega)] | rw [hf4 a j (by unfold FFl; omega)] | rw [hf3 a j (by unfold FFl; omega)] | rw [up_n (by omega)])) (by repeat (first | exact hq5 | exact hq4 | exact hq3 | refine cQ_up ?_ (by unfold FPd; omega))) (by (repeat (first | rw [hf5 _ _ (by unfold FFl; omega)] | rw [hf4 _ _ (by unfold FFl; omega)] | rw [hf3 _ _ (by unfold FFl; omega)] | rw [up_s] | rw [up_n (by omega)])); omega) (by (repeat (first | rw [hf5 _ _ (by unfold FFl; omega)] | rw [hf4 _ _ (by unfold FFl; omega)] | rw [hf3 _ _ (by unfold FFl; omega)] | rw [up_s] | rw [up_n (by omega)])); omega) (Or.inl ⟨g0, by omega, rfl⟩)
            | exact hF _ _ (fun a j z9 => by unfold FEx at z9; repeat (first | rw [hf5 a j (by unfold FFl; omega)] | rw [hf4 a j (by unfold FFl; omega)] | rw [hf3 a j (by unfold FFl; omega)] | rw [up_n (by omega)])) (by repeat (first | exact hq5 | exact hq4 | exact hq3 | refine cQ_up ?_ (by unfold FPd; omega))) (by (repeat (first | rw [hf5 _ _ (by unfold FFl; omega)] | rw [hf4 _ _ (by unfold FFl; omega)] | rw [hf3 _ _ (by unfold FFl; omega)] | rw [up_s] | rw [up_n (by omega)])); omega) (by (repeat (first | rw [hf5 _ _ (by unfold FFl; omega)] | rw [hf4 _ _ (by unfold FFl; omega)] | rw [hf3 _ _ (by unfold FFl; omega)] | rw [up_s] | rw [up_n (by omega)])); omega) (Or.inr (Or.inl ⟨g1, g2, by omega, rfl⟩))
            | exact hF _ _ (fun a j z9 => by unfold FEx at z9; repeat (first | rw [hf5 a j (by unfold FFl; omega)] | rw [hf4 a j (by unfold FFl; omega)] | rw [hf3 a j (by unfold FFl; omega)] | rw [up_n (by omega)])) (by repeat (first | exact hq5 | exact hq4 | exact hq3 | refine cQ_up ?_ (by unfold FPd; omega))) (by (repeat (first | rw [hf5 _ _ (by unfold FFl; omega)] | rw [hf4 _ _ (by unfold FFl; omega)] | rw [hf3 _ _ (by unfold FFl; omega)] | rw [up_s] | rw [up_n (by omega)])); omega) (by (repeat (first | rw [hf5 _ _ (by unfold FFl; omega)] | rw [hf4 _ _ (by unfold FFl; omega)] | rw [hf3 _ _ (by unfold FFl; omega)] | rw [up_s] | rw [up_n (by omega)])); omega) (Or.inr (Or.inr (Or.inl ⟨g3, by omega, rfl⟩)))
            | exact hF _ _ (fun a j z9 => by unfold FEx at z9; repeat (first | rw [hf5 a j (by unfold FFl; omega)] | rw [hf4 a j (by unfold FFl; omega)] | rw [hf3 a j (by unfold FFl; omega)] | rw [up_n (by omega)])) (by repeat (first | exact hq5 | exact hq4 | exact hq3 | refine cQ_up ?_ (by unfold FPd; omega))) (by (repeat (first | rw [hf5 _ _ (by unfold FFl; omega)] | rw [hf4 _ _ (by unfold FFl; omega)] | rw [hf3 _ _ (by unfold FFl; omega)] | rw [up_s] | rw [up_n (by omega)])); omega) (by (repeat (first | rw [hf5 _ _ (by unfold FFl; omega)] | rw [hf4 _ _ (by unfold FFl; omega)] | rw [hf3 _ _ (by unfold FFl; omega)] | rw [up_s] | rw [up_n (by omega)])); omega) (Or.inr (Or.inr (Or.inr (Or.inl ⟨g5, g6, by omega, rfl⟩))))
            | exact hF _ _ (fun a j z9 => by unfold FEx at z9; repeat (first | rw [hf5 a j (by unfold FFl; omega)] | rw [hf4 a j (by unfold FFl; omega)] | rw [hf3 a j (by unfold FFl; omega)] | rw [up_n (by omega)])) (by repeat (first | exact hq5 | exact hq4 | exact hq3 | refine cQ_up ?_ (by unfold FPd; omega))) (by (repeat (first | rw [hf5 _ _ (by unfold FFl; omega)] | rw [hf4 _ _ (by unfold FFl; omega)] | rw [hf3 _ _ (by unfold FFl; omega)] | rw [up_s] | rw [up_n (by omega)])); omega) (by (repeat (first | rw [hf5 _ _ (by unfold FFl; omega)] | rw [hf4 _ _ (by unfold FFl; omega)] | rw [hf3 _ _ (by unfold FFl; omega)] | rw [up_s] | rw [up_n (by omega)])); omega) (Or.inr (Or.inr (Or.inr (Or.inr (⟨g7, by omega, g8, by omega, rfl⟩)))))
          · skip
            conv => whnf
            refine ⟨rfl, ?_⟩
            first
            | (exfalso; omega)
            | exact hS _ (Or.inl ⟨g0, hv9, hk9, rfl⟩) (by repeat (first | exact hq | refine cQ_up ?_ (by unfold FPd; omega)))
            | exact hS _ (Or.inr (Or.inl ⟨g1, g2, hk9, rfl⟩)) (by repeat (first | exact hq | refine cQ_up ?_ (by unfold FPd; omega)))
            | exact hS _ (Or.inr (Or.inr (Or.inl ⟨g3, g4, rfl⟩))) (by repeat (first | exact hq | refine cQ_up ?_ (by unfold FPd; omega)))
            | exact hS _ (Or.inr (Or.inr (Or.inr (⟨g5, g6, hk9, rfl⟩)))) (by repeat (first | exact hq | refine cQ_up ?_ (by unfold FPd; omega)))
            | exact hF _ _ (fun a j z9 => by unfold FEx at z9; repeat (first | rw [hf5 a j (by unfold FFl; omega)] | rw [hf4 a j (by unfold FFl; omega)] | rw [hf3 a j (by unfold FFl; omega)] | rw [up_n (by omega)])) (by repeat (first | exact hq5 | exact hq4 | exact hq3 | refine cQ_up ?_ (by unfold FPd; omega))) (by (repeat (first | rw [hf5 _ _ (by unfold FFl; omega)] | rw [hf4 _ _ (by unfold FFl; omega)] | rw [hf3 _ _ (by unfold FFl; omega)] | rw [up_s] | rw [up_n (by omega)])); omega) (by (repeat (first | rw [hf5 _ _ (by unfold FFl; omega)] | rw [hf4 _ _ (by unfold FFl; omega)] | rw [hf3 _ _ (by unfold FFl; omega)] | rw [up_s] | rw [up_n (by omega)])); omega) (Or.inl ⟨g0, by omega, rfl⟩)
            | exact hF _ _ (fun a j z9 => by unfold FEx at z9; repeat (first | rw [hf5 a j (by unfold FFl; omega)] | rw [hf4 a j (by unfold FFl; omega)] | rw [hf3 a j (by unfold FFl; omega)] | rw [up_n (by omega)])) (by repeat (first | exact hq5 | exact hq4 | exact hq3 | refine cQ_up ?_ (by unfold FPd; omega))) (by (repeat (first | rw [hf5 _ _ (by unfold FFl; omega)] | rw [hf4 _ _ (by unfold FFl; omega)] | rw [hf3 _ _ (by unfold FFl; omega)] | rw [up_s] | rw [up_n (by omega)])); omega) (by (repeat (first | rw [hf5 _ _ (by unfold FFl; omega)] | rw [hf4 _ _ (by unfold FFl; omega)] | rw [hf3 _ _ (by unfold FFl; omega)] | rw [up_s] | rw [up_n (by omega)])); omega) (Or.inr (Or.inl ⟨g1, g2, by omega, rfl⟩))
            | exact hF _ _ (fun a j z9 => by unfold FEx at z9; repeat (first | rw [hf5 a j (by unfold FFl; omega)] | rw [hf4 a j (by unfold FFl; omega)] | rw [hf3 a j (by unfold FFl; omega)] | rw [up_n (by omega)])) (by repeat (first | exact hq5 | exact hq4 | exact hq3 | refine cQ_up ?_ (by unfold FPd; omega))) (by (repeat (first | rw [hf5 _ _ (by unfold FFl; omega)] | rw [hf4 _ _ (by unfold FFl; omega)] | rw [hf3 _ _ (by unfold FFl; omega)] | rw [up_s] | rw [up_n (by omega)])); omega) (by (repeat (first | rw [hf5 _ _ (by unfold FFl; omega)] | rw [hf4 _ _ (by unfold FFl; omega)] | rw [hf3 _ _ (by unfold FFl; omega)] | rw [up_s] | rw [up_n (by omega)])); omega) (Or.inr (Or.inr (Or.inl ⟨g3, by omega, rfl⟩)))
            | exact hF _ _ (fun a j z9 => by unfold FEx at z9; repeat (first | rw [hf5 a j (by unfold FFl; omega)] | rw [hf4 a j (by unfold FFl; omega)] | rw [hf3 a j (by unfold FFl; omega)] | rw [up_n (by omega)])) (by repeat (first | exact hq5 | exact hq4 | exact hq3 | refine cQ_up ?_ (by unfold FPd; omega))) (by (repeat (first | rw [hf5 _ _ (by unfold FFl; omega)] | rw [hf4 _ _ (by unfold FFl; omega)] | rw [hf3 _ _ (by unfold FFl; omega)] | rw [up_s] | rw [up_n (by omega)])); omega) (by (repeat (first | rw [hf5 _ _ (by unfold FFl; omega)] | rw [hf4 _ _ (by unfold FFl; omega)] | rw [hf3 _ _ (by unfold FFl; omega)] | rw [up_s] | rw [up_n (by omega)])); omega) (Or.inr (Or.inr (Or.inr (Or.inl ⟨g5, g6, by omega, rfl⟩))))
            | exact hF _ _ (fun a j z9 => by unfold FEx at z9; repeat (first | rw [hf5 a j (by unfold FFl; omega)] | rw [hf4 a j (by unfold FFl; omega)] | rw [hf3 a j (by unfold FFl; omega)] | rw [up_n (by omega)])) (by repeat (first | exact hq5 | exact hq4 | exact hq3 | refine cQ_up ?_ (by unfold FPd; omega))) (by (repeat (first | rw [hf5 _ _ (by unfold FFl; omega)] | rw [hf4 _ _ (by unfold FFl; omega)] | rw [hf3 _ _ (by unfold FFl; omega)] | rw [up_s] | rw [up_n (by omega)])); omega) (by (repeat (first | rw [hf5 _ _ (by unfold FFl; omega)] | rw [hf4 _ _ (by unfold FFl; omega)] | rw [hf3 _ _ (by unfold FFl; omega)] | rw [up_s] | rw [up_n (by omega)])); omega) (Or.inr (Or.inr (Or.inr (Or.inr (⟨g7, by omega, g8, by omega, rfl⟩)))))
    · simp only [sx_cc, Classical.not_not] at g
      conv => whnf
      refine ⟨fun g => ?_, fun g => ?_⟩
      · simp only [sx_cc, Classical.not_not] at g
        conv => whnf
        refine ⟨fun g => ?_, fun g => ?_⟩
        · simp only [sx_cc, Classical.not_not] at g
          have g8 := g
          conv => whnf
          refine ⟨fun g => ?_, fun g => ?_⟩
          · simp only [sx_cc, Classical.not_not] at g
            conv => whnf
            refine ⟨Nat.le_of_ble_eq_true rfl, Nat.le_of_ble_eq_true rfl, (by first | assumption | rfl), ?_⟩
            refine c_Tfail hq (by decide) (fun σ5 hf5 hq5 => ?_)
            conv => whnf
            refine ⟨rfl, ?_⟩
            first
            | (exfalso; omega)
            | exact hS _ (Or.inl ⟨g0, hv9, hk9, rfl⟩) (by repeat (first | exact hq | refine cQ_up ?_ (by unfold FPd; omega)))
            | exact hS _ (Or.inr (Or.inl ⟨g1, g2, hk9, rfl⟩)) (by repeat (first | exact hq | refine cQ_up ?_ (by unfold FPd; omega)))
            | exact hS _ (Or.inr (Or.inr (Or.inl ⟨g3, g4, rfl⟩))) (by repeat (first | exact hq | refine cQ_up ?_ (by unfold FPd; omega)))
            | exact hS _ (Or.inr (Or.inr (Or.inr (⟨g5, g6, hk9, rfl⟩)))) (by repeat (first | exact hq | refine cQ_up ?_ (by unfold FPd; omega)))
            | exact hF _ _ (fun a j z9 => by unfold FEx at z9; repeat (first | rw [hf5 a j (by unfold FFl; omega)] | rw [hf4 a j (by unfold FFl; omega)] | rw [hf3 a j (by unfold FFl; omega)] | rw [up_n (by omega)])) (by repeat (first | exact hq5 | exact hq4 | exact hq3 | refine cQ_up ?_ (by unfold FPd; omega))) (by (repeat (first | rw [hf5 _ _ (by unfold FFl; omega)] | rw [hf4 _ _ (by unfold FFl; omega)] | rw [hf3 _ _ (by unfold FFl; omega)] | rw [up_s] | rw [up_n (by omega)])); omega) (by (repeat (first | rw [hf5 _ _ (by unfold FFl; omega)] | rw [hf4 _ _ (by unfold FFl; omega)] | rw [hf3 _ _ (by unfold FFl; omega)] | rw [up_s] | rw [up_n (by omega)])); omega) (Or.inl ⟨g0, by omega, rfl⟩)
            | exact hF _ _ (fun a j z9 => by unfold FEx at z9; repeat (first | rw [hf5 a j (by unfold FFl; omega)] | rw [hf4 a j (by unfold FFl; omega)] | rw [hf3 a j (by unfold FFl; omega)] | rw [up_n (by omega)])) (by repeat (first | exact hq5 | exact hq4 | exact hq3 | refine cQ_up ?_ (by unfold FPd; omega))) (by (repeat (first | rw [hf5 _ _ (by unfold FFl; omega)] | rw [hf4 _ _ (by unfold FFl; omega)] | rw [hf3 _ _ (by unfold FFl; omega)] | rw [up_s] | rw [up_n (by omega)])); omega) (by (repeat (first | rw [hf5 _ _ (by unfold FFl; omega)] | rw [hf4 _ _ (by unfold FFl; omega)] | rw [hf3 _ _ (by unfold FFl; omega)] | rw [up_s] | rw [up_n (by omega)])); omega) (Or.inr (Or.inl ⟨g1, g2, by omega, rfl⟩))
            | exact hF _ _ (fun a j z9 => by unfold FEx at z9; repeat (first | rw [hf5 a j (by unfold FFl; omega)] | rw [hf4 a j (by unfold FFl; omega)] | rw [hf3 a j (by unfold FFl; omega)] | rw [up_n (by omega)])) (by repeat (first | exact hq5 | exact hq4 | exact hq3 | refine cQ_up ?_ (by unfold FPd; omega))) (by (repeat (first | rw [hf5 _ _ (by unfold FFl; omega)] | rw [hf4 _ _ (by unfold FFl; omega)] | rw [hf3 _ _ (by unfold FFl; omega)] | rw [up_s] | rw [up_n (by omega)])); omega) (by (repeat (first | rw [hf5 _ _ (by unfold FFl; omega)] | rw [hf4 _ _ (by unfold FFl; omega)] | rw [hf3 _ _ (by unfold FFl; omega)] | rw [up_s] | rw [up_n (by omega)])); omega) (Or.inr (Or.inr (Or.inl ⟨g3, by omega, rfl⟩)))
            | exact hF _ _ (fun a j z9 => by unfold FEx at z9; repeat (first | rw [hf5 a j (by unfold FFl; omega)] | rw [hf4 a j (by unfold FFl; omega)] | rw [hf3 a j (by unfold FFl; omega)] | rw [up_n (by omega)])) (by repeat (first | exact hq5 | exact hq4 | exact hq3 | refine cQ_up ?_ (by unfold FPd; omega))) (by (repeat (first | rw [hf5 _ _ (by unfold FFl; omega)] | rw [hf4 _ _ (by unfold FFl; omega)] | rw [hf3 _ _ (by unfold FFl; omega)] | rw [up_s] | rw [up_n (by omega)])); omega) (by (repeat (first | rw [hf5 _ _ (by unfold FFl; omega)] | rw [hf4 _ _ (by unfold FFl; omega)] | rw [hf3 _ _ (by unfold FFl; omega)] | rw [up_s] | rw [up_n (by omega)])); omega) (Or.inr (Or.inr (Or.inr (Or.inl ⟨g5, g6, by omega, rfl⟩))))
            | exact hF _ _ (fun a j z9 => by unfold FEx at z9; repeat (first | rw [hf5 a j (by unfold FFl; omega)] | rw [hf4 a j (by unfold FFl; omega)] | rw [hf3 a j (by unfold FFl; omega)] | rw [up_n (by omega)])) (by repeat (first | exact hq5 | exact hq4 | exact hq3 | refine cQ_up ?_ (by unfold FPd; omega))) (by (repeat (first | rw [hf5 _ _ (by unfold FFl; omega)] | rw [hf4 _ _ (by unfold FFl; omega)] | rw [hf3 _ _ (by unfold FFl; omega)] | rw [up_s] | rw [up_n (by omega)])); omega) (by (repeat (first | rw [hf5 _ _ (by unfold FFl; omega)] | rw [hf4 _ _ (by unfold FFl; omega)] | rw [hf3 _ _ (by unfold FFl; omega)] | rw [up_s] | rw [up_n (by omega)])); omega) (Or.inr (Or.inr (Or.inr (Or.inr (⟨g7, by omega, g8, by omega, rfl⟩)))))
          · simp only [sx_cc, Classical.not_not] at g
            have g5 := g
            conv => whnf
            refine ⟨Nat.le_of_ble_eq_true rfl, Nat.le_of_ble_eq_true rfl, (by first | assumption | rfl), ?_⟩
            refine c_Thrank hq ?_
            conv => whnf
            refine ⟨fun g => ?_, fun g => ?_⟩
            · simp only [sx_cc, Classical.not_not] at g
              conv => whnf
              refine ⟨Nat.le_of_ble_eq_true rfl, Nat.le_of_ble_eq_true rfl, (by first | assumption | rfl), ?_⟩
              refine c_Tfail hq (by decide) (fun σ5 hf5 hq5 => ?_)
              conv => whnf
              refine ⟨rfl, ?_⟩
              first
              | (exfalso; omega)
              | exact hS _ (Or.inl ⟨g0, hv9, hk9, rfl⟩) (by repeat (first | exact hq | refine cQ_up ?_ (by unfold FPd; omega)))
              | exact hS _ (Or.inr (Or.inl ⟨g1, g2, hk9, rfl⟩)) (by repeat (first | exact hq | refine cQ_up ?_ (by unfold FPd; omega)))
              | exact hS _ (Or.inr (Or.inr (Or.inl ⟨g3, g4, rfl⟩))) (by repeat (first | exact hq | refine cQ_up ?_ (by unfold FPd; omega)))
              | exact hS _ (Or.inr (Or.inr (Or.inr (⟨g5, g6, hk9, rfl⟩)))) (by repeat (first | exact hq | refine cQ_up ?_ (by unfold FPd; omega)))
              | exact hF _ _ (fun a j z9 => by unfold FEx at z9; repeat (first | rw [hf5 a j (by unfold FFl; omega)] | rw [hf4 a j (by unfold FFl; omega)] | rw [hf3 a j (by unfold FFl; omega)] | rw [up_n (by omega)])) (by repeat (first | exact hq5 | exact hq4 | exact hq3 | refine cQ_up ?_ (by unfold FPd; omega))) (by (repeat (first | rw [hf5 _ _ (by unfold FFl; omega)] | rw [hf4 _ _ (by unfold FFl; omega)] | rw [hf3 _ _ (by unfold FFl; omega)] | rw [up_s] | rw [up_n (by omega)])); omega) (by (repeat (first | rw [hf5 _ _ (by unfold FFl; omega)] | rw [hf4 _ _ (by unfold FFl; omega)] | rw [hf3 _ _ (by unfold FFl; omega)] | rw [up_s] | rw [up_n (by omega)])); omega) (Or.inl ⟨g0, by omega, rfl⟩)
              | exact hF _ _ (fun a j z9 => by unfold FEx at z9; repeat (first | rw [hf5 a j (by unfold FFl; omega)] | rw [hf4 a j (by unfold FFl; omega)] | rw [hf3 a j (by unfold FFl; omega)] | rw [up_n (by omega)])) (by repeat (first | exact hq5 | exact hq4 | exact hq3 | refine cQ_up ?_ (by unfold FPd; omega))) (by (repeat (first | rw [hf5 _ _ (by unfold FFl; omega)] | rw [hf4 _ _ (by unfold FFl; omega)] | rw [hf3 _ _ (by unfold FFl; omega)] | rw [up_s] | rw [up_n (by omega)])); omega) (by (repeat (first | rw [hf5 _ _ (by unfold FFl; omega)] | rw [hf4 _ _ (by unfold FFl; omega)] | rw [hf3 _ _ (by unfold FFl; omega)] | rw [up_s] | rw [up_n (by omega)])); omega) (Or.inr (Or.inl ⟨g1, g2, by omega, rfl⟩))
              | exact hF _ _ (fun a j z9 => by unfold FEx at z9; repeat (first | rw [hf5 a j (by unfold FFl; omega)] | rw [hf4 a j (by unfold FFl; omega)] | rw [hf3 a j (by unfold FFl; omega)] | rw [up_n (by omega)])) (by repeat (first | exact hq5 | exact hq4 | exact hq3 | refine cQ_up ?_ (by unfold FPd; omega))) (by (repeat (first | rw [hf5 _ _ (by unfold FFl; omega)] | rw [hf4 _ _ (by unfold FFl; omega)] | rw [hf3 _ _ (by unfold FFl; omega)] | rw [up_s] | rw [up_n (by omega)])); omega) (by (repeat (first | rw [hf5 _ _ (by unfold FFl; omega)] | rw [hf4 _ _ (by unfold FFl; omega)] | rw [hf3 _ _ (by unfold FFl; omega)] | rw [up_s] | rw [up_n (by omega)])); omega) (Or.inr (Or.inr (Or.inl ⟨g3, by omega, rfl⟩)))
              | exact hF _ _ (fun a j z9 => by unfold FEx at z9; repeat (first | rw [hf5 a j (by unfold FFl; omega)] | rw [hf4 a j (by unfold FFl; omega)] | rw [hf3 a j (by unfold FFl; omega)] | rw [up_n (by omega)])) (by repeat (first | exact hq5 | exact hq4 | exact hq3 | refine cQ_up ?_ (by unfold FPd; omega))) (by (repeat (first | rw [hf5 _ _ (by unfold FFl; omega)] | rw [hf4 _ _ (by unfold FFl; omega)] | rw [hf3 _ _ (by unfold FFl; omega)] | rw [up_s] | rw [up_n (by omega)])); omega) (by (repeat (first | rw [hf5 _ _ (by unfold FFl; omega)] | rw [hf4 _ _ (by unfold FFl; omega)] | rw [hf3 _ _ (by unfold FFl; omega)] | rw [up_s] | rw [up_n (by omega)])); omega) (Or.inr (Or.inr (Or.inr (Or.inl ⟨g5, g6, by omega, rfl⟩))))
              | exact hF _ _ (fun a j z9 => by unfold FEx at z9; repeat (first | rw [hf5 a j (by unfold FFl; omega)] | rw [hf4 a j (by unfold FFl; omega)] | rw [hf3 a j (by unfold FFl; omega)] | rw [up_n (by omega)])) (by repeat (first | exact hq5 | exact hq4 | exact hq3 | refine cQ_up ?_ (by unfold FPd; omega))) (by (repeat (first | rw [hf5 _ _ (by unfold FFl; omega)] | rw [hf4 _ _ (by unfold FFl; omega)] | rw [hf3 _ _ (by unfold FFl; omega)] | rw [up_s] | rw [up_n (by omega)])); omega) (by (repeat (first | rw [hf5 _ _ (by unfold FFl; omega)] | rw [hf4 _ _ (by unfold FFl; omega)] | rw [hf3 _ _ (by unfold FFl; omega)] | rw [up_s] | rw [up_n (by omega)])); omega) (Or.inr (Or.inr (Or.inr (Or.inr (⟨g7, by omega, g8, by omega, rfl⟩)))))
            · simp only [sx_cc, Classical.not_not] at g
              have g6 : fHdr σ ≤ 3 := by omega
              skip
              conv => whnf
              refine ⟨Nat.le_of_ble_eq_true rfl, Nat.le_of_ble_eq_true rfl, (by first | assumption | rfl), ?_⟩
              refine c_Taddk (by first | exact hq3 | exact hq) (by (repeat (first | rw [hf5 _ _ (by unfold FFl; omega)] | rw [hf4 _ _ (by unfold FFl; omega)] | rw [hf3 _ _ (by unfold FFl; omega)] | rw [up_s] | rw [up_n (by omega)])); omega) (fun hk9 => ?_) (fun hk9 σ4 hf4 hq4 => ?_)
              · skip
                conv => whnf
                refine ⟨Nat.le_of_ble_eq_true rfl, Nat.le_of_ble_eq_true rfl, (by first | assumption | rfl), ?_⟩
                first
                | refine c_Thold hq4 (n := σ 32 11) (by repeat (first | rw [hf5 _ _ (by unfold FFl; omega)] | rw [hf4 _ _ (by unfold FFl; omega)] | rw [hf3 _ _ (by unfold FFl; omega)] | rw [up_s] | rw [up_n (by omega)])) (by omega) (fun hw9 => ?_) (fun hw9 => ?_)
                | refine c_Thold (cQ_up hq4 (by unfold FPd; omega)) (n := σ 32 11) (by repeat (first | rw [hf5 _ _ (by unfold FFl; omega)] | rw [hf4 _ _ (by unfold FFl; omega)] | rw [hf3 _ _ (by unfold FFl; omega)] | rw [up_s] | rw [up_n (by omega)])) (by omega) (fun hw9 => ?_) (fun hw9 => ?_)
                | refine c_Thold (cQ_up hq3 (by unfold FPd; omega)) (n := σ 32 11) (by repeat (first | rw [hf5 _ _ (by unfold FFl; omega)] | rw [hf4 _ _ (by unfold FFl; omega)] | rw [hf3 _ _ (by unfold FFl; omega)] | rw [up_s] | rw [up_n (by omega)])) (by omega) (fun hw9 => ?_) (fun hw9 => ?_)
                | refine c_Thold (cQ_up hq (by unfold FPd; omega)) (n := σ 32 11) (by repeat (first | rw [hf5 _ _ (by unfold FFl; omega)] | rw [hf4 _ _ (by unfold FFl; omega)] | rw [hf3 _ _ (by unfold FFl; omega)] | rw [up_s] | rw [up_n (by omega)])) (by omega) (fun hw9 => ?_) (fun hw9 => ?_)
                · skip
                  conv => whnf
                  refine ⟨rfl, ?_⟩
                  first
                  | (exfalso; omega)
                  | exact hS _ (Or.inl ⟨g0, hv9, hk9, rfl⟩) (by repeat (first | exact hq | refine cQ_up ?_ (by unfold FPd; omega)))
                  | exact hS _ (Or.inr (Or.inl ⟨g1, g2, hk9, rfl⟩)) (by repeat (first | exact hq | refine cQ_up ?_ (by unfold FPd; omega)))
                  | exact hS _ (Or.inr (Or.inr (Or.inl ⟨g3, g4, rfl⟩))) (by repeat (first | exact hq | refine cQ_up ?_ (by unfold FPd; omega)))
                  | exact hS _ (Or.inr (Or.inr (Or.inr (⟨g5, g6, hk9, rfl⟩)))) (by repeat (first | exact hq | refine cQ_up ?_ (by unfold FPd; omega)))
                  | exact hF _ _ (fun a j z9 => by unfold FEx at z9; repeat (first | rw [hf5 a j (by unfold FFl; omega)] | rw [hf4 a j (by unfold FFl; omega)] | rw [hf3 a j (by unfold FFl; omega)] | rw [up_n (by omega)])) (by repeat (first | exact hq5 | exact hq4 | exact hq3 | refine cQ_up ?_ (by unfold FPd; omega))) (by (repeat (first | rw [hf5 _ _ (by unfold FFl; omega)] | rw [hf4 _ _ (by unfold FFl; omega)] | rw [hf3 _ _ (by unfold FFl; omega)] | rw [up_s] | rw [up_n (by omega)])); omega) (by (repeat (first | rw [hf5 _ _ (by unfold FFl; omega)] | rw [hf4 _ _ (by unfold FFl; omega)] | rw [hf3 _ _ (by unfold FFl; omega)] | rw [up_s] | rw [up_n (by omega)])); omega) (Or.inl ⟨g0, by omega, rfl⟩)
                  | exact hF _ _ (fun a j z9 => by unfold FEx at z9; repeat (first | rw [hf5 a j (by unfold FFl; omega)] | rw [hf4 a j (by unfold FFl; omega)] | rw [hf3 a j (by unfold FFl; omega)] | rw [up_n (by omega)])) (by repeat (first | exact hq5 | exact hq4 | exact hq3 | refine cQ_up ?_ (by unfold FPd; omega))) (by (repeat (first | rw [hf5 _ _ (by unfold FFl; omega)] | rw [hf4 _ _ (by unfold FFl; omega)] | rw [hf3 _ _ (by unfold FFl; omega)] | rw [up_s] | rw [up_n (by omega)])); omega) (by (repeat (first | rw [hf5 _ _ (by unfold FFl; omega)] | rw [hf4 _ _ (by unfold FFl; omega)] | rw [hf3 _ _ (by unfold FFl; omega)] | rw [up_s] | rw [up_n (by omega)])); omega) (Or.inr (Or.inl ⟨g1, g2, by omega, rfl⟩))
                  | exact hF _ _ (fun a j z9 => by unfold FEx at z9; repeat (first | rw [hf5 a j (by unfold FFl; omega)] | rw [hf4 a j (by unfold FFl; omega)] | rw [hf3 a j (by unfold FFl; omega)] | rw [up_n (by omega)])) (by repeat (first | exact hq5 | exact hq4 | exact hq3 | refine cQ_up ?_ (by unfold FPd; omega))) (by (repeat (first | rw [hf5 _ _ (by unfold FFl; omega)] | rw [hf4 _ _ (by unfold FFl; omega)] | rw [hf3 _ _ (by unfold FFl; omega)] | rw [up_s] | rw [up_n (by omega)])); omega) (by (repeat (first | rw [hf5 _ _ (by unfold FFl; omega)] | rw [hf4 _ _ (by unfold FFl; omega)] | rw [hf3 _ _ (by unfold FFl; omega)] | rw [up_s] | rw [up_n (by omega)])); omega) (Or.inr (Or.inr (Or.inl ⟨g3, by omega, rfl⟩)))
                  | exact hF _ _ (fun a j z9 => by unfold FEx at z9; repeat (first | rw [hf5 a j (by unfold FFl; omega)] | rw [hf4 a j (by unfold FFl; omega)] | rw [hf3 a j (by unfold FFl; omega)] | rw [up_n (by omega)])) (by repeat (first | exact hq5 | exact hq4 | exact hq3 | refine cQ_up ?_ (by unfold FPd; omega))) (by (repeat (first | rw [hf5 _ _ (by unfold FFl; omega)] | rw [hf4 _ _ (by unfold FFl; omega)] | rw [hf3 _ _ (by unfold FFl; omega)] | rw [up_s] | rw [up_n (by omega)])); omega) (by (repeat (first | rw [hf5 _ _ (by unfold FFl; omega)] | rw [hf4 _ _ (by unfold FFl; omega)] | rw [hf3 _ _ (by unfold FFl; omega)] | rw [up_s] | rw [up_n (by omega)])); omega) (Or.inr (Or.inr (Or.inr (Or.inl ⟨g5, g6, by omega, rfl⟩))))
                  | exact hF _ _ (fun a j z9 => by unfold FEx at z9; repeat (first | rw [hf5 a j (by unfold FFl; omega)] | rw [hf4 a j (by unfold FFl; omega)] | rw [hf3 a j (by unfold FFl; omega)] | rw [up_n (by omega)])) (by repeat (first | exact hq5 | exact hq4 | exact hq3 | refine cQ_up ?_ (by unfold FPd; omega))) (by (repeat (first | rw [hf5 _ _ (by unfold FFl; omega)] | rw [hf4 _ _ (by unfold FFl; omega)] | rw [hf3 _ _ (by unfold FFl; omega)] | rw [up_s] | rw [up_n (by omega)])); omega) (by (repeat (first | rw [hf5 _ _ (by unfold FFl; omega)] | rw [hf4 _ _ (by unfold FFl; omega)] | rw [hf3 _ _ (by unfold FFl; omega)] | rw [up_s] | rw [up_n (by omega)])); omega) (Or.inr (Or.inr (Or.inr (Or.inr (⟨g7, by omega, g8, by omega, rfl⟩)))))
                · skip
                  conv => whnf
                  refine ⟨rfl, ?_⟩
                  first
                  | (exfalso; omega)
                  | exact hS _ (Or.inl ⟨g0, hv9, hk9, rfl⟩) (by repeat (first | exact hq | refine cQ_up ?_ (by unfold FPd; omega)))
                  | exact hS _ (Or.inr (Or.inl ⟨g1, g2, hk9, rfl⟩)) (by repeat (first | exact hq | refine cQ_up ?_ (by unfold FPd; omega)))
                  | exact hS _ (Or.inr (Or.inr (Or.inl ⟨g3, g4, rfl⟩))) (by repeat (first | exact hq | refine cQ_up ?_ (by unfold FPd; omega)))
                  | exact hS _ (Or.inr (Or.inr (Or.inr (⟨g5, g6, hk9, rfl⟩)))) (by repeat (first | exact hq | refine cQ_up ?_ (by unfold FPd; omega)))
                  | exact hF _ _ (fun a j z9 => by unfold FEx at z9; repeat (first | rw [hf5 a j (by unfold FFl; omega)] | rw [hf4 a j (by unfold FFl; omega)] | rw [hf3 a j (by unfold FFl; omega)] | rw [up_n (by omega)])) (by repeat (first | exact hq5 | exact hq4 | exact hq3 | refine cQ_up ?_ (by unfold FPd; omega))) (by (repeat (first | rw [hf5 _ _ (by unfold FFl; omega)] | rw [hf4 _ _ (by unfold FFl; omega)] | rw [hf3 _ _ (by unfold FFl; omega)] | rw [up_s] | rw [up_n (by omega)])); omega) (by (repeat (first | rw [hf5 _ _ (by unfold FFl; omega)] | rw [hf4 _ _ (by unfold FFl; omega)] | rw [hf3 _ _ (by unfold FFl; omega)] | rw [up_s] | rw [up_n (by omega)])); omega) (Or.inl ⟨g0, by omega, rfl⟩)
                  | exact hF _ _ (fun a j z9 => by unfold FEx at z9; repeat (first | rw [hf5 a j (by unfold FFl; omega)] | rw [hf4 a j (by unfold FFl; omega)] | rw [hf3 a j (by unfold FFl; omega)] | rw [up_n (by omega)])) (by repeat (first | exact hq5 | exact hq4 | exact hq3 | refine cQ_up ?_ (by unfold FPd; omega))) (by (repeat (first | rw [hf5 _ _ (by unfold FFl; omega)] | rw [hf4 _ _ (by unfold FFl; omega)] | rw [hf3 _ _ (by unfold FFl; omega)] | rw [up_s] | rw [up_n (by omega)])); omega) (by (repeat (first | rw [hf5 _ _ (by unfold FFl; omega)] | rw [hf4 _ _ (by unfold FFl; omega)] | rw [hf3 _ _ (by unfold FFl; omega)] | rw [up_s] | rw [up_n (by omega)])); omega) (Or.inr (Or.inl ⟨g1, g2, by omega, rfl⟩))
                  | exact hF _ _ (fun a j z9 => by unfold FEx at z9; repeat (first | rw [hf5 a j (by unfold FFl; omega)] | rw [hf4 a j (by unfold FFl; omega)] | rw [hf3 a j (by unfold FFl; omega)] | rw [up_n (by omega)])) (by repeat (first | exact hq5 | exact hq4 | exact hq3 | refine cQ_up ?_ (by unfold FPd; omega))) (by (repeat (first | rw [hf5 _ _ (by unfold FFl; omega)] | rw [hf4 _ _ (by unfold FFl; omega)] | rw [hf3 _ _ (by unfold FFl; omega)] | rw [up_s] | rw [up_n (by omega)])); omega) (by (repeat (first | rw [hf5 _ _ (by unfold FFl; omega)] | rw [hf4 _ _ (by unfold FFl; omega)] | rw [hf3 _ _ (by unfold FFl; omega)] | rw [up_s] | rw [up_n (by omega)])); omega) (Or.inr (Or.inr (Or.inl ⟨g3, by omega, rfl⟩)))
                  | exact hF _ _ (fun a j z9 => by unfold FEx at z9; repeat (first | rw [hf5 a j (by unfold FFl; omega)] | rw [hf4 a j (by unfold FFl; omega)] | rw [hf3 a j (by unfold FFl; omega)] | rw [up_n (by omega)])) (by repeat (first | exact hq5 | exact hq4 | exact hq3 | refine cQ_up ?_ (by unfold FPd; omega))) (by (repeat (first | rw [hf5 _ _ (by unfold FFl; omega)] | rw [hf4 _ _ (by unfold FFl; omega)] | rw [hf3 _ _ (by unfold FFl; omega)] | rw [up_s] | rw [up_n (by omega)])); omega) (by (repeat (first | rw [hf5 _ _ (by unfold FFl; omega)] | rw [hf4 _ _ (by unfold FFl; omega)] | rw [hf3 _ _ (by unfold FFl; omega)] | rw [up_s] | rw [up_n (by omega)])); omega) (Or.inr (Or.inr (Or.inr (Or.inl ⟨g5, g6, by omega, rfl⟩))))
                  | exact hF _ _ (fun a j z9 => by unfold FEx at z9; repeat (first | rw [hf5 a j (by unfold FFl; omega)] | rw [hf4 a j (by unfold FFl; omega)] | rw [hf3 a j (by unfold FFl; omega)] | rw [up_n (by omega)])) (by repeat (first | exact hq5 | exact hq4 | exact hq3 | refine cQ_up ?_ (by unfold FPd; omega))) (by (repeat (first | rw [hf5 _ _ (by unfold FFl; omega)] | rw [hf4 _ _ (by unfold FFl; omega)] | rw [hf3 _ _ (by unfold FFl; omega)] | rw [up_s] | rw [up_n (by omega)])); omega) (by (repeat (first | rw [hf5 _ _ (by unfold FFl; omega)] | rw [hf4 _ _ (by unfold FFl; omega)] | rw [hf3 _ _ (by unfold FFl; omega)] | rw [up_s] | rw [up_n (by omega)])); omega) (Or.inr (Or.inr (Or.inr (Or.inr (⟨g7, by omega, g8, by omega, rfl⟩)))))
              · skip
                conv => whnf
                refine ⟨Nat.le_of_ble_eq_true rfl, Nat.le_of_ble_eq_true rfl, (by first | assumption | rfl), ?_⟩
                first
                | refine c_Thold hq4 (n := σ 32 11) (by repeat (first | rw [hf5 _ _ (by unfold FFl; omega)] | rw [hf4 _ _ (by unfold FFl; omega)] | rw [hf3 _ _ (by unfold FFl; omega)] | rw [up_s] | rw [up_n (by omega)])) (by omega) (fun hw9 => ?_) (fun hw9 => ?_)
                | refine c_Thold (cQ_up hq4 (by unfold FPd; omega)) (n := σ 32 11) (by repeat (first | rw [hf5 _ _ (by unfold FFl; omega)] | rw [hf4 _ _ (by unfold FFl; omega)] | rw [hf3 _ _ (by unfold FFl; omega)] | rw [up_s] | rw [up_n (by omega)])) (by omega) (fun hw9 => ?_) (fun hw9 => ?_)
                | refine c_Thold (cQ_up hq3 (by unfold FPd; omega)) (n := σ 32 11) (by repeat (first | rw [hf5 _ _ (by unfold FFl; omega)] | rw [hf4 _ _ (by unfold FFl; omega)] | rw [hf3 _ _ (by unfold FFl; omega)] | rw [up_s] | rw [up_n (by omega)])) (by omega) (fun hw9 => ?_) (fun hw9 => ?_)
                | refine c_Thold (cQ_up hq (by unfold FPd; omega)) (n := σ 32 11) (by repeat (first | rw [hf5 _ _ (by unfold FFl; omega)] | rw [hf4 _ _ (by unfold FFl; omega)] | rw [hf3 _ _ (by unfold FFl; omega)] | rw [up_s] | rw [up_n (by omega)])) (by omega) (fun hw9 => ?_) (fun hw9 => ?_)
                · skip
                  conv => whnf
                  refine ⟨rfl, ?_⟩
                  first
                  | (exfalso; omega)
                  | exact hS _ (Or.inl ⟨g0, hv9, hk9, rfl⟩) (by repeat (first | exact hq | refine cQ_up ?_ (by unfold FPd; omega)))
                  | exact hS _ (Or.inr (Or.inl ⟨g1, g2, hk9, rfl⟩)) (by repeat (first | exact hq | refine cQ_up ?_ (by unfold FPd; omega)))
                  | exact hS _ (Or.inr (Or.inr (Or.inl ⟨g3, g4, rfl⟩))) (by repeat (first | exact hq | refine cQ_up ?_ (by unfold FPd; omega)))
                  | exact hS _ (Or.inr (Or.inr (Or.inr (⟨g5, g6, hk9, rfl⟩)))) (by repeat (first | exact hq | refine cQ_up ?_ (by unfold FPd; omega)))
                  | exact hF _ _ (fun a j z9 => by unfold FEx at z9; repeat (first | rw [hf5 a j (by unfold FFl; omega)] | rw [hf4 a j (by unfold FFl; omega)] | rw [hf3 a j (by unfold FFl; omega)] | rw [up_n (by omega)])) (by repeat (first | exact hq5 | exact hq4 | exact hq3 | refine cQ_up ?_ (by unfold FPd; omega))) (by (repeat (first | rw [hf5 _ _ (by unfold FFl; omega)] | rw [hf4 _ _ (by unfold FFl; omega)] | rw [hf3 _ _ (by unfold FFl; omega)] | rw [up_s] | rw [up_n (by omega)])); omega) (by (repeat (first | rw [hf5 _ _ (by unfold FFl; omega)] | rw [hf4 _ _ (by unfold FFl; omega)] | rw [hf3 _ _ (by unfold FFl; omega)] | rw [up_s] | rw [up_n (by omega)])); omega) (Or.inl ⟨g0, by omega, rfl⟩)
                  | exact hF _ _ (fun a j z9 => by unfold FEx at z9; repeat (first | rw [hf5 a j (by unfold FFl; omega)] | rw [hf4 a j (by unfold FFl; omega)] | rw [hf3 a j (by unfold FFl; omega)] | rw [up_n (by omega)])) (by repeat (first | exact hq5 | exact hq4 | exact hq3 | refine cQ_up ?_ (by unfold FPd; omega))) (by (repeat (first | rw [hf5 _ _ (by unfold FFl; omega)] | rw [hf4 _ _ (by unfold FFl; omega)] | rw [hf3 _ _ (by unfold FFl; omega)] | rw [up_s] | rw [up_n (by omega)])); omega) (by (repeat (first | rw [hf5 _ _ (by unfold FFl; omega)] | rw [hf4 _ _ (by unfold FFl; omega)] | rw [hf3 _ _ (by unfold FFl; omega)] | rw [up_s] | rw [up_n (by omega)])); omega) (Or.inr (Or.inl ⟨g1, g2, by omega, rfl⟩))
                  | exact hF _ _ (fun a j z9 => by unfold FEx at z9; repeat (first | rw [hf5 a j (by unfold FFl; omega)] | rw [hf4 a j (by unfold FFl; omega)] | rw [hf3 a j (by unfold FFl; omega)] | rw [up_n (by omega)])) (by repeat (first | exact hq5 | exact hq4 | exact hq3 | refine cQ_up ?_ (by unfold FPd; omega))) (by (repeat (first | rw [hf5 _ _ (by unfold FFl; omega)] | rw [hf4 _ _ (by unfold FFl; omega)] | rw [hf3 _ _ (by unfold FFl; omega)] | rw [up_s] | rw [up_n (by omega)])); omega) (by (repeat (first | rw [hf5 _ _ (by unfold FFl; omega)] | rw [hf4 _ _ (by unfold FFl; omega)] | rw [hf3 _ _ (by unfold FFl; omega)] | rw [up_s] | rw [up_n (by omega)])); omega) (Or.inr (Or.inr (Or.inl ⟨g3, by omega, rfl⟩)))
                  | exact hF _ _ (fun a j z9 => by unfold FEx at z9; repeat (first | rw [hf5 a j (by unfold FFl; omega)] | rw [hf4 a j (by unfold FFl; omega)] | rw [hf3 a j (by unfold FFl; omega)] | rw [up_n (by omega)])) (by repeat (first | exact hq5 | exact hq4 | exact hq3 | refine cQ_up ?_ (by unfold FPd; omega))) (by (repeat (first | rw [hf5 _ _ (by unfold FFl; omega)] | rw [hf4 _ _ (by unfold FFl; omega)] | rw [hf3 _ _ (by unfold FFl; omega)] | rw [up_s] | rw [up_n (by omega)])); omega) (by (repeat (first | rw [hf5 _ _ (by unfold FFl; omega)] | rw [hf4 _ _ (by unfold FFl; omega)] | rw [hf3 _ _ (by unfold FFl; omega)] | rw [up_s] | rw [up_n (by omega)])); omega) (Or.inr (Or.inr (Or.inr (Or.inl ⟨g5, g6, by omega, rfl⟩))))
                  | exact hF _ _ (fun a j z9 => by unfold FEx at z9; repeat (first | rw [hf5 a j (by unfold FFl; omega)] | rw [hf4 a j (by unfold FFl; omega)] | rw [hf3 a j (by unfold FFl; omega)] | rw [up_n (by omega)])) (by repeat (first | exact hq5 | exact hq4 | exact hq3 | refine cQ_up ?_ (by unfold FPd; omega))) (by (repeat (first | rw [hf5 _ _ (by unfold FFl; omega)] | rw [hf4 _ _ (by unfold FFl; omega)] | rw [hf3 _ _ (by unfold FFl; omega)] | rw [up_s] | rw [up_n (by omega)])); omega) (by (repeat (first | rw [hf5 _ _ (by unfold FFl; omega)] | rw [hf4 _ _ (by unfold FFl; omega)] | rw [hf3 _ _ (by unfold FFl; omega)] | rw [up_s] | rw [up_n (by omega)])); omega) (Or.inr (Or.inr (Or.inr (Or.inr (⟨g7, by omega, g8, by omega, rfl⟩)))))
                · skip
                  conv => whnf
                  refine ⟨rfl, ?_⟩
                  first
                  | (exfalso; omega)
                  | exact hS _ (Or.inl ⟨g0, hv9, hk9, rfl⟩) (by repeat (first | exact hq | refine cQ_up ?_ (by unfold FPd; omega)))
                  | exact hS _ (Or.inr (Or.inl ⟨g1, g2, hk9, rfl⟩)) (by repeat (first | exact hq | refine cQ_up ?_ (by unfold FPd; omega)))
                  | exact hS _ (Or.inr (Or.inr (Or.inl ⟨g3, g4, rfl⟩))) (by repeat (first | exact hq | refine cQ_up ?_ (by unfold FPd; omega)))
                  | exact hS _ (Or.inr (Or.inr (Or.inr (⟨g5, g6, hk9, rfl⟩)))) (by repeat (first | exact hq | refine cQ_up ?_ (by unfold FPd; omega)))
                  | exact hF _ _ (fun a j z9 => by unfold FEx at z9; repeat (first | rw [hf5 a j (by unfold FFl; omega)] | rw [hf4 a j (by unfold FFl; omega)] | rw [hf3 a j (by unfold FFl; omega)] | rw [up_n (by omega)])) (by repeat (first | exact hq5 | exact hq4 | exact hq3 | refine cQ_up ?_ (by unfold FPd; omega))) (by (repeat (first | rw [hf5 _ _ (by unfold FFl; omega)] | rw [hf4 _ _ (by unfold FFl; omega)] | rw [hf3 _ _ (by unfold FFl; omega)] | rw [up_s] | rw [up_n (by omega)])); omega) (by (repeat (first | rw [hf5 _ _ (by unfold FFl; omega)] | rw [hf4 _ _ (by unfold FFl; omega)] | rw [hf3 _ _ (by unfold FFl; omega)] | rw [up_s] | rw [up_n (by omega)])); omega) (Or.inl ⟨g0, by omega, rfl⟩)
                  | exact hF _ _ (fun a j z9 => by unfold FEx at z9; repeat (first | rw [hf5 a j (by unfold FFl; omega)] | rw [hf4 a j (by unfold FFl; omega)] | rw [hf3 a j (by unfold FFl; omega)] | rw [up_n (by omega)])) (by repeat (first | exact hq5 | exact hq4 | exact hq3 | refine cQ_up ?_ (by unfold FPd; omega))) (by (repeat (first | rw [hf5 _ _ (by unfold FFl; omega)] | rw [hf4 _ _ (by unfold FFl; omega)] | rw [hf3 _ _ (by unfold FFl; omega)] | rw [up_s] | rw [up_n (by omega)])); omega) (by (repeat (first | rw [hf5 _ _ (by unfold FFl; omega)] | rw [hf4 _ _ (by unfold FFl; omega)] | rw [hf3 _ _ (by unfold FFl; omega)] | rw [up_s] | rw [up_n (by omega)])); omega) (Or.inr (Or.inl ⟨g1, g2, by omega, rfl⟩))
                  | exact hF _ _ (fun a j z9 => by unfold FEx at z9; repeat (first | rw [hf5 a j (by unfold FFl; omega)] | rw [hf4 a j (by unfold FFl; omega)] | rw [hf3 a j (by unfold FFl; omega)] | rw [up_n (by omega)])) (by repeat (first | exact hq5 | exact hq4 | exact hq3 | refine cQ_up ?_ (by unfold FPd; omega))) (by (repeat (first | rw [hf5 _ _ (by unfold FFl; omega)] | rw [hf4 _ _ (by unfold FFl; omega)] | rw [hf3 _ _ (by unfold FFl; omega)] | rw [up_s] | rw [up_n (by omega)])); omega) (by (repeat (first | rw [hf5 _ _ (by unfold FFl; omega)] | rw [hf4 _ _ (by unfold FFl; omega)] | rw [hf3 _ _ (by unfold FFl; omega)] | rw [up_s] | rw [up_n (by omega)])); omega) (Or.inr (Or.inr (Or.inl ⟨g3, by omega, rfl⟩)))
                  | exact hF _ _ (fun a j z9 => by unfold FEx at z9; repeat (first | rw [hf5 a j (by unfold FFl; omega)] | rw [hf4 a j (by unfold FFl; omega)] | rw [hf3 a j (by unfold FFl; omega)] | rw [up_n (by omega)])) (by repeat (first | exact hq5 | exact hq4 | exact hq3 | refine cQ_up ?_ (by unfold FPd; omega))) (by (repeat (first | rw [hf5 _ _ (by unfold FFl; omega)] | rw [hf4 _ _ (by unfold FFl; omega)] | rw [hf3 _ _ (by unfold FFl; omega)] | rw [up_s] | rw [up_n (by omega)])); omega) (by (repeat (first | rw [hf5 _ _ (by unfold FFl; omega)] | rw [hf4 _ _ (by unfold FFl; omega)] | rw [hf3 _ _ (by unfold FFl; omega)] | rw [up_s] | rw [up_n (by omega)])); omega) (Or.inr (Or.inr (Or.inr (Or.inl ⟨g5, g6, by omega, rfl⟩))))
                  | exact hF _ _ (fun a j z9 => by unfold FEx at z9; repeat (first | rw [hf5 a j (by unfold FFl; omega)] | rw [hf4 a j (by unfold FFl; omega)] | rw [hf3 a j (by unfold FFl; omega)] | rw [up_n (by omega)])) (by repeat (first | exact hq5 | exact hq4 | exact hq3 | refine cQ_up ?_ (by unfold FPd; omega))) (by (repeat (first | rw [hf5 _ _ (by unfold FFl; omega)] | rw [hf4 _ _ (by unfold FFl; omega)] | rw [hf3 _ _ (by unfold FFl; omega)] | rw [up_s] | rw [up_n (by omega)])); omega) (by (repeat (first | rw [hf5 _ _ (by unfold FFl; omega)] | rw [hf4 _ _ (by unfold FFl; omega)] | rw [hf3 _ _ (by unfold FFl; omega)] | rw [up_s] | rw [up_n (by omega)])); omega) (Or.inr (Or.inr (Or.inr (Or.inr (⟨g7, by omega, g8, by omega, rfl⟩)))))
        · simp only [sx_cc, Classical.not_not] at g
          have g3 := g
          conv => whnf
          refine ⟨(by first | assumption | rfl), ?_⟩
          try simp (disch := omega) only [Int.cast_ofNat_Int, up_s, up_a, up_i, mp_a, mp_ge]
          try simp only [t3]
          try simp only [t4]
          try simp only [e3]
          try simp only [e12]
          conv => whnf
          refine ⟨fun g => ?_, fun g => ?_⟩
          · simp only [sx_cc, Classical.not_not] at g
            have g4 : σ 32 12 < 8 := by omega
            skip
            conv => whnf
            refine ⟨(by first | assumption | rfl), ?_⟩
            try simp (disch := omega) only [Int.cast_ofNat_Int, up_s, up_a, up_i, mp_a, mp_ge]
            try simp only [t3]
            try simp only [t4]
            try simp only [e3]
            try simp only [e12]
            conv => whnf
            refine ⟨⟨by omega, by omega⟩, ?_⟩
            conv => whnf
            refine ⟨(by first | assumption | rfl), ?_⟩
            try simp (disch := omega) only [Int.cast_ofNat_Int, up_s, up_a, up_i, mp_a, mp_ge]
            try simp only [t3]
            try simp only [t4]
            try simp only [e3]
            try simp only [e12]
            conv => whnf
            refine ⟨Nat.le_of_ble_eq_true rfl, Nat.le_of_ble_eq_true rfl, (by first | assumption | rfl), ?_⟩
            first
            | refine c_Thold hq4 (n := σ 32 11) (by repeat (first | rw [hf5 _ _ (by unfold FFl; omega)] | rw [hf4 _ _ (by unfold FFl; omega)] | rw [hf3 _ _ (by unfold FFl; omega)] | rw [up_s] | rw [up_n (by omega)])) (by omega) (fun hw9 => ?_) (fun hw9 => ?_)
            | refine c_Thold (cQ_up hq4 (by unfold FPd; omega)) (n := σ 32 11) (by repeat (first | rw [hf5 _ _ (by unfold FFl; omega)] | rw [hf4 _ _ (by unfold FFl; omega)] | rw [hf3 _ _ (by unfold FFl; omega)] | rw [up_s] | rw [up_n (by omega)])) (by omega) (fun hw9 => ?_) (fun hw9 => ?_)
            | refine c_Thold (cQ_up hq3 (by unfold FPd; omega)) (n := σ 32 11) (by repeat (first | rw [hf5 _ _ (by unfold FFl; omega)] | rw [hf4 _ _ (by unfold FFl; omega)] | rw [hf3 _ _ (by unfold FFl; omega)] | rw [up_s] | rw [up_n (by omega)])) (by omega) (fun hw9 => ?_) (fun hw9 => ?_)
            | refine c_Thold (cQ_up hq (by unfold FPd; omega)) (n := σ 32 11) (by repeat (first | rw [hf5 _ _ (by unfold FFl; omega)] | rw [hf4 _ _ (by unfold FFl; omega)] | rw [hf3 _ _ (by unfold FFl; omega)] | rw [up_s] | rw [up_n (by omega)])) (by omega) (fun hw9 => ?_) (fun hw9 => ?_)
            · skip
              conv => whnf
              refine ⟨rfl, ?_⟩
              first
              | (exfalso; omega)
              | exact hS _ (Or.inl ⟨g0, hv9, hk9, rfl⟩) (by repeat (first | exact hq | refine cQ_up ?_ (by unfold FPd; omega)))
              | exact hS _ (Or.inr (Or.inl ⟨g1, g2, hk9, rfl⟩)) (by repeat (first | exact hq | refine cQ_up ?_ (by unfold FPd; omega)))
              | exact hS _ (Or.inr (Or.inr (Or.inl ⟨g3, g4, rfl⟩))) (by repeat (first | exact hq | refine cQ_up ?_ (by unfold FPd; omega)))
              | exact hS _ (Or.inr (Or.inr (Or.inr (⟨g5, g6, hk9, rfl⟩)))) (by repeat (first | exact hq | refine cQ_up ?_ (by unfold FPd; omega)))
              | exact hF _ _ (fun a j z9 => by unfold FEx at z9; repeat (first | rw [hf5 a j (by unfold FFl; omega)] | rw [hf4 a j (by unfold FFl; omega)] | rw [hf3 a j (by unfold FFl; omega)] | rw [up_n (by omega)])) (by repeat (first | exact hq5 | exact hq4 | exact hq3 | refine cQ_up ?_ (by unfold FPd; omega))) (by (repeat (first | rw [hf5 _ _ (by unfold FFl; omega)] | rw [hf4 _ _ (by unfold FFl; omega)] | rw [hf3 _ _ (by unfold FFl; omega)] | rw [up_s] | rw [up_n (by omega)])); omega) (by (repeat (first | rw [hf5 _ _ (by unfold FFl; omega)] | rw [hf4 _ _ (by unfold FFl; omega)] | rw [hf3 _ _ (by unfold FFl; omega)] | rw [up_s] | rw [up_n (by omega)])); omega) (Or.inl ⟨g0, by omega, rfl⟩)
              | exact hF _ _ (fun a j z9 => by unfold FEx at z9; repeat (first | rw [hf5 a j (by unfold FFl; omega)] | rw [hf4 a j (by unfold FFl; omega)] | rw [hf3 a j (by unfold FFl; omega)] | rw [up_n (by omega)])) (by repeat (first | exact hq5 | exact hq4 | exact hq3 | refine cQ_up ?_ (by unfold FPd; omega))) (by (repeat (first | rw [hf5 _ _ (by unfold FFl; omega)] | rw [hf4 _ _ (by unfold FFl; omega)] | rw [hf3 _ _ (by unfold FFl; omega)] | rw [up_s] | rw [up_n (by omega)])); omega) (by (repeat (first | rw [hf5 _ _ (by unfold FFl; omega)] | rw [hf4 _ _ (by unfold FFl; omega)] | rw [hf3 _ _ (by unfold FFl; omega)] | rw [up_s] | rw [up_n (by omega)])); omega) (Or.inr (Or.inl ⟨g1, g2, by omega, rfl⟩))
              | exact hF _ _ (fun a j z9 => by unfold FEx at z9; repeat (first | rw [hf5 a j (by unfold FFl; omega)] | rw [hf4 a j (by unfold FFl; omega)] | rw [hf3 a j (by unfold FFl; omega)] | rw [up_n (by omega)])) (by repeat (first | exact hq5 | exact hq4 | exact hq3 | refine cQ_up ?_ (by unfold FPd; omega))) (by (repeat (first | rw [hf5 _ _ (by unfold FFl; omega)] | rw [hf4 _ _ (by unfold FFl; omega)] | rw [hf3 _ _ (by unfold FFl; omega)] | rw [up_s] | rw [up_n (by omega)])); omega) (by (repeat (first | rw [hf5 _ _ (by unfold FFl; omega)] | rw [hf4 _ _ (by unfold FFl; omega)] | rw [hf3 _ _ (by unfold FFl; omega)] | rw [up_s] | rw [up_n (by omega)])); omega) (Or.inr (Or.inr (Or.inl ⟨g3, by omega, rfl⟩)))
              | exact hF _ _ (fun a j z9 => by unfold FEx at z9; repeat (first | rw [hf5 a j (by unfold FFl; omega)] | rw [hf4 a j (by unfold FFl; omega)] | rw [hf3 a j (by unfold FFl; omega)] | rw [up_n (by omega)])) (by repeat (first | exact hq5 | exact hq4 | exact hq3 | refine cQ_up ?_ (by unfold FPd; omega))) (by (repeat (first | rw [hf5 _ _ (by unfold FFl; omega)] | rw [hf4 _ _ (by unfold FFl; omega)] | rw [hf3 _ _ (by unfold FFl; omega)] | rw [up_s] | rw [up_n (by omega)])); omega) (by (repeat (first | rw [hf5 _ _ (by unfold FFl; omega)] | rw [hf4 _ _ (by unfold FFl; omega)] | rw [hf3 _ _ (by unfold FFl; omega)] | rw [up_s] | rw [up_n (by omega)])); omega) (Or.inr (Or.inr (Or.inr (Or.inl ⟨g5, g6, by omega, rfl⟩))))
              | exact hF _ _ (fun a j z9 => by unfold FEx at z9; repeat (first | rw [hf5 a j (by unfold FFl; omega)] | rw [hf4 a j (by unfold FFl; omega)] | rw [hf3 a j (by unfold FFl; omega)] | rw [up_n (by omega)])) (by repeat (first | exact hq5 | exact hq4 | exact hq3 | refine cQ_up ?_ (by unfold FPd; omega))) (by (repeat (first | rw [hf5 _ _ (by unfold FFl; omega)] | rw [hf4 _ _ (by unfold FFl; omega)] | rw [hf3 _ _ (by unfold FFl; omega)] | rw [up_s] | rw [up_n (by omega)])); omega) (by (repeat (first | rw [hf5 _ _ (by unfold FFl; omega)] | rw [hf4 _ _ (by unfold FFl; omega)] | rw [hf3 _ _ (by unfold FFl; omega)] | rw [up_s] | rw [up_n (by omega)])); omega) (Or.inr (Or.inr (Or.inr (Or.inr (⟨g7, by omega, g8, by omega, rfl⟩)))))
            · skip
              conv => whnf
              refine ⟨rfl, ?_⟩
              first
              | (exfalso; omega)
              | exact hS _ (Or.inl ⟨g0, hv9, hk9, rfl⟩) (by repeat (first | exact hq | refine cQ_up ?_ (by unfold FPd; omega)))
              | exact hS _ (Or.inr (Or.inl ⟨g1, g2, hk9, rfl⟩)) (by repeat (first | exact hq | refine cQ_up ?_ (by unfold FPd; omega)))
              | exact hS _ (Or.inr (Or.inr (Or.inl ⟨g3, g4, rfl⟩))) (by repeat (first | exact hq | refine cQ_up ?_ (by unfold FPd; omega)))
              | exact hS _ (Or.inr (Or.inr (Or.inr (⟨g5, g6, hk9, rfl⟩)))) (by repeat (first | exact hq | refine cQ_up ?_ (by unfold FPd; omega)))
              | exact hF _ _ (fun a j z9 => by unfold FEx at z9; repeat (first | rw [hf5 a j (by unfold FFl; omega)] | rw [hf4 a j (by unfold FFl; omega)] | rw [hf3 a j (by unfold FFl; omega)] | rw [up_n (by omega)])) (by repeat (first | exact hq5 | exact hq4 | exact hq3 | refine cQ_up ?_ (by unfold FPd; omega))) (by (repeat (first | rw [hf5 _ _ (by unfold FFl; omega)] | rw [hf4 _ _ (by unfold FFl; omega)] | rw [hf3 _ _ (by unfold FFl; omega)] | rw [up_s] | rw [up_n (by omega)])); omega) (by (repeat (first | rw [hf5 _ _ (by unfold FFl; omega)] | rw [hf4 _ _ (by unfold FFl; omega)] | rw [hf3 _ _ (by unfold FFl; omega)] | rw [up_s] | rw [up_n (by omega)])); omega) (Or.inl ⟨g0, by omega, rfl⟩)
              | exact hF _ _ (fun a j z9 => by unfold FEx at z9; repeat (first | rw [hf5 a j (by unfold FFl; omega)] | rw [hf4 a j (by unfold FFl; omega)] | rw [hf3 a j (by unfold FFl; omega)] | rw [up_n (by omega)])) (by repeat (first | exact hq5 | exact hq4 | exact hq3 | refine cQ_up ?_ (by unfold FPd; omega))) (by (repeat (first | rw [hf5 _ _ (by unfold FFl; omega)] | rw [hf4 _ _ (by unfold FFl; omega)] | rw [hf3 _ _ (by unfold FFl; omega)] | rw [up_s] | rw [up_n (by omega)])); omega) (by (repeat (first | rw [hf5 _ _ (by unfold FFl; omega)] | rw [hf4 _ _ (by unfold FFl; omega)] | rw [hf3 _ _ (by unfold FFl; omega)] | rw [up_s] | rw [up_n (by omega)])); omega) (Or.inr (Or.inl ⟨g1, g2, by omega, rfl⟩))
              | exact hF _ _ (fun a j z9 => by unfold FEx at z9; repeat (first | rw [hf5 a j (by unfold FFl; omega)] | rw [hf4 a j (by unfold FFl; omega)] | rw [hf3 a j (by unfold FFl; omega)] | rw [up_n (by omega)])) (by repeat (first | exact hq5 | exact hq4 | exact hq3 | refine cQ_up ?_ (by unfold FPd; omega))) (by (repeat (first | rw [hf5 _ _ (by unfold FFl; omega)] | rw [hf4 _ _ (by unfold FFl; omega)] | rw [hf3 _ _ (by unfold FFl; omega)] | rw [up_s] | rw [up_n (by omega)])); omega) (by (repeat (first | rw [hf5 _ _ (by unfold FFl; omega)] | rw [hf4 _ _ (by unfold FFl; omega)] | rw [hf3 _ _ (by unfold FFl; omega)] | rw [up_s] | rw [up_n (by omega)])); omega) (Or.inr (Or.inr (Or.inl ⟨g3, by omega, rfl⟩)))
              | exact hF _ _ (fun a j z9 => by unfold FEx at z9; repeat (first | rw [hf5 a j (by unfold FFl; omega)] | rw [hf4 a j (by unfold FFl; omega)] | rw [hf3 a j (by unfold FFl; omega)] | rw [up_n (by omega)])) (by repeat (first | exact hq5 | exact hq4 | exact hq3 | refine cQ_up ?_ (by unfold FPd; omega))) (by (repeat (first | rw [hf5 _ _ (by unfold FFl; omega)] | rw [hf4 _ _ (by unfold FFl; omega)] | rw [hf3 _ _ (by unfold FFl; omega)] | rw [up_s] | rw [up_n (by omega)])); omega) (by (repeat (first | rw [hf5 _ _ (by unfold FFl; omega)] | rw [hf4 _ _ (by unfold FFl; omega)] | rw [hf3 _ _ (by unfold FFl; omega)] | rw [up_s] | rw [up_n (by omega)])); omega) (Or.inr (Or.inr (Or.inr (Or.inl ⟨g5, g6, by omega, rfl⟩))))
              | exact hF _ _ (fun a j z9 => by unfold FEx at z9; repeat (first | rw [hf5 a j (by unfold FFl; omega)] | rw [hf4 a j (by unfold FFl; omega)] | rw [hf3 a j (by unfold FFl; omega)] | rw [up_n (by omega)])) (by repeat (first | exact hq5 | exact hq4 | exact hq3 | refine cQ_up ?_ (by unfold FPd; omega))) (by (repeat (first | rw [hf5 _ _ (by unfold FFl; omega)] | rw [hf4 _ _ (by unfold FFl; omega)] | rw [hf3 _ _ (by unfold FFl; omega)] | rw [up_s] | rw [up_n (by omega)])); omega) (by (repeat (first | rw [hf5 _ _ (by unfold FFl; omega)] | rw [hf4 _ _ (by unfold FFl; omega)] | rw [hf3 _ _ (by unfold FFl; omega)] | rw [up_s] | rw [up_n (by omega)])); omega) (Or.inr (Or.inr (Or.inr (Or.inr (⟨g7, by omega, g8, by omega, rfl⟩)))))
          · simp only [sx_cc, Classical.not_not] at g
            conv => whnf
            refine ⟨Nat.le_of_ble_eq_true rfl, Nat.le_of_ble_eq_true rfl, (by first | assumption | rfl), ?_⟩
            refine c_Tfail hq (by decide) (fun σ3 hf3 hq3 => ?_)
            have e12 : σ3 32 12 = σ 32 12 := hf3 _ _ (by decide)
            conv => whnf
            refine ⟨(by first | assumption | rfl), ?_⟩
            try simp (disch := omega) only [Int.cast_ofNat_Int, up_s, up_a, up_i, mp_a, mp_ge]
            try simp only [t3]
            try simp only [t4]
            try simp only [e3]
            try simp only [e12]
            conv => whnf
            refine ⟨⟨by omega, by omega⟩, ?_⟩
            conv => whnf
            refine ⟨(by first | assumption | rfl), ?_⟩
            try simp (disch := omega) only [Int.cast_ofNat_Int, up_s, up_a, up_i, mp_a, mp_ge]
            try simp only [t3]
            try simp only [t4]
            try simp only [e3]
            try simp only [e12]
            conv => whnf
            refine ⟨Nat.le_of_ble_eq_true rfl, Nat.le_of_ble_eq_true rfl, (by first | assumption | rfl), ?_⟩
            first
            | refine c_Thold hq4 (n := σ 32 11) (by repeat (first | rw [hf5 _ _ (by unfold FFl; omega)] | rw [hf4 _ _ (by unfold FFl; omega)] | rw [hf3 _ _ (by unfold FFl; omega)] | rw [up_s] | rw [up_n (by omega)])) (by omega) (fun hw9 => ?_) (fun hw9 => ?_)
            | refine c_Thold (cQ_up hq4 (by unfold FPd; omega)) (n := σ 32 11) (by repeat (first | rw [hf5 _ _ (by unfold FFl; omega)] | rw [hf4 _ _ (by unfold FFl; omega)] | rw [hf3 _ _ (by unfold FFl; omega)] | rw [up_s] | rw [up_n (by omega)])) (by omega) (fun hw9 => ?_) (fun hw9 => ?_)
            | refine c_Thold (cQ_up hq3 (by unfold FPd; omega)) (n := σ 32 11) (by repeat (first | rw [hf5 _ _ (by unfold FFl; omega)] | rw [hf4 _ _ (by unfold FFl; omega)] | rw [hf3 _ _ (by unfold FFl; omega)] | rw [up_s] | rw [up_n (by omega)])) (by omega) (fun hw9 => ?_) (fun hw9 => ?_)
            | refine c_Thold (cQ_up hq (by unfold FPd; omega)) (n := σ 32 11) (by repeat (first | rw [hf5 _ _ (by unfold FFl; omega)] | rw [hf4 _ _ (by unfold FFl; omega)] | rw [hf3 _ _ (by unfold FFl; omega)] | rw [up_s] | rw [up_n (by omega)])) (by omega) (fun hw9 => ?_) (fun hw9 => ?_)
            · skip
              conv => whnf
              refine ⟨rfl, ?_⟩
              first
              | (exfalso; omega)
              | exact hS _ (Or.inl ⟨g0, hv9, hk9, rfl⟩) (by repeat (first | exact hq | refine cQ_up ?_ (by unfold FPd; omega)))
              | exact hS _ (Or.inr (Or.inl ⟨g1, g2, hk9, rfl⟩)) (by repeat (first | exact hq | refine cQ_up ?_ (by unfold FPd; omega)))
              | exact hS _ (Or.inr (Or.inr (Or.inl ⟨g3, g4, rfl⟩))) (by repeat (first | exact hq | refine cQ_up ?_ (by unfold FPd; omega)))
              | exact hS _ (Or.inr (Or.inr (Or.inr (⟨g5, g6, hk9, rfl⟩)))) (by repeat (first | exact hq | refine cQ_up ?_ (by unfold FPd; omega)))
              | exact hF _ _ (fun a j z9 => by unfold FEx at z9; repeat (first | rw [hf5 a j (by unfold FFl; omega)] | rw [hf4 a j (by unfold FFl; omega)] | rw [hf3 a j (by unfold FFl; omega)] | rw [up_n (by omega)])) (by repeat (first | exact hq5 | exact hq4 | exact hq3 | refine cQ_up ?_ (by unfold FPd; omega))) (by (repeat (first | rw [hf5 _ _ (by unfold FFl; omega)] | rw [hf4 _ _ (by unfold FFl; omega)] | rw [hf3 _ _ (by unfold FFl; omega)] | rw [up_s] | rw [up_n (by omega)])); omega) (by (repeat (first | rw [hf5 _ _ (by unfold FFl; omega)] | rw [hf4 _ _ (by unfold FFl; omega)] | rw [hf3 _ _ (by unfold FFl; omega)] | rw [up_s] | rw [up_n (by omega)])); omega) (Or.inl ⟨g0, by omega, rfl⟩)
              | exact hF _ _ (fun a j z9 => by unfold FEx at z9; repeat (first | rw [hf5 a j (by unfold FFl; omega)] | rw [hf4 a j (by unfold FFl; omega)] | rw [hf3 a j (by unfold FFl; omega)] | rw [up_n (by omega)])) (by repeat (first | exact hq5 | exact hq4 | exact hq3 | refine cQ_up ?_ (by unfold FPd; omega))) (by (repeat (first | rw [hf5 _ _ (by unfold FFl; omega)] | rw [hf4 _ _ (by unfold FFl; omega)] | rw [hf3 _ _ (by unfold FFl; omega)] | rw [up_s] | rw [up_n (by omega)])); omega) (by (repeat (first | rw [hf5 _ _ (by unfold FFl; omega)] | rw [hf4 _ _ (by unfold FFl; omega)] | rw [hf3 _ _ (by unfold FFl; omega)] | rw [up_s] | rw [up_n (by omega)])); omega) (Or.inr (Or.inl ⟨g1, g2, by omega, rfl⟩))
              | exact hF _ _ (fun a j z9 => by unfold FEx at z9; repeat (first | rw [hf5 a j (by unfold FFl; omega)] | rw [hf4 a j (by unfold FFl; omega)] | rw [hf3 a j (by unfold FFl; omega)] | rw [up_n (by omega)])) (by repeat (first | exact hq5 | exact hq4 | exact hq3 | refine cQ_up ?_ (by unfold FPd; omega))) (by (repeat (first | rw [hf5 _ _ (by unfold FFl; omega)] | rw [hf4 _ _ (by unfold FFl; omega)] | rw [hf3 _ _ (by unfold FFl; omega)] | rw [up_s] | rw [up_n (by omega)])); omega) (by (repeat (first | rw [hf5 _ _ (by unfold FFl; omega)] | rw [hf4 _ _ (by unfold FFl; omega)] | rw [hf3 _ _ (by unfold FFl; omega)] | rw [up_s] | rw [up_n (by omega)])); omega) (Or.inr (Or.inr (Or.inl ⟨g3, by omega, rfl⟩)))
              | exact hF _ _ (fun a j z9 => by unfold FEx at z9; repeat (first | rw [hf5 a j (by unfold FFl; omega)] | rw [hf4 a j (by unfold FFl; omega)] | rw [hf3 a j (by unfold FFl; omega)] | rw [up_n (by omega)])) (by repeat (first | exact hq5 | exact hq4 | exact hq3 | refine cQ_up ?_ (by unfold FPd; omega))) (by (repeat (first | rw [hf5 _ _ (by unfold FFl; omega)] | rw [hf4 _ _ (by unfold FFl; omega)] | rw [hf3 _ _ (by unfold FFl; omega)] | rw [up_s] | rw [up_n (by omega)])); omega) (by (repeat (first | rw [hf5 _ _ (by unfold FFl; omega)] | rw [hf4 _ _ (by unfold FFl; omega)] | rw [hf3 _ _ (by unfold FFl; omega)] | rw [up_s] | rw [up_n (by omega)])); omega) (Or.inr (Or.inr (Or.inr (Or.inl ⟨g5, g6, by omega, rfl⟩))))
              | exact hF _ _ (fun a j z9 => by unfold FEx at z9; repeat (first | rw [hf5 a j (by unfold FFl; omega)] | rw [hf4 a j (by unfold FFl; omega)] | rw [hf3 a j (by unfold FFl; omega)] | rw [up_n (by omega)])) (by repeat (first | exact hq5 | exact hq4 | exact hq3 | refine cQ_up ?_ (by unfold FPd; omega))) (by (repeat (first | rw [hf5 _ _ (by unfold FFl; omega)] | rw [hf4 _ _ (by unfold FFl; omega)] | rw [hf3 _ _ (by unfold FFl; omega)] | rw [up_s] | rw [up_n (by omega)])); omega) (by (repeat (first | rw [hf5 _ _ (by unfold FFl; omega)] | rw [hf4 _ _ (by unfold FFl; omega)] | rw [hf3 _ _ (by unfold FFl; omega)] | rw [up_s] | rw [up_n (by omega)])); omega) (Or.inr (Or.inr (Or.inr (Or.inr (⟨g7, by omega, g8, by omega, rfl⟩)))))
            · skip
              conv => whnf
              refine ⟨rfl, ?_⟩
              first
              | (exfalso; omega)
              | exact hS _ (Or.inl ⟨g0, hv9, hk9, rfl⟩) (by repeat (first | exact hq | refine cQ_up ?_ (by unfold FPd; omega)))
              | exact hS _ (Or.inr (Or.inl ⟨g1, g2, hk9, rfl⟩)) (by repeat (first | exact hq | refine cQ_up ?_ (by unfold FPd; omega)))
              | exact hS _ (Or.inr (Or.inr (Or.inl ⟨g3, g4, rfl⟩))) (by repeat (first | exact hq | refine cQ_up ?_ (by unfold FPd; omega)))
              | exact hS _ (Or.inr (Or.inr (Or.inr (⟨g5, g6, hk9, rfl⟩)))) (by repeat (first | exact hq | refine cQ_up ?_ (by unfold FPd; omega)))
              | exact hF _ _ (fun a j z9 => by unfold FEx at z9; repeat (first | rw [hf5 a j (by unfold FFl; omega)] | rw [hf4 a j (by unfold FFl; omega)] | rw [hf3 a j (by unfold FFl; omega)] | rw [up_n (by omega)])) (by repeat (first | exact hq5 | exact hq4 | exact hq3 | refine cQ_up ?_ (by unfold FPd; omega))) (by (repeat (first | rw [hf5 _ _ (by unfold FFl; omega)] | rw [hf4 _ _ (by unfold FFl; omega)] | rw [hf3 _ _ (by unfold FFl; omega)] | rw [up_s] | rw [up_n (by omega)])); omega) (by (repeat (first | rw [hf5 _ _ (by unfold FFl; omega)] | rw [hf4 _ _ (by unfold FFl; omega)] | rw [hf3 _ _ (by unfold FFl; omega)] | rw [up_s] | rw [up_n (by omega)])); omega) (Or.inl ⟨g0, by omega, rfl⟩)
              | exact hF _ _ (fun a j z9 => by unfold FEx at z9; repeat (first | rw [hf5 a j (by unfold FFl; omega)] | rw [hf4 a j (by unfold FFl; omega)] | rw [hf3 a j (by unfold FFl; omega)] | rw [up_n (by omega)])) (by repeat (first | exact hq5 | exact hq4 | exact hq3 | refine cQ_up ?_ (by unfold FPd; omega))) (by (repeat (first | rw [hf5 _ _ (by unfold FFl; omega)] | rw [hf4 _ _ (by unfold FFl; omega)] | rw [hf3 _ _ (by unfold FFl; omega)] | rw [up_s] | rw [up_n (by omega)])); omega) (by (repeat (first | rw [hf5 _ _ (by unfold FFl; omega)] | rw [hf4 _ _ (by unfold FFl; omega)] | rw [hf3 _ _ (by unfold FFl; omega)] | rw [up_s] | rw [up_n (by omega)])); omega) (Or.inr (Or.inl ⟨g1, g2, by omega, rfl⟩))
              | exact hF _ _ (fun a j z9 => by unfold FEx at z9; repeat (first | rw [hf5 a j (by unfold FFl; omega)] | rw [hf4 a j (by unfold FFl; omega)] | rw [hf3 a j (by unfold FFl; omega)] | rw [up_n (by omega)])) (by repeat (first | exact hq5 | exact hq4 | exact hq3 | refine cQ_up ?_ (by unfold FPd; omega))) (by (repeat (first | rw [hf5 _ _ (by unfold FFl; omega)] | rw [hf4 _ _ (by unfold FFl; omega)] | rw [hf3 _ _ (by unfold FFl; omega)] | rw [up_s] | rw [up_n (by omega)])); omega) (by (repeat (first | rw [hf5 _ _ (by unfold FFl; omega)] | rw [hf4 _ _ (by unfold FFl; omega)] | rw [hf3 _ _ (by unfold FFl; omega)] | rw [up_s] | rw [up_n (by omega)])); omega) (Or.inr (Or.inr (Or.inl ⟨g3, by omega, rfl⟩)))
              | exact hF _ _ (fun a j z9 => by unfold FEx at z9; repeat (first | rw [hf5 a j (by unfold FFl; omega)] | rw [hf4 a j (by unfold FFl; omega)] | rw [hf3 a j (by unfold FFl; omega)] | rw [up_n (by omega)])) (by repeat (first | exact hq5 | exact hq4 | exact hq3 | refine cQ_up ?_ (by unfold FPd; omega))) (by (repeat (first | rw [hf5 _ _ (by unfold FFl; omega)] | rw [hf4 _ _ (by unfold FFl; omega)] | rw [hf3 _ _ (by unfold FFl; omega)] | rw [up_s] | rw [up_n (by omega)])); omega) (by (repeat (first | rw [hf5 _ _ (by unfold FFl; omega)] | rw [hf4 _ _ (by unfold FFl; omega)] | rw [hf3 _ _ (by unfold FFl; omega)] | rw [up_s] | rw [up_n (by omega)])); omega) (Or.inr (Or.inr (Or.inr (Or.inl ⟨g5, g6, by omega, rfl⟩))))
              | exact hF _ _ (fun a j z9 => by unfold FEx at z9; repeat (first | rw [hf5 a j (by unfold FFl; omega)] | rw [hf4 a j (by unfold FFl; omega)] | rw [hf3 a j (by unfold FFl; omega)] | rw [up_n (by omega)])) (by repeat (first | exact hq5 | exact hq4 | exact hq3 | refine cQ_up ?_ (by unfold FPd; omega))) (by (repeat (first | rw [hf5 _ _ (by unfold FFl; omega)] | rw [hf4 _ _ (by unfold FFl; omega)] | rw [hf3 _ _ (by unfold FFl; omega)] | rw [up_s] | rw [up_n (by omega)])); omega) (by (repeat (first | rw [hf5 _ _ (by unfold FFl; omega)] | rw [hf4 _ _ (by unfold FFl; omega)] | rw [hf3 _ _ (by unfold FFl; omega)] | rw [up_s] | rw [up_n (by omega)])); omega) (Or.inr (Or.inr (Or.inr (Or.inr (⟨g7, by omega, g8, by omega, rfl⟩)))))
      · simp only [sx_cc, Classical.not_not] at g
        have g1 : 10 ≤ kT tx n9 i := by omega
        have g2 : kT tx n9 i ≤ 16 := by omega
        skip
        conv => whnf
        refine ⟨Nat.le_of_ble_eq_true rfl, Nat.le_of_ble_eq_true rfl, (by first | assumption | rfl), ?_⟩
        refine c_Taddk (by first | exact hq3 | exact hq) (by (repeat (first | rw [hf5 _ _ (by unfold FFl; omega)] | rw [hf4 _ _ (by unfold FFl; omega)] | rw [hf3 _ _ (by unfold FFl; omega)] | rw [up_s] | rw [up_n (by omega)])); omega) (fun hk9 => ?_) (fun hk9 σ4 hf4 hq4 => ?_)
        · skip
          conv => whnf
          refine ⟨Nat.le_of_ble_eq_true rfl, Nat.le_of_ble_eq_true rfl, (by first | assumption | rfl), ?_⟩
          first
          | refine c_Twrite hq4 (m := σ 32 14) (by repeat (first | rw [hf5 _ _ (by unfold FFl; omega)] | rw [hf4 _ _ (by unfold FFl; omega)] | rw [hf3 _ _ (by unfold FFl; omega)] | rw [up_s] | rw [up_n (by omega)])) (by omega) (fun hw9 => ?_) (fun hw9 => ?_)
          | refine c_Twrite (cQ_up hq4 (by unfold FPd; omega)) (m := σ 32 14) (by repeat (first | rw [hf5 _ _ (by unfold FFl; omega)] | rw [hf4 _ _ (by unfold FFl; omega)] | rw [hf3 _ _ (by unfold FFl; omega)] | rw [up_s] | rw [up_n (by omega)])) (by omega) (fun hw9 => ?_) (fun hw9 => ?_)
          | refine c_Twrite (cQ_up hq3 (by unfold FPd; omega)) (m := σ 32 14) (by repeat (first | rw [hf5 _ _ (by unfold FFl; omega)] | rw [hf4 _ _ (by unfold FFl; omega)] | rw [hf3 _ _ (by unfold FFl; omega)] | rw [up_s] | rw [up_n (by omega)])) (by omega) (fun hw9 => ?_) (fun hw9 => ?_)
          | refine c_Twrite (cQ_up hq (by unfold FPd; omega)) (m := σ 32 14) (by repeat (first | rw [hf5 _ _ (by unfold FFl; omega)] | rw [hf4 _ _ (by unfold FFl; omega)] | rw [hf3 _ _ (by unfold FFl; omega)] | rw [up_s] | rw [up_n (by omega)])) (by omega) (fun hw9 => ?_) (fun hw9 => ?_)
          · skip
            conv => whnf
            refine ⟨(by first | assumption | rfl), by omega, ?_⟩
            try simp (disch := omega) only [Int.cast_ofNat_Int, up_s, up_a, up_i, mp_a, mp_ge]
            try simp only [t3]
            try simp only [t4]
            try simp only [e3]
            try simp only [e12]
            conv => whnf
            refine ⟨rfl, ?_⟩
            first
            | (exfalso; omega)
            | exact hS _ (Or.inl ⟨g0, hv9, hk9, rfl⟩) (by repeat (first | exact hq | refine cQ_up ?_ (by unfold FPd; omega)))
            | exact hS _ (Or.inr (Or.inl ⟨g1, g2, hk9, rfl⟩)) (by repeat (first | exact hq | refine cQ_up ?_ (by unfold FPd; omega)))
            | exact hS _ (Or.inr (Or.inr (Or.inl ⟨g3, g4, rfl⟩))) (by repeat (first | exact hq | refine cQ_up ?_ (by unfold FPd; omega)))
            | exact hS _ (Or.inr (Or.inr (Or.inr (⟨g5, g6, hk9, rfl⟩)))) (by repeat (first | exact hq | refine cQ_up ?_ (by unfold FPd; omega)))
            | exact hF _ _ (fun a j z9 => by unfold FEx at z9; repeat (first | rw [hf5 a j (by unfold FFl; omega)] | rw [hf4 a j (by unfold FFl; omega)] | rw [hf3 a j (by unfold FFl; omega)] | rw [up_n (by omega)])) (by repeat (first | exact hq5 | exact hq4 | exact hq3 | refine cQ_up ?_ (by unfold FPd; omega))) (by (repeat (first | rw [hf5 _ _ (by unfold FFl; omega)] | rw [hf4 _ _ (by unfold FFl; omega)] | rw [hf3 _ _ (by unfold FFl; omega)] | rw [up_s] | rw [up_n (by omega)])); omega) (by (repeat (first | rw [hf5 _ _ (by unfold FFl; omega)] | rw [hf4 _ _ (by unfold FFl; omega)] | rw [hf3 _ _ (by unfold FFl; omega)] | rw [up_s] | rw [up_n (by omega)])); omega) (Or.inl ⟨g0, by omega, rfl⟩)
            | exact hF _ _ (fun a j z9 => by unfold FEx at z9; repeat (first | rw [hf5 a j (by unfold FFl; omega)] | rw [hf4 a j (by unfold FFl; omega)] | rw [hf3 a j (by unfold FFl; omega)] | rw [up_n (by omega)])) (by repeat (first | exact hq5 | exact hq4 | exact hq3 | refine cQ_up ?_ (by unfold FPd; omega))) (by (repeat (first | rw [hf5 _ _ (by unfold FFl; omega)] | rw [hf4 _ _ (by unfold FFl; omega)] | rw [hf3 _ _ (by unfold FFl; omega)] | rw [up_s] | rw [up_n (by omega)])); omega) (by (repeat (first | rw [hf5 _ _ (by unfold FFl; omega)] | rw [hf4 _ _ (by unfold FFl; omega)] | rw [hf3 _ _ (by unfold FFl; omega)] | rw [up_s] | rw [up_n (by omega)])); omega) (Or.inr (Or.inl ⟨g1, g2, by omega, rfl⟩))
            | exact hF _ _ (fun a j z9 => by unfold FEx at z9; repeat (first | rw [hf5 a j (by unfold FFl; omega)] | rw [hf4 a j (by unfold FFl; omega)] | rw [hf3 a j (by unfold FFl; omega)] | rw [up_n (by omega)])) (by repeat (first | exact hq5 | exact hq4 | exact hq3 | refine cQ_up ?_ (by unfold FPd; omega))) (by (repeat (first | rw [hf5 _ _ (by unfold FFl; omega)] | rw [hf4 _ _ (by unfold FFl; omega)] | rw [hf3 _ _ (by unfold FFl; omega)] | rw [up_s] | rw [up_n (by omega)])); omega) (by (repeat (first | rw [hf5 _ _ (by unfold FFl; omega)] | rw [hf4 _ _ (by unfold FFl; omega)] | rw [hf3 _ _ (by unfold FFl; omega)] | rw [up_s] | rw [up_n (by omega)])); omega) (Or.inr (Or.inr (Or.inl ⟨g3, by omega, rfl⟩)))
            | exact hF _ _ (fun a j z9 => by unfold FEx at z9; repeat (first | rw [hf5 a j (by unfold FFl; omega)] | rw [hf4 a j (by unfold FFl; omega)] | rw [hf3 a j (by unfold FFl; omega)] | rw [up_n (by omega)])) (by repeat (first | exact hq5 | exact hq4 | exact hq3 | refine cQ_up ?_ (by unfold FPd; omega))) (by (repeat (first | rw [hf5 _ _ (by unfold FFl; omega)] | rw [hf4 _ _ (by unfold FFl; omega)] | rw [hf3 _ _ (by unfold FFl; omega)] | rw [up_s] | rw [up_n (by omega)])); omega) (by (repeat (first | rw [hf5 _ _ (by unfold FFl; omega)] | rw [hf4 _ _ (by unfold FFl; omega)] | rw [hf3 _ _ (by unfold FFl; omega)] | rw [up_s] | rw [up_n (by omega)])); omega) (Or.inr (Or.inr (Or.inr (Or.inl ⟨g5, g6, by omega, rfl⟩))))
            | exact hF _ _ (fun a j z9 => by unfold FEx at z9; repeat (first | rw [hf5 a j (by unfold FFl; omega)] | rw [hf4 a j (by unfold FFl; omega)] | rw [hf3 a j (by unfold FFl; omega)] | rw [up_n (by omega)])) (by repeat (first | exact hq5 | exact hq4 | exact hq3 | refine cQ_up ?_ (by unfold FPd; omega))) (by (repeat (first | rw [hf5 _ _ (by unfold FFl; omega)] | rw [hf4 _ _ (by unfold FFl; omega)] | rw [hf3 _ _ (by unfold FFl; omega)] | rw [up_s] | rw [up_n (by omega)])); omega) (by (repeat (first | rw [hf5 _ _ (by unfold FFl; omega)] | rw [hf4 _ _ (by unfold FFl; omega)] | rw [hf3 _ _ (by unfold FFl; omega)] | rw [up_s] | rw [up_n (by omega)])); omega) (Or.inr (Or.inr (Or.inr (Or.inr (⟨g7, by omega, g8, by omega, rfl⟩)))))
          · skip
            conv => whnf
            refine ⟨(by first | assumption | rfl), by omega, ?_⟩
            try simp (disch := omega) only [Int.cast_ofNat_Int, up_s, up_a, up_i, mp_a, mp_ge]
            try simp only [t3]
            try simp only [t4]
            try simp only [e3]
            try simp only [e12]
            conv => whnf
            refine ⟨rfl, ?_⟩
            first
            | (exfalso; omega)
            | exact hS _ (Or.inl ⟨g0, hv9, hk9, rfl⟩) (by repeat (first | exact hq | refine cQ_up ?_ (by unfold FPd; omega)))
            | exact hS _ (Or.inr (Or.inl ⟨g1, g2, hk9, rfl⟩)) (by repeat (first | exact hq | refine cQ_up ?_ (by unfold FPd; omega)))
            | exact hS _ (Or.inr (Or.inr (Or.inl ⟨g3, g4, rfl⟩))) (by repeat (first | exact hq | refine cQ_up ?_ (by unfold FPd; omega)))
            | exact hS _ (Or.inr (Or.inr (Or.inr (⟨g5, g6, hk9, rfl⟩)))) (by repeat (first | exact hq | refine cQ_up ?_ (by unfold FPd; omega)))
            | exact hF _ _ (fun a j z9 => by unfold FEx at z9; repeat (first | rw [hf5 a j (by unfold FFl; omega)] | rw [hf4 a j (by unfold FFl; omega)] | rw [hf3 a j (by unfold FFl; omega)] | rw [up_n (by omega)])) (by repeat (first | exact hq5 | exact hq4 | exact hq3 | refine cQ_up ?_ (by unfold FPd; omega))) (by (repeat (first | rw [hf5 _ _ (by unfold FFl; omega)] | rw [hf4 _ _ (by unfold FFl; omega)] | rw [hf3 _ _ (by unfold FFl; omega)] | rw [up_s] | rw [up_n (by omega)])); omega) (by (repeat (first | rw [hf5 _ _ (by unfold FFl; omega)] | rw [hf4 _ _ (by unfold FFl; omega)] | rw [hf3 _ _ (by unfold FFl; omega)] | rw [up_s] | rw [up_n (by omega)])); omega) (Or.inl ⟨g0, by omega, rfl⟩)
            | exact hF _ _ (fun a j z9 => by unfold FEx at z9; repeat (first | rw [hf5 a j (by unfold FFl; omega)] | rw [hf4 a j (by unfold FFl; omega)] | rw [hf3 a j (by unfold FFl; omega)] | rw [up_n (by omega)])) (by repeat (first | exact hq5 | exact hq4 | exact hq3 | refine cQ_up ?_ (by unfold FPd; omega))) (by (repeat (first | rw [hf5 _ _ (by unfold FFl; omega)] | rw [hf4 _ _ (by unfold FFl; omega)] | rw [hf3 _ _ (by unfold FFl; omega)] | rw [up_s] | rw [up_n (by omega)])); omega) (by (repeat (first | rw [hf5 _ _ (by unfold FFl; omega)] | rw [hf4 _ _ (by unfold FFl; omega)] | rw [hf3 _ _ (by unfold FFl; omega)] | rw [up_s] | rw [up_n (by omega)])); omega) (Or.inr (Or.inl ⟨g1, g2, by omega, rfl⟩))
            | exact hF _ _ (fun a j z9 => by unfold FEx at z9; repeat (first | rw [hf5 a j (by unfold FFl; omega)] | rw [hf4 a j (by unfold FFl; omega)] | rw [hf3 a j (by unfold FFl; omega)] | rw [up_n (by omega)])) (by repeat (first | exact hq5 | exact hq4 | exact hq3 | refine cQ_up ?_ (by unfold FPd; omega))) (by (repeat (first | rw [hf5 _ _ (by unfold FFl; omega)] | rw [hf4 _ _ (by unfold FFl; omega)] | rw [hf3 _ _ (by unfold FFl; omega)] | rw [up_s] | rw [up_n (by omega)])); omega) (by (repeat (first | rw [hf5 _ _ (by unfold FFl; omega)] | rw [hf4 _ _ (by unfold FFl; omega)] | rw [hf3 _ _ (by unfold FFl; omega)] | rw [up_s] | rw [up_n (by omega)])); omega) (Or.inr (Or.inr (Or.inl ⟨g3, by omega, rfl⟩)))
            | exact hF _ _ (fun a j z9 => by unfold FEx at z9; repeat (first | rw [hf5 a j (by unfold FFl; omega)] | rw [hf4 a j (by unfold FFl; omega)] | rw [hf3 a j (by unfold FFl; omega)] | rw [up_n (by omega)])) (by repeat (first | exact hq5 | exact hq4 | exact hq3 | refine cQ_up ?_ (by unfold FPd; omega))) (by (repeat (first | rw [hf5 _ _ (by unfold FFl; omega)] | rw [hf4 _ _ (by unfold FFl; omega)] | rw [hf3 _ _ (by unfold FFl; omega)] | rw [up_s] | rw [up_n (by omega)])); omega) (by (repeat (first | rw [hf5 _ _ (by unfold FFl; omega)] | rw [hf4 _ _ (by unfold FFl; omega)] | rw [hf3 _ _ (by unfold FFl; omega)] | rw [up_s] | rw [up_n (by omega)])); omega) (Or.inr (Or.inr (Or.inr (Or.inl ⟨g5, g6, by omega, rfl⟩))))
            | exact hF _ _ (fun a j z9 => by unfold FEx at z9; repeat (first | rw [hf5 a j (by unfold FFl; omega)] | rw [hf4 a j (by unfold FFl; omega)] | rw [hf3 a j (by unfold FFl; omega)] | rw [up_n (by omega)])) (by repeat (first | exact hq5 | exact hq4 | exact hq3 | refine cQ_up ?_ (by unfold FPd; omega))) (by (repeat (first | rw [hf5 _ _ (by unfold FFl; omega)] | rw [hf4 _ _ (by unfold FFl; omega)] | rw [hf3 _ _ (by unfold FFl; omega)] | rw [up_s] | rw [up_n (by omega)])); omega) (by (repeat (first | rw [hf5 _ _ (by unfold FFl; omega)] | rw [hf4 _ _ (by unfold FFl; omega)] | rw [hf3 _ _ (by unfold FFl; omega)] | rw [up_s] | rw [up_n (by omega)])); omega) (Or.inr (Or.inr (Or.inr (Or.inr (⟨g7, by omega, g8, by omega, rfl⟩)))))
        · skip
          conv => whnf
          refine ⟨Nat.le_of_ble_eq_true rfl, Nat.le_of_ble_eq_true rfl, (by first | assumption | rfl), ?_⟩
          first
          | refine c_Twrite hq4 (m := σ 32 14) (by repeat (first | rw [hf5 _ _ (by unfold FFl; omega)] | rw [hf4 _ _ (by unfold FFl; omega)] | rw [hf3 _ _ (by unfold FFl; omega)] | rw [up_s] | rw [up_n (by omega)])) (by omega) (fun hw9 => ?_) (fun hw9 => ?_)
          | refine c_Twrite (cQ_up hq4 (by unfold FPd; omega)) (m := σ 32 14) (by repeat (first | rw [hf5 _ _ (by unfold FFl; omega)] | rw [hf4 _ _ (by unfold FFl; omega)] | rw [hf3 _ _ (by unfold FFl; omega)] | rw [up_s] | rw [up_n (by omega)])) (by omega) (fun hw9 => ?_) (fun hw9 => ?_)
          | refine c_Twrite (cQ_up hq3 (by unfold FPd; omega)) (m := σ 32 14) (by repeat (first | rw [hf5 _ _ (by unfold FFl; omega)] | rw [hf4 _ _ (by unfold FFl; omega)] | rw [hf3 _ _ (by unfold FFl; omega)] | rw [up_s] | rw [up_n (by omega)])) (by omega) (fun hw9 => ?_) (fun hw9 => ?_)
          | refine c_Twrite (cQ_up hq (by unfold FPd; omega)) (m := σ 32 14) (by repeat (first | rw [hf5 _ _ (by unfold FFl; omega)] | rw [hf4 _ _ (by unfold FFl; omega)] | rw [hf3 _ _ (by unfold FFl; omega)] | rw [up_s] | rw [up_n (by omega)])) (by omega) (fun hw9 => ?_) (fun hw9 => ?_)
          · skip
            conv => whnf
            refine ⟨(by first | assumption | rfl), by omega, ?_⟩
            try simp (disch := omega) only [Int.cast_ofNat_Int, up_s, up_a, up_i, mp_a, mp_ge]
            try simp only [t3]
            try simp only [t4]
            try simp only [e3]
            try simp only [e12]
            conv => whnf
            refine ⟨rfl, ?_⟩
            first
            | (exfalso; omega)
            | exact hS _ (Or.inl ⟨g0, hv9, hk9, rfl⟩) (by repeat (first | exact hq | refine cQ_up ?_ (by unfold FPd; omega)))
            | exact hS _ (Or.inr (Or.inl ⟨g1, g2, hk9, rfl⟩)) (by repeat (first | exact hq | refine cQ_up ?_ (by unfold FPd; omega)))
            | exact hS _ (Or.inr (Or.inr (Or.inl ⟨g3, g4, rfl⟩))) (by repeat (first | exact hq | refine cQ_up ?_ (by unfold FPd; omega)))
            | exact hS _ (Or.inr (Or.inr (Or.inr (⟨g5, g6, hk9, rfl⟩)))) (by repeat (first | exact hq | refine cQ_up ?_ (by unfold FPd; omega)))
            | exact hF _ _ (fun a j z9 => by unfold FEx at z9; repeat (first | rw [hf5 a j (by unfold FFl; omega)] | rw [hf4 a j (by unfold FFl; omega)] | rw [hf3 a j (by unfold FFl; omega)] | rw [up_n (by omega)])) (by repeat (first | exact hq5 | exact hq4 | exact hq3 | refine cQ_up ?_ (by unfold FPd; omega))) (by (repeat (first | rw [hf5 _ _ (by unfold FFl; omega)] | rw [hf4 _ _ (by unfold FFl; omega)] | rw [hf3 _ _ (by unfold FFl; omega)] | rw [up_s] | rw [up_n (by omega)])); omega) (by (repeat (first | rw [hf5 _ _ (by unfold FFl; omega)] | rw [hf4 _ _ (by unfold FFl; omega)] | rw [hf3 _ _ (by unfold FFl; omega)] | rw [up_s] | rw [up_n (by omega)])); omega) (Or.inl ⟨g0, by omega, rfl⟩)
            | exact hF _ _ (fun a j z9 => by unfold FEx at z9; repeat (first | rw [hf5 a j (by unfold FFl; omega)] | rw [hf4 a j (by unfold FFl; omega)] | rw [hf3 a j (by unfold FFl; omega)] | rw [up_n (by omega)])) (by repeat (first | exact hq5 | exact hq4 | exact hq3 | refine cQ_up ?_ (by unfold FPd; omega))) (by (repeat (first | rw [hf5 _ _ (by unfold FFl; omega)] | rw [hf4 _ _ (by unfold FFl; omega)] | rw [hf3 _ _ (by unfold FFl; omega)] | rw [up_s] | rw [up_n (by omega)])); omega) (by (repeat (first | rw [hf5 _ _ (by unfold FFl; omega)] | rw [hf4 _ _ (by unfold FFl; omega)] | rw [hf3 _ _ (by unfold FFl; omega)] | rw [up_s] | rw [up_n (by omega)])); omega) (Or.inr (Or.inl ⟨g1, g2, by omega, rfl⟩))
            | exact hF _ _ (fun a j z9 => by unfold FEx at z9; repeat (first | rw [hf5 a j (by unfold FFl; omega)] | rw [hf4 a j (by unfold FFl; omega)] | rw [hf3 a j (by unfold FFl; omega)] | rw [up_n (by omega)])) (by repeat (first | exact hq5 | exact hq4 | exact hq3 | refine cQ_up ?_ (by unfold FPd; omega))) (by (repeat (first | rw [hf5 _ _ (by unfold FFl; omega)] | rw [hf4 _ _ (by unfold FFl; omega)] | rw [hf3 _ _ (by unfold FFl; omega)] | rw [up_s] | rw [up_n (by omega)])); omega) (by (repeat (first | rw [hf5 _ _ (by unfold FFl; omega)] | rw [hf4 _ _ (by unfold FFl; omega)] | rw [hf3 _ _ (by unfold FFl; omega)] | rw [up_s] | rw [up_n (by omega)])); omega) (Or.inr (Or.inr (Or.inl ⟨g3, by omega, rfl⟩)))
            | exact hF _ _ (fun a j z9 => by unfold FEx at z9; repeat (first | rw [hf5 a j (by unfold FFl; omega)] | rw [hf4 a j (by unfold FFl; omega)] | rw [hf3 a j (by unfold FFl; omega)] | rw [up_n (by omega)])) (by repeat (first | exact hq5 | exact hq4 | exact hq3 | refine cQ_up ?_ (by unfold FPd; omega))) (by (repeat (first | rw [hf5 _ _ (by unfold FFl; omega)] | rw [hf4 _ _ (by unfold FFl; omega)] | rw [hf3 _ _ (by unfold FFl; omega)] | rw [up_s] | rw [up_n (by omega)])); omega) (by (repeat (first | rw [hf5 _ _ (by unfold FFl; omega)] | rw [hf4 _ _ (by unfold FFl; omega)] | rw [hf3 _ _ (by unfold FFl; omega)] | rw [up_s] | rw [up_n (by omega)])); omega) (Or.inr (Or.inr (Or.inr (Or.inl ⟨g5, g6, by omega, rfl⟩))))
            | exact hF _ _ (fun a j z9 => by unfold FEx at z9; repeat (first | rw [hf5 a j (by unfold FFl; omega)] | rw [hf4 a j (by unfold FFl; omega)] | rw [hf3 a j (by unfold FFl; omega)] | rw [up_n (by omega)])) (by repeat (first | exact hq5 | exact hq4 | exact hq3 | refine cQ_up ?_ (by unfold FPd; omega))) (by (repeat (first | rw [hf5 _ _ (by unfold FFl; omega)] | rw [hf4 _ _ (by unfold FFl; omega)] | rw [hf3 _ _ (by unfold FFl; omega)] | rw [up_s] | rw [up_n (by omega)])); omega) (by (repeat (first | rw [hf5 _ _ (by unfold FFl; omega)] | rw [hf4 _ _ (by unfold FFl; omega)] | rw [hf3 _ _ (by unfold FFl; omega)] | rw [up_s] | rw [up_n (by omega)])); omega) (Or.inr (Or.inr (Or.inr (Or.inr (⟨g7, by omega, g8, by omega, rfl⟩)))))
          · skip
            conv => whnf
            refine ⟨(by first | assumption | rfl), by omega, ?_⟩
            try simp (disch := omega) only [Int.cast_ofNat_Int, up_s, up_a, up_i, mp_a, mp_ge]
            try simp only [t3]
            try simp only [t4]
            try simp only [e3]
            try simp only [e12]
            conv => whnf
            refine ⟨rfl, ?_⟩
            first
            | (exfalso; omega)
            | exact hS _ (Or.inl ⟨g0, hv9, hk9, rfl⟩) (by repeat (first | exact hq | refine cQ_up ?_ (by unfold FPd; omega)))
            | exact hS _ (Or.inr (Or.inl ⟨g1, g2, hk9, rfl⟩)) (by repeat (first | exact hq | refine cQ_up ?_ (by unfold FPd; omega)))
            | exact hS _ (Or.inr (Or.inr (Or.inl ⟨g3, g4, rfl⟩))) (by repeat (first | exact hq | refine cQ_up ?_ (by unfold FPd; omega)))
            | exact hS _ (Or.inr (Or.inr (Or.inr (⟨g5, g6, hk9, rfl⟩)))) (by repeat (first | exact hq | refine cQ_up ?_ (by unfold FPd; omega)))
            | exact hF _ _ (fun a j z9 => by unfold FEx at z9; repeat (first | rw [hf5 a j (by unfold FFl; omega)] | rw [hf4 a j (by unfold FFl; omega)] | rw [hf3 a j (by unfold FFl; omega)] | rw [up_n (by omega)])) (by repeat (first | exact hq5 | exact hq4 | exact hq3 | refine cQ_up ?_ (by unfold FPd; omega))) (by (repeat (first | rw [hf5 _ _ (by unfold FFl; omega)] | rw [hf4 _ _ (by unfold FFl; omega)] | rw [hf3 _ _ (by unfold FFl; omega)] | rw [up_s] | rw [up_n (by omega)])); omega) (by (repeat (first | rw [hf5 _ _ (by unfold FFl; omega)] | rw [hf4 _ _ (by unfold FFl; omega)] | rw [hf3 _ _ (by unfold FFl; omega)] | rw [up_s] | rw [up_n (by omega)])); omega) (Or.inl ⟨g0, by omega, rfl⟩)
            | exact hF _ _ (fun a j z9 => by unfold FEx at z9; repeat (first | rw [hf5 a j (by unfold FFl; omega)] | rw [hf4 a j (by unfold FFl; omega)] | rw [hf3 a j (by unfold FFl; omega)] | rw [up_n (by omega)])) (by repeat (first | exact hq5 | exact hq4 | exact hq3 | refine cQ_up ?_ (by unfold FPd; omega))) (by (repeat (first | rw [hf5 _ _ (by unfold FFl; omega)] | rw [hf4 _ _ (by unfold FFl; omega)] | rw [hf3 _ _ (by unfold FFl; omega)] | rw [up_s] | rw [up_n (by omega)])); omega) (by (repeat (first | rw [hf5 _ _ (by unfold FFl; omega)] | rw [hf4 _ _ (by unfold FFl; omega)] | rw [hf3 _ _ (by unfold FFl; omega)] | rw [up_s] | rw [up_n (by omega)])); omega) (Or.inr (Or.inl ⟨g1, g2, by omega, rfl⟩))
            | exact hF _ _ (fun a j z9 => by unfold FEx at z9; repeat (first | rw [hf5 a j (by unfold FFl; omega)] | rw [hf4 a j (by unfold FFl; omega)] | rw [hf3 a j (by unfold FFl; omega)] | rw [up_n (by omega)])) (by repeat (first | exact hq5 | exact hq4 | exact hq3 | refine cQ_up ?_ (by unfold FPd; omega))) (by (repeat (first | rw [hf5 _ _ (by unfold FFl; omega)] | rw [hf4 _ _ (by unfold FFl; omega)] | rw [hf3 _ _ (by unfold FFl; omega)] | rw [up_s] | rw [up_n (by omega)])); omega) (by (repeat (first | rw [hf5 _ _ (by unfold FFl; omega)] | rw [hf4 _ _ (by unfold FFl; omega)] | rw [hf3 _ _ (by unfold FFl; omega)] | rw [up_s] | rw [up_n (by omega)])); omega) (Or.inr (Or.inr (Or.inl ⟨g3, by omega, rfl⟩)))
            | exact hF _ _ (fun a j z9 => by unfold FEx at z9; repeat (first | rw [hf5 a j (by unfold FFl; omega)] | rw [hf4 a j (by unfold FFl; omega)] | rw [hf3 a j (by unfold FFl; omega)] | rw [up_n (by omega)])) (by repeat (first | exact hq5 | exact hq4 | exact hq3 | refine cQ_up ?_ (by unfold FPd; omega))) (by (repeat (first | rw [hf5 _ _ (by unfold FFl; omega)] | rw [hf4 _ _ (by unfold FFl; omega)] | rw [hf3 _ _ (by unfold FFl; omega)] | rw [up_s] | rw [up_n (by omega)])); omega) (by (repeat (first | rw [hf5 _ _ (by unfold FFl; omega)] | rw [hf4 _ _ (by unfold FFl; omega)] | rw [hf3 _ _ (by unfold FFl; omega)] | rw [up_s] | rw [up_n (by omega)])); omega) (Or.inr (Or.inr (Or.inr (Or.inl ⟨g5, g6, by omega, rfl⟩))))
            | exact hF _ _ (fun a j z9 => by unfold FEx at z9; repeat (first | rw [hf5 a j (by unfold FFl; omega)] | rw [hf4 a j (by unfold FFl; omega)] | rw [hf3 a j (by unfold FFl; omega)] | rw [up_n (by omega)])) (by repeat (first | exact hq5 | exact hq4 | exact hq3 | refine cQ_up ?_ (by unfold FPd; omega))) (by (repeat (first | rw [hf5 _ _ (by unfold FFl; omega)] | rw [hf4 _ _ (by unfold FFl; omega)] | rw [hf3 _ _ (by unfold FFl; omega)] | rw [up_s] | rw [up_n (by omega)])); omega) (by (repeat (first | rw [hf5 _ _ (by unfold FFl; omega)] | rw [hf4 _ _ (by unfold FFl; omega)] | rw [hf3 _ _ (by unfold FFl; omega)] | rw [up_s] | rw [up_n (by omega)])); omega) (Or.inr (Or.inr (Or.inr (Or.inr (⟨g7, by omega, g8, by omega, rfl⟩)))))
  · simp only [sx_cc, Classical.not_not] at g
    have g0 := g
    conv => whnf
    refine ⟨Nat.le_of_ble_eq_true rfl, Nat.le_of_ble_eq_true rfl, (by first | assumption | rfl), ?_⟩
    refine c_Tnum2 hq g0 (fun hv9 => ?_) (fun hv9 σ3 hf3 hq3 => ?_)
    · skip
      conv => whnf
      refine ⟨Nat.le_of_ble_eq_true rfl, Nat.le_of_ble_eq_true rfl, (by first | assumption | rfl), ?_⟩
      refine c_Taddk (by first | exact hq3 | exact hq) (by (repeat (first | rw [hf5 _ _ (by unfold FFl; omega)] | rw [hf4 _ _ (by unfold FFl; omega)] | rw [hf3 _ _ (by unfold FFl; omega)] | rw [up_s] | rw [up_n (by omega)])); omega) (fun hk9 => ?_) (fun hk9 σ4 hf4 hq4 => ?_)
      · skip
        conv => whnf
        refine ⟨Nat.le_of_ble_eq_true rfl, Nat.le_of_ble_eq_true rfl, (by first | assumption | rfl), ?_⟩
        first
        | refine c_Twrite hq4 (m := σ 32 14) (by repeat (first | rw [hf5 _ _ (by unfold FFl; omega)] | rw [hf4 _ _ (by unfold FFl; omega)] | rw [hf3 _ _ (by unfold FFl; omega)] | rw [up_s] | rw [up_n (by omega)])) (by omega) (fun hw9 => ?_) (fun hw9 => ?_)
        | refine c_Twrite (cQ_up hq4 (by unfold FPd; omega)) (m := σ 32 14) (by repeat (first | rw [hf5 _ _ (by unfold FFl; omega)] | rw [hf4 _ _ (by unfold FFl; omega)] | rw [hf3 _ _ (by unfold FFl; omega)] | rw [up_s] | rw [up_n (by omega)])) (by omega) (fun hw9 => ?_) (fun hw9 => ?_)
        | refine c_Twrite (cQ_up hq3 (by unfold FPd; omega)) (m := σ 32 14) (by repeat (first | rw [hf5 _ _ (by unfold FFl; omega)] | rw [hf4 _ _ (by unfold FFl; omega)] | rw [hf3 _ _ (by unfold FFl; omega)] | rw [up_s] | rw [up_n (by omega)])) (by omega) (fun hw9 => ?_) (fun hw9 => ?_)
        | refine c_Twrite (cQ_up hq (by unfold FPd; omega)) (m := σ 32 14) (by repeat (first | rw [hf5 _ _ (by unfold FFl; omega)] | rw [hf4 _ _ (by unfold FFl; omega)] | rw [hf3 _ _ (by unfold FFl; omega)] | rw [up_s] | rw [up_n (by omega)])) (by omega) (fun hw9 => ?_) (fun hw9 => ?_)
        · skip
          conv => whnf
          refine ⟨(by first | assumption | rfl), by omega, ?_⟩
          try simp (disch := omega) only [Int.cast_ofNat_Int, up_s, up_a, up_i, mp_a, mp_ge]
          try simp only [t3]
          try simp only [t4]
          try simp only [e3]
          try simp only [e12]
          conv => whnf
          refine ⟨rfl, ?_⟩
          first
          | (exfalso; omega)
          | exact hS _ (Or.inl ⟨g0, hv9, hk9, rfl⟩) (by repeat (first | exact hq | refine cQ_up ?_ (by unfold FPd; omega)))
          | exact hS _ (Or.inr (Or.inl ⟨g1, g2, hk9, rfl⟩)) (by repeat (first | exact hq | refine cQ_up ?_ (by unfold FPd; omega)))
          | exact hS _ (Or.inr (Or.inr (Or.inl ⟨g3, g4, rfl⟩))) (by repeat (first | exact hq | refine cQ_up ?_ (by unfold FPd; omega)))
          | exact hS _ (Or.inr (Or.inr (Or.inr (⟨g5, g6, hk9, rfl⟩)))) (by repeat (first | exact hq | refine cQ_up ?_ (by unfold FPd; omega)))
          | exact hF _ _ (fun a j z9 => by unfold FEx at z9; repeat (first | rw [hf5 a j (by unfold FFl; omega)] | rw [hf4 a j (by unfold FFl; omega)] | rw [hf3 a j (by unfold FFl; omega)] | rw [up_n (by omega)])) (by repeat (first | exact hq5 | exact hq4 | exact hq3 | refine cQ_up ?_ (by unfold FPd; omega))) (by (repeat (first | rw [hf5 _ _ (by unfold FFl; omega)] | rw [hf4 _ _ (by unfold FFl; omega)] | rw [hf3 _ _ (by unfold FFl; omega)] | rw [up_s] | rw [up_n (by omega)])); omega) (by (repeat (first | rw [hf5 _ _ (by unfold FFl; omega)] | rw [hf4 _ _ (by unfold FFl; omega)] | rw [hf3 _ _ (by unfold FFl; omega)] | rw [up_s] | rw [up_n (by omega)])); omega) (Or.inl ⟨g0, by omega, rfl⟩)
          | exact hF _ _ (fun a j z9 => by unfold FEx at z9; repeat (first | rw [hf5 a j (by unfold FFl; omega)] | rw [hf4 a j (by unfold FFl; omega)] | rw [hf3 a j (by unfold FFl; omega)] | rw [up_n (by omega)])) (by repeat (first | exact hq5 | exact hq4 | exact hq3 | refine cQ_up ?_ (by unfold FPd; omega))) (by (repeat (first | rw [hf5 _ _ (by unfold FFl; omega)] | rw [hf4 _ _ (by unfold FFl; omega)] | rw [hf3 _ _ (by unfold FFl; omega)] | rw [up_s] | rw [up_n (by omega)])); omega) (by (repeat (first | rw [hf5 _ _ (by unfold FFl; omega)] | rw [hf4 _ _ (by unfold FFl; omega)] | rw [hf3 _ _ (by unfold FFl; omega)] | rw [up_s] | rw [up_n (by omega)])); omega) (Or.inr (Or.inl ⟨g1, g2, by omega, rfl⟩))
          | exact hF _ _ (fun a j z9 => by unfold FEx at z9; repeat (first | rw [hf5 a j (by unfold FFl; omega)] | rw [hf4 a j (by unfold FFl; omega)] | rw [hf3 a j (by unfold FFl; omega)] | rw [up_n (by omega)])) (by repeat (first | exact hq5 | exact hq4 | exact hq3 | refine cQ_up ?_ (by unfold FPd; omega))) (by (repeat (first | rw [hf5 _ _ (by unfold FFl; omega)] | rw [hf4 _ _ (by unfold FFl; omega)] | rw [hf3 _ _ (by unfold FFl; omega)] | rw [up_s] | rw [up_n (by omega)])); omega) (by (repeat (first | rw [hf5 _ _ (by unfold FFl; omega)] | rw [hf4 _ _ (by unfold FFl; omega)] | rw [hf3 _ _ (by unfold FFl; omega)] | rw [up_s] | rw [up_n (by omega)])); omega) (Or.inr (Or.inr (Or.inl ⟨g3, by omega, rfl⟩)))
          | exact hF _ _ (fun a j z9 => by unfold FEx at z9; repeat (first | rw [hf5 a j (by unfold FFl; omega)] | rw [hf4 a j (by unfold FFl; omega)] | rw [hf3 a j (by unfold FFl; omega)] | rw [up_n (by omega)])) (by repeat (first | exact hq5 | exact hq4 | exact hq3 | refine cQ_up ?_ (by unfold FPd; omega))) (by (repeat (first | rw [hf5 _ _ (by unfold FFl; omega)] | rw [hf4 _ _ (by unfold FFl; omega)] | rw [hf3 _ _ (by unfold FFl; omega)] | rw [up_s] | rw [up_n (by omega)])); omega) (by (repeat (first | rw [hf5 _ _ (by unfold FFl; omega)] | rw [hf4 _ _ (by unfold FFl; omega)] | rw [hf3 _ _ (by unfold FFl; omega)] | rw [up_s] | rw [up_n (by omega)])); omega) (Or.inr (Or.inr (Or.inr (Or.inl ⟨g5, g6, by omega, rfl⟩))))
          | exact hF _ _ (fun a j z9 => by unfold FEx at z9; repeat (first | rw [hf5 a j (by unfold FFl; omega)] | rw [hf4 a j (by unfold FFl; omega)] | rw [hf3 a j (by unfold FFl; omega)] | rw [up_n (by omega)])) (by repeat (first | exact hq5 | exact hq4 | exact hq3 | refine cQ_up ?_ (by unfold FPd; omega))) (by (repeat (first | rw [hf5 _ _ (by unfold FFl; omega)] | rw [hf4 _ _ (by unfold FFl; omega)] | rw [hf3 _ _ (by unfold FFl; omega)] | rw [up_s] | rw [up_n (by omega)])); omega) (by (repeat (first | rw [hf5 _ _ (by unfold FFl; omega)] | rw [hf4 _ _ (by unfold FFl; omega)] | rw [hf3 _ _ (by unfold FFl; omega)] | rw [up_s] | rw [up_n (by omega)])); omega) (Or.inr (Or.inr (Or.inr (Or.inr (⟨g7, by omega, g8, by omega, rfl⟩)))))
        · skip
          conv => whnf
          refine ⟨(by first | assumption | rfl), by omega, ?_⟩
          try simp (disch := omega) only [Int.cast_ofNat_Int, up_s, up_a, up_i, mp_a, mp_ge]
          try simp only [t3]
          try simp only [t4]
          try simp only [e3]
          try simp only [e12]
          conv => whnf
          refine ⟨rfl, ?_⟩
          first
          | (exfalso; omega)
          | exact hS _ (Or.inl ⟨g0, hv9, hk9, rfl⟩) (by repeat (first | exact hq | refine cQ_up ?_ (by unfold FPd; omega)))
          | exact hS _ (Or.inr (Or.inl ⟨g1, g2, hk9, rfl⟩)) (by repeat (first | exact hq | refine cQ_up ?_ (by unfold FPd; omega)))
          | exact hS _ (Or.inr (Or.inr (Or.inl ⟨g3, g4, rfl⟩))) (by repeat (first | exact hq | refine cQ_up ?_ (by unfold FPd; omega)))
          | exact hS _ (Or.inr (Or.inr (Or.inr (⟨g5, g6, hk9, rfl⟩)))) (by repeat (first | exact hq | refine cQ_up ?_ (by unfold FPd; omega)))
          | exact hF _ _ (fun a j z9 => by unfold FEx at z9; repeat (first | rw [hf5 a j (by unfold FFl; omega)] | rw [hf4 a j (by unfold FFl; omega)] | rw [hf3 a j (by unfold FFl; omega)] | rw [up_n (by omega)])) (by repeat (first | exact hq5 | exact hq4 | exact hq3 | refine cQ_up ?_ (by unfold FPd; omega))) (by (repeat (first | rw [hf5 _ _ (by unfold FFl; omega)] | rw [hf4 _ _ (by unfold FFl; omega)] | rw [hf3 _ _ (by unfold FFl; omega)] | rw [up_s] | rw [up_n (by omega)])); omega) (by (repeat (first | rw [hf5 _ _ (by unfold FFl; omega)] | rw [hf4 _ _ (by unfold FFl; omega)] | rw [hf3 _ _ (by unfold FFl; omega)] | rw [up_s] | rw [up_n (by omega)])); omega) (Or.inl ⟨g0, by omega, rfl⟩)
          | exact hF _ _ (fun a j z9 => by unfold FEx at z9; repeat (first | rw [hf5 a j (by unfold FFl; omega)] | rw [hf4 a j (by unfold FFl; omega)] | rw [hf3 a j (by unfold FFl; omega)] | rw [up_n (by omega)])) (by repeat (first | exact hq5 | exact hq4 | exact hq3 | refine cQ_up ?_ (by unfold FPd; omega))) (by (repeat (first | rw [hf5 _ _ (by unfold FFl; omega)] | rw [hf4 _ _ (by unfold FFl; omega)] | rw [hf3 _ _ (by unfold FFl; omega)] | rw [up_s] | rw [up_n (by omega)])); omega) (by (repeat (first | rw [hf5 _ _ (by unfold FFl; omega)] | rw [hf4 _ _ (by unfold FFl; omega)] | rw [hf3 _ _ (by unfold FFl; omega)] | rw [up_s] | rw [up_n (by omega)])); omega) (Or.inr (Or.inl ⟨g1, g2, by omega, rfl⟩))
          | exact hF _ _ (fun a j z9 => by unfold FEx at z9; repeat (first | rw [hf5 a j (by unfold FFl; omega)] | rw [hf4 a j (by unfold FFl; omega)] | rw [hf3 a j (by unfold FFl; omega)] | rw [up_n (by omega)])) (by repeat (first | exact hq5 | exact hq4 | exact hq3 | refine cQ_up ?_ (by unfold FPd; omega))) (by (repeat (first | rw [hf5 _ _ (by unfold FFl; omega)] | rw [hf4 _ _ (by unfold FFl; omega)] | rw [hf3 _ _ (by unfold FFl; omega)] | rw [up_s] | rw [up_n (by omega)])); omega) (by (repeat (first | rw [hf5 _ _ (by unfold FFl; omega)] | rw [hf4 _ _ (by unfold FFl; omega)] | rw [hf3 _ _ (by unfold FFl; omega)] | rw [up_s] | rw [up_n (by omega)])); omega) (Or.inr (Or.inr (Or.inl ⟨g3, by omega, rfl⟩)))
          | exact hF _ _ (fun a j z9 => by unfold FEx at z9; repeat (first | rw [hf5 a j (by unfold FFl; omega)] | rw [hf4 a j (by unfold FFl; omega)] | rw [hf3 a j (by unfold FFl; omega)] | rw [up_n (by omega)])) (by repeat (first | exact hq5 | exact hq4 | exact hq3 | refine cQ_up ?_ (by unfold FPd; omega))) (by (repeat (first | rw [hf5 _ _ (by unfold FFl; omega)] | rw [hf4 _ _ (by unfold FFl; omega)] | rw [hf3 _ _ (by unfold FFl; omega)] | rw [up_s] | rw [up_n (by omega)])); omega) (by (repeat (first | rw [hf5 _ _ (by unfold FFl; omega)] | rw [hf4 _ _ (by unfold FFl; omega)] | rw [hf3 _ _ (by unfold FFl; omega)] | rw [up_s] | rw [up_n (by omega)])); omega) (Or.inr (Or.inr (Or.inr (Or.inl ⟨g5, g6, by omega, rfl⟩))))
          | exact hF _ _ (fun a j z9 => by unfold FEx at z9; repeat (first | rw [hf5 a j (by unfold FFl; omega)] | rw [hf4 a j (by unfold FFl; omega)] | rw [hf3 a j (by unfold FFl; omega)] | rw [up_n (by omega)])) (by repeat (first | exact hq5 | exact hq4 | exact hq3 | refine cQ_up ?_ (by unfold FPd; omega))) (by (repeat (first | rw [hf5 _ _ (by unfold FFl; omega)] | rw [hf4 _ _ (by unfold FFl; omega)] | rw [hf3 _ _ (by unfold FFl; omega)] | rw [up_s] | rw [up_n (by omega)])); omega) (by (repeat (first | rw [hf5 _ _ (by unfold FFl; omega)] | rw [hf4 _ _ (by unfold FFl; omega)] | rw [hf3 _ _ (by unfold FFl; omega)] | rw [up_s] | rw [up_n (by omega)])); omega) (Or.inr (Or.inr (Or.inr (Or.inr (⟨g7, by omega, g8, by omega, rfl⟩)))))
      · skip
        conv => whnf
        refine ⟨Nat.le_of_ble_eq_true rfl, Nat.le_of_ble_eq_true rfl, (by first | assumption | rfl), ?_⟩
        first
        | refine c_Twrite hq4 (m := σ 32 14) (by repeat (first | rw [hf5 _ _ (by unfold FFl; omega)] | rw [hf4 _ _ (by unfold FFl; omega)] | rw [hf3 _ _ (by unfold FFl; omega)] | rw [up_s] | rw [up_n (by omega)])) (by omega) (fun hw9 => ?_) (fun hw9 => ?_)
        | refine c_Twrite (cQ_up hq4 (by unfold FPd; omega)) (m := σ 32 14) (by repeat (first | rw [hf5 _ _ (by unfold FFl; omega)] | rw [hf4 _ _ (by unfold FFl; omega)] | rw [hf3 _ _ (by unfold FFl; omega)] | rw [up_s] | rw [up_n (by omega)])) (by omega) (fun hw9 => ?_) (fun hw9 => ?_)
        | refine c_Twrite (cQ_up hq3 (by unfold FPd; omega)) (m := σ 32 14) (by repeat (first | rw [hf5 _ _ (by unfold FFl; omega)] | rw [hf4 _ _ (by unfold FFl; omega)] | rw [hf3 _ _ (by unfold FFl; omega)] | rw [up_s] | rw [up_n (by omega)])) (by omega) (fun hw9 => ?_) (fun hw9 => ?_)
        | refine c_Twrite (cQ_up hq (by unfold FPd; omega)) (m := σ 32 14) (by repeat (first | rw [hf5 _ _ (by unfold FFl; omega)] | rw [hf4 _ _ (by unfold FFl; omega)] | rw [hf3 _ _ (by unfold FFl; omega)] | rw [up_s] | rw [up_n (by omega)])) (by omega) (fun hw9 => ?_) (fun hw9 => ?_)
        · skip
          conv => whnf
          refine ⟨(by first | assumption | rfl), by omega, ?_⟩
          try simp (disch := omega) only [Int.cast_ofNat_Int, up_s, up_a, up_i, mp_a, mp_ge]
          try simp only [t3]
          try simp only [t4]
          try simp only [e3]
          try simp only [e12]
          conv => whnf
          refine ⟨rfl, ?_⟩
          first
          | (exfalso; omega)
          | exact hS _ (Or.inl ⟨g0, hv9, hk9, rfl⟩) (by repeat (first | exact hq | refine cQ_up ?_ (by unfold FPd; omega)))
          | exact hS _ (Or.inr (Or.inl ⟨g1, g2, hk9, rfl⟩)) (by repeat (first | exact hq | refine cQ_up ?_ (by unfold FPd; omega)))
          | exact hS _ (Or.inr (Or.inr (Or.inl ⟨g3, g4, rfl⟩))) (by repeat (first | exact hq | refine cQ_up ?_ (by unfold FPd; omega)))
          | exact hS _ (Or.inr (Or.inr (Or.inr (⟨g5, g6, hk9, rfl⟩)))) (by repeat (first | exact hq | refine cQ_up ?_ (by unfold FPd; omega)))
          | exact hF _ _ (fun a j z9 => by unfold FEx at z9; repeat (first | rw [hf5 a j (by unfold FFl; omega)] | rw [hf4 a j (by unfold FFl; omega)] | rw [hf3 a j (by unfold FFl; omega)] | rw [up_n (by omega)])) (by repeat (first | exact hq5 | exact hq4 | exact hq3 | refine cQ_up ?_ (by unfold FPd; omega))) (by (repeat (first | rw [hf5 _ _ (by unfold FFl; omega)] | rw [hf4 _ _ (by unfold FFl; omega)] | rw [hf3 _ _ (by unfold FFl; omega)] | rw [up_s] | rw [up_n (by omega)])); omega) (by (repeat (first | rw [hf5 _ _ (by unfold FFl; omega)] | rw [hf4 _ _ (by unfold FFl; omega)] | rw [hf3 _ _ (by unfold FFl; omega)] | rw [up_s] | rw [up_n (by omega)])); omega) (Or.inl ⟨g0, by omega, rfl⟩)
          | exact hF _ _ (fun a j z9 => by unfold FEx at z9; repeat (first | rw [hf5 a j (by unfold FFl; omega)] | rw [hf4 a j (by unfold FFl; omega)] | rw [hf3 a j (by unfold FFl; omega)] | rw [up_n (by omega)])) (by repeat (first | exact hq5 | exact hq4 | exact hq3 | refine cQ_up ?_ (by unfold FPd; omega))) (by (repeat (first | rw [hf5 _ _ (by unfold FFl; omega)] | rw [hf4 _ _ (by unfold FFl; omega)] | rw [hf3 _ _ (by unfold FFl; omega)] | rw [up_s] | rw [up_n (by omega)])); omega) (by (repeat (first | rw [hf5 _ _ (by unfold FFl; omega)] | rw [hf4 _ _ (by unfold FFl; omega)] | rw [hf3 _ _ (by unfold FFl; omega)] | rw [up_s] | rw [up_n (by omega)])); omega) (Or.inr (Or.inl ⟨g1, g2, by omega, rfl⟩))
          | exact hF _ _ (fun a j z9 => by unfold FEx at z9; repeat (first | rw [hf5 a j (by unfold FFl; omega)] | rw [hf4 a j (by unfold FFl; omega)] | rw [hf3 a j (by unfold FFl; omega)] | rw [up_n (by omega)])) (by repeat (first | exact hq5 | exact hq4 | exact hq3 | refine cQ_up ?_ (by unfold FPd; omega))) (by (repeat (first | rw [hf5 _ _ (by unfold FFl; omega)] | rw [hf4 _ _ (by unfold FFl; omega)] | rw [hf3 _ _ (by unfold FFl; omega)] | rw [up_s] | rw [up_n (by omega)])); omega) (by (repeat (first | rw [hf5 _ _ (by unfold FFl; omega)] | rw [hf4 _ _ (by unfold FFl; omega)] | rw [hf3 _ _ (by unfold FFl; omega)] | rw [up_s] | rw [up_n (by omega)])); omega) (Or.inr (Or.inr (Or.inl ⟨g3, by omega, rfl⟩)))
          | exact hF _ _ (fun a j z9 => by unfold FEx at z9; repeat (first | rw [hf5 a j (by unfold FFl; omega)] | rw [hf4 a j (by unfold FFl; omega)] | rw [hf3 a j (by unfold FFl; omega)] | rw [up_n (by omega)])) (by repeat (first | exact hq5 | exact hq4 | exact hq3 | refine cQ_up ?_ (by unfold FPd; omega))) (by (repeat (first | rw [hf5 _ _ (by unfold FFl; omega)] | rw [hf4 _ _ (by unfold FFl; omega)] | rw [hf3 _ _ (by unfold FFl; omega)] | rw [up_s] | rw [up_n (by omega)])); omega) (by (repeat (first | rw [hf5 _ _ (by unfold FFl; omega)] | rw [hf4 _ _ (by unfold FFl; omega)] | rw [hf3 _ _ (by unfold FFl; omega)] | rw [up_s] | rw [up_n (by omega)])); omega) (Or.inr (Or.inr (Or.inr (Or.inl ⟨g5, g6, by omega, rfl⟩))))
          | exact hF _ _ (fun a j z9 => by unfold FEx at z9; repeat (first | rw [hf5 a j (by unfold FFl; omega)] | rw [hf4 a j (by unfold FFl; omega)] | rw [hf3 a j (by unfold FFl; omega)] | rw [up_n (by omega)])) (by repeat (first | exact hq5 | exact hq4 | exact hq3 | refine cQ_up ?_ (by unfold FPd; omega))) (by (repeat (first | rw [hf5 _ _ (by unfold FFl; omega)] | rw [hf4 _ _ (by unfold FFl; omega)] | rw [hf3 _ _ (by unfold FFl; omega)] | rw [up_s] | rw [up_n (by omega)])); omega) (by (repeat (first | rw [hf5 _ _ (by unfold FFl; omega)] | rw [hf4 _ _ (by unfold FFl; omega)] | rw [hf3 _ _ (by unfold FFl; omega)] | rw [up_s] | rw [up_n (by omega)])); omega) (Or.inr (Or.inr (Or.inr (Or.inr (⟨g7, by omega, g8, by omega, rfl⟩)))))
        · skip
          conv => whnf
          refine ⟨(by first | assumption | rfl), by omega, ?_⟩
          try simp (disch := omega) only [Int.cast_ofNat_Int, up_s, up_a, up_i, mp_a, mp_ge]
          try simp only [t3]
          try simp only [t4]
          try simp only [e3]
          try simp only [e12]
          conv => whnf
          refine ⟨rfl, ?_⟩
          first
          | (exfalso; omega)
          | exact hS _ (Or.inl ⟨g0, hv9, hk9, rfl⟩) (by repeat (first | exact hq | refine cQ_up ?_ (by unfold FPd; omega)))
          | exact hS _ (Or.inr (Or.inl ⟨g1, g2, hk9, rfl⟩)) (by repeat (first | exact hq | refine cQ_up ?_ (by unfold FPd; omega)))
          | exact hS _ (Or.inr (Or.inr (Or.inl ⟨g3, g4, rfl⟩))) (by repeat (first | exact hq | refine cQ_up ?_ (by unfold FPd; omega)))
          | exact hS _ (Or.inr (Or.inr (Or.inr (⟨g5, g6, hk9, rfl⟩)))) (by repeat (first | exact hq | refine cQ_up ?_ (by unfold FPd; omega)))
          | exact hF _ _ (fun a j z9 => by unfold FEx at z9; repeat (first | rw [hf5 a j (by unfold FFl; omega)] | rw [hf4 a j (by unfold FFl; omega)] | rw [hf3 a j (by unfold FFl; omega)] | rw [up_n (by omega)])) (by repeat (first | exact hq5 | exact hq4 | exact hq3 | refine cQ_up ?_ (by unfold FPd; omega))) (by (repeat (first | rw [hf5 _ _ (by unfold FFl; omega)] | rw [hf4 _ _ (by unfold FFl; omega)] | rw [hf3 _ _ (by unfold FFl; omega)] | rw [up_s] | rw [up_n (by omega)])); omega) (by (repeat (first | rw [hf5 _ _ (by unfold FFl; omega)] | rw [hf4 _ _ (by unfold FFl; omega)] | rw [hf3 _ _ (by unfold FFl; omega)] | rw [up_s] | rw [up_n (by omega)])); omega) (Or.inl ⟨g0, by omega, rfl⟩)
          | exact hF _ _ (fun a j z9 => by unfold FEx at z9; repeat (first | rw [hf5 a j (by unfold FFl; omega)] | rw [hf4 a j (by unfold FFl; omega)] | rw [hf3 a j (by unfold FFl; omega)] | rw [up_n (by omega)])) (by repeat (first | exact hq5 | exact hq4 | exact hq3 | refine cQ_up ?_ (by unfold FPd; omega))) (by (repeat (first | rw [hf5 _ _ (by unfold FFl; omega)] | rw [hf4 _ _ (by unfold FFl; omega)] | rw [hf3 _ _ (by unfold FFl; omega)] | rw [up_s] | rw [up_n (by omega)])); omega) (by (repeat (first | rw [hf5 _ _ (by unfold FFl; omega)] | rw [hf4 _ _ (by unfold FFl; omega)] | rw [hf3 _ _ (by unfold FFl; omega)] | rw [up_s] | rw [up_n (by omega)])); omega) (Or.inr (Or.inl ⟨g1, g2, by omega, rfl⟩))
          | exact hF _ _ (fun a j z9 => by unfold FEx at z9; repeat (first | rw [hf5 a j (by unfold FFl; omega)] | rw [hf4 a j (by unfold FFl; omega)] | rw [hf3 a j (by unfold FFl; omega)] | rw [up_n (by omega)])) (by repeat (first | exact hq5 | exact hq4 | exact hq3 | refine cQ_up ?_ (by unfold FPd; omega))) (by (repeat (first | rw [hf5 _ _ (by unfold FFl; omega)] | rw [hf4 _ _ (by unfold FFl; omega)] | rw [hf3 _ _ (by unfold FFl; omega)] | rw [up_s] | rw [up_n (by omega)])); omega) (by (repeat (first | rw [hf5 _ _ (by unfold FFl; omega)] | rw [hf4 _ _ (by unfold FFl; omega)] | rw [hf3 _ _ (by unfold FFl; omega)] | rw [up_s] | rw [up_n (by omega)])); omega) (Or.inr (Or.inr (Or.inl ⟨g3, by omega, rfl⟩)))
          | exact hF _ _ (fun a j z9 => by unfold FEx at z9; repeat (first | rw [hf5 a j (by unfold FFl; omega)] | rw [hf4 a j (by unfold FFl; omega)] | rw [hf3 a j (by unfold FFl; omega)] | rw [up_n (by omega)])) (by repeat (first | exact hq5 | exact hq4 | exact hq3 | refine cQ_up ?_ (by unfold FPd; omega))) (by (repeat (first | rw [hf5 _ _ (by unfold FFl; omega)] | rw [hf4 _ _ (by unfold FFl; omega)] | rw [hf3 _ _ (by unfold FFl; omega)] | rw [up_s] | rw [up_n (by omega)])); omega) (by (repeat (first | rw [hf5 _ _ (by unfold FFl; omega)] | rw [hf4 _ _ (by unfold FFl; omega)] | rw [hf3 _ _ (by unfold FFl; omega)] | rw [up_s] | rw [up_n (by omega)])); omega) (Or.inr (Or.inr (Or.inr (Or.inl ⟨g5, g6, by omega, rfl⟩))))
          | exact hF _ _ (fun a j z9 => by unfold FEx at z9; repeat (first | rw [hf5 a j (by unfold FFl; omega)] | rw [hf4 a j (by unfold FFl; omega)] | rw [hf3 a j (by unfold FFl; omega)] | rw [up_n (by omega)])) (by repeat (first | exact hq5 | exact hq4 | exact hq3 | refine cQ_up ?_ (by unfold FPd; omega))) (by (repeat (first | rw [hf5 _ _ (by unfold FFl; omega)] | rw [hf4 _ _ (by unfold FFl; omega)] | rw [hf3 _ _ (by unfold FFl; omega)] | rw [up_s] | rw [up_n (by omega)])); omega) (by (repeat (first | rw [hf5 _ _ (by unfold FFl; omega)] | rw [hf4 _ _ (by unfold FFl; omega)] | rw [hf3 _ _ (by unfold FFl; omega)] | rw [up_s] | rw [up_n (by omega)])); omega) (Or.inr (Or.inr (Or.inr (Or.inr (⟨g7, by omega, g8, by omega, rfl⟩)))))
    · skip
      conv => whnf
      refine ⟨Nat.le_of_ble_eq_true rfl, Nat.le_of_ble_eq_true rfl, (by first | assumption | rfl), ?_⟩
      refine c_Taddk (by first | exact hq3 | exact hq) (by (repeat (first | rw [hf5 _ _ (by unfold FFl; omega)] | rw [hf4 _ _ (by unfold FFl; omega)] | rw [hf3 _ _ (by unfold FFl; omega)] | rw [up_s] | rw [up_n (by omega)])); omega) (fun hk9 => ?_) (fun hk9 σ4 hf4 hq4 => ?_)
      · skip
        conv => whnf
        refine ⟨Nat.le_of_ble_eq_true rfl, Nat.le_of_ble_eq_true rfl, (by first | assumption | rfl), ?_⟩
        first
        | refine c_Twrite hq4 (m := σ 32 14) (by repeat (first | rw [hf5 _ _ (by unfold FFl; omega)] | rw [hf4 _ _ (by unfold FFl; omega)] | rw [hf3 _ _ (by unfold FFl; omega)] | rw [up_s] | rw [up_n (by omega)])) (by omega) (fun hw9 => ?_) (fun hw9 => ?_)
        | refine c_Twrite (cQ_up hq4 (by unfold FPd; omega)) (m := σ 32 14) (by repeat (first | rw [hf5 _ _ (by unfold FFl; omega)] | rw [hf4 _ _ (by unfold FFl; omega)] | rw [hf3 _ _ (by unfold FFl; omega)] | rw [up_s] | rw [up_n (by omega)])) (by omega) (fun hw9 => ?_) (fun hw9 => ?_)
        | refine c_Twrite (cQ_up hq3 (by unfold FPd; omega)) (m := σ 32 14) (by repeat (first | rw [hf5 _ _ (by unfold FFl; omega)] | rw [hf4 _ _ (by unfold FFl; omega)] | rw [hf3 _ _ (by unfold FFl; omega)] | rw [up_s] | rw [up_n (by omega)])) (by omega) (fun hw9 => ?_) (fun hw9 => ?_)
        | refine c_Twrite (cQ_up hq (by unfold FPd; omega)) (m := σ 32 14) (by repeat (first | rw [hf5 _ _ (by unfold FFl; omega)] | rw [hf4 _ _ (by unfold FFl; omega)] | rw [hf3 _ _ (by unfold FFl; omega)] | rw [up_s] | rw [up_n (by omega)])) (by omega) (fun hw9 => ?_) (fun hw9 => ?_)
        · skip
          conv => whnf
          refine ⟨(by first | assumption | rfl), by omega, ?_⟩
          try simp (disch := omega) only [Int.cast_ofNat_Int, up_s, up_a, up_i, mp_a, mp_ge]
          try simp only [t3]
          try simp only [t4]
          try simp only [e3]
          try simp only [e12]
          conv => whnf
          refine ⟨rfl, ?_⟩
          first
          | (exfalso; omega)
          | exact hS _ (Or.inl ⟨g0, hv9, hk9, rfl⟩) (by repeat (first | exact hq | refine cQ_up ?_ (by unfold FPd; omega)))
          | exact hS _ (Or.inr (Or.inl ⟨g1, g2, hk9, rfl⟩)) (by repeat (first | exact hq | refine cQ_up ?_ (by unfold FPd; omega)))
          | exact hS _ (Or.inr (Or.inr (Or.inl ⟨g3, g4, rfl⟩))) (by repeat (first | exact hq | refine cQ_up ?_ (by unfold FPd; omega)))
          | exact hS _ (Or.inr (Or.inr (Or.inr (⟨g5, g6, hk9, rfl⟩)))) (by repeat (first | exact hq | refine cQ_up ?_ (by unfold FPd; omega)))
          | exact hF _ _ (fun a j z9 => by unfold FEx at z9; repeat (first | rw [hf5 a j (by unfold FFl; omega)] | rw [hf4 a j (by unfold FFl; omega)] | rw [hf3 a j (by unfold FFl; omega)] | rw [up_n (by omega)])) (by repeat (first | exact hq5 | exact hq4 | exact hq3 | refine cQ_up ?_ (by unfold FPd; omega))) (by (repeat (first | rw [hf5 _ _ (by unfold FFl; omega)] | rw [hf4 _ _ (by unfold FFl; omega)] | rw [hf3 _ _ (by unfold FFl; omega)] | rw [up_s] | rw [up_n (by omega)])); omega) (by (repeat (first | rw [hf5 _ _ (by unfold FFl; omega)] | rw [hf4 _ _ (by unfold FFl; omega)] | rw [hf3 _ _ (by unfold FFl; omega)] | rw [up_s] | rw [up_n (by omega)])); omega) (Or.inl ⟨g0, by omega, rfl⟩)
          | exact hF _ _ (fun a j z9 => by unfold FEx at z9; repeat (first | rw [hf5 a j (by unfold FFl; omega)] | rw [hf4 a j (by unfold FFl; omega)] | rw [hf3 a j (by unfold FFl; omega)] | rw [up_n (by omega)])) (by repeat (first | exact hq5 | exact hq4 | exact hq3 | refine cQ_up ?_ (by unfold FPd; omega))) (by (repeat (first | rw [hf5 _ _ (by unfold FFl; omega)] | rw [hf4 _ _ (by unfold FFl; omega)] | rw [hf3 _ _ (by unfold FFl; omega)] | rw [up_s] | rw [up_n (by omega)])); omega) (by (repeat (first | rw [hf5 _ _ (by unfold FFl; omega)] | rw [hf4 _ _ (by unfold FFl; omega)] | rw [hf3 _ _ (by unfold FFl; omega)] | rw [up_s] | rw [up_n (by omega)])); omega) (Or.inr (Or.inl ⟨g1, g2, by omega, rfl⟩))
          | exact hF _ _ (fun a j z9 => by unfold FEx at z9; repeat (first | rw [hf5 a j (by unfold FFl; omega)] | rw [hf4 a j (by unfold FFl; omega)] | rw [hf3 a j (by unfold FFl; omega)] | rw [up_n (by omega)])) (by repeat (first | exact hq5 | exact hq4 | exact hq3 | refine cQ_up ?_ (by unfold FPd; omega))) (by (repeat (first | rw [hf5 _ _ (by unfold FFl; omega)] | rw [hf4 _ _ (by unfold FFl; omega)] | rw [hf3 _ _ (by unfold FFl; omega)] | rw [up_s] | rw [up_n (by omega)])); omega) (by (repeat (first | rw [hf5 _ _ (by unfold FFl; omega)] | rw [hf4 _ _ (by unfold FFl; omega)] | rw [hf3 _ _ (by unfold FFl; omega)] | rw [up_s] | rw [up_n (by omega)])); omega) (Or.inr (Or.inr (Or.inl ⟨g3, by omega, rfl⟩)))
          | exact hF _ _ (fun a j z9 => by unfold FEx at z9; repeat (first | rw [hf5 a j (by unfold FFl; omega)] | rw [hf4 a j (by unfold FFl; omega)] | rw [hf3 a j (by unfold FFl; omega)] | rw [up_n (by omega)])) (by repeat (first | exact hq5 | exact hq4 | exact hq3 | refine cQ_up ?_ (by unfold FPd; omega))) (by (repeat (first | rw [hf5 _ _ (by unfold FFl; omega)] | rw [hf4 _ _ (by unfold FFl; omega)] | rw [hf3 _ _ (by unfold FFl; omega)] | rw [up_s] | rw [up_n (by omega)])); omega) (by (repeat (first | rw [hf5 _ _ (by unfold FFl; omega)] | rw [hf4 _ _ (by unfold FFl; omega)] | rw [hf3 _ _ (by unfold FFl; omega)] | rw [up_s] | rw [up_n (by omega)])); omega) (Or.inr (Or.inr (Or.inr (Or.inl ⟨g5, g6, by omega, rfl⟩))))
          | exact hF _ _ (fun a j z9 => by unfold FEx at z9; repeat (first | rw [hf5 a j (by unfold FFl; omega)] | rw [hf4 a j (by unfold FFl; omega)] | rw [hf3 a j (by unfold FFl; omega)] | rw [up_n (by omega)])) (by repeat (first | exact hq5 | exact hq4 | exact hq3 | refine cQ_up ?_ (by unfold FPd; omega))) (by (repeat (first | rw [hf5 _ _ (by unfold FFl; omega)] | rw [hf4 _ _ (by unfold FFl; omega)] | rw [hf3 _ _ (by unfold FFl; omega)] | rw [up_s] | rw [up_n (by omega)])); omega) (by (repeat (first | rw [hf5 _ _ (by unfold FFl; omega)] | rw [hf4 _ _ (by unfold FFl; omega)] | rw [hf3 _ _ (by unfold FFl; omega)] | rw [up_s] | rw [up_n (by omega)])); omega) (Or.inr (Or.inr (Or.inr (Or.inr (⟨g7, by omega, g8, by omega, rfl⟩)))))
        · skip
          conv => whnf
          refine ⟨(by first | assumption | rfl), by omega, ?_⟩
          try simp (disch := omega) only [Int.cast_ofNat_Int, up_s, up_a, up_i, mp_a, mp_ge]
          try simp only [t3]
          try simp only [t4]
          try simp only [e3]
          try simp only [e12]
          conv => whnf
          refine ⟨rfl, ?_⟩
          first
          | (exfalso; omega)
          | exact hS _ (Or.inl ⟨g0, hv9, hk9, rfl⟩) (by repeat (first | exact hq | refine cQ_up ?_ (by unfold FPd; omega)))
          | exact hS _ (Or.inr (Or.inl ⟨g1, g2, hk9, rfl⟩)) (by repeat (first | exact hq | refine cQ_up ?_ (by unfold FPd; omega)))
          | exact hS _ (Or.inr (Or.inr (Or.inl ⟨g3, g4, rfl⟩))) (by repeat (first | exact hq | refine cQ_up ?_ (by unfold FPd; omega)))
          | exact hS _ (Or.inr (Or.inr (Or.inr (⟨g5, g6, hk9, rfl⟩)))) (by repeat (first | exact hq | refine cQ_up ?_ (by unfold FPd; omega)))
          | exact hF _ _ (fun a j z9 => by unfold FEx at z9; repeat (first | rw [hf5 a j (by unfold FFl; omega)] | rw [hf4 a j (by unfold FFl; omega)] | rw [hf3 a j (by unfold FFl; omega)] | rw [up_n (by omega)])) (by repeat (first | exact hq5 | exact hq4 | exact hq3 | refine cQ_up ?_ (by unfold FPd; omega))) (by (repeat (first | rw [hf5 _ _ (by unfold FFl; omega)] | rw [hf4 _ _ (by unfold FFl; omega)] | rw [hf3 _ _ (by unfold FFl; omega)] | rw [up_s] | rw [up_n (by omega)])); omega) (by (repeat (first | rw [hf5 _ _ (by unfold FFl; omega)] | rw [hf4 _ _ (by unfold FFl; omega)] | rw [hf3 _ _ (by unfold FFl; omega)] | rw [up_s] | rw [up_n (by omega)])); omega) (Or.inl ⟨g0, by omega, rfl⟩)
          | exact hF _ _ (fun a j z9 => by unfold FEx at z9; repeat (first | rw [hf5 a j (by unfold FFl; omega)] | rw [hf4 a j (by unfold FFl; omega)] | rw [hf3 a j (by unfold FFl; omega)] | rw [up_n (by omega)])) (by repeat (first | exact hq5 | exact hq4 | exact hq3 | refine cQ_up ?_ (by unfold FPd; omega))) (by (repeat (first | rw [hf5 _ _ (by unfold FFl; omega)] | rw [hf4 _ _ (by unfold FFl; omega)] | rw [hf3 _ _ (by unfold FFl; omega)] | rw [up_s] | rw [up_n (by omega)])); omega) (by (repeat (first | rw [hf5 _ _ (by unfold FFl; omega)] | rw [hf4 _ _ (by unfold FFl; omega)] | rw [hf3 _ _ (by unfold FFl; omega)] | rw [up_s] | rw [up_n (by omega)])); omega) (Or.inr (Or.inl ⟨g1, g2, by omega, rfl⟩))
          | exact hF _ _ (fun a j z9 => by unfold FEx at z9; repeat (first | rw [hf5 a j (by unfold FFl; omega)] | rw [hf4 a j (by unfold FFl; omega)] | rw [hf3 a j (by unfold FFl; omega)] | rw [up_n (by omega)])) (by repeat (first | exact hq5 | exact hq4 | exact hq3 | refine cQ_up ?_ (by unfold FPd; omega))) (by (repeat (first | rw [hf5 _ _ (by unfold FFl; omega)] | rw [hf4 _ _ (by unfold FFl; omega)] | rw [hf3 _ _ (by unfold FFl; omega)] | rw [up_s] | rw [up_n (by omega)])); omega) (by (repeat (first | rw [hf5 _ _ (by unfold FFl; omega)] | rw [hf4 _ _ (by unfold FFl; omega)] | rw [hf3 _ _ (by unfold FFl; omega)] | rw [up_s] | rw [up_n (by omega)])); omega) (Or.inr (Or.inr (Or.inl ⟨g3, by omega, rfl⟩)))
          | exact hF _ _ (fun a j z9 => by unfold FEx at z9; repeat (first | rw [hf5 a j (by unfold FFl; omega)] | rw [hf4 a j (by unfold FFl; omega)] | rw [hf3 a j (by unfold FFl; omega)] | rw [up_n (by omega)])) (by repeat (first | exact hq5 | exact hq4 | exact hq3 | refine cQ_up ?_ (by unfold FPd; omega))) (by (repeat (first | rw [hf5 _ _ (by unfold FFl; omega)] | rw [hf4 _ _ (by unfold FFl; omega)] | rw [hf3 _ _ (by unfold FFl; omega)] | rw [up_s] | rw [up_n (by omega)])); omega) (by (repeat (first | rw [hf5 _ _ (by unfold FFl; omega)] | rw [hf4 _ _ (by unfold FFl; omega)] | rw [hf3 _ _ (by unfold FFl; omega)] | rw [up_s] | rw [up_n (by omega)])); omega) (Or.inr (Or.inr (Or.inr (Or.inl ⟨g5, g6, by omega, rfl⟩))))
          | exact hF _ _ (fun a j z9 => by unfold FEx at z9; repeat (first | rw [hf5 a j (by unfold FFl; omega)] | rw [hf4 a j (by unfold FFl; omega)] | rw [hf3 a j (by unfold FFl; omega)] | rw [up_n (by omega)])) (by repeat (first | exact hq5 | exact hq4 | exact hq3 | refine cQ_up ?_ (by unfold FPd; omega))) (by (repeat (first | rw [hf5 _ _ (by unfold FFl; omega)] | rw [hf4 _ _ (by unfold FFl; omega)] | rw [hf3 _ _ (by unfold FFl; omega)] | rw [up_s] | rw [up_n (by omega)])); omega) (by (repeat (first | rw [hf5 _ _ (by unfold FFl; omega)] | rw [hf4 _ _ (by unfold FFl; omega)] | rw [hf3 _ _ (by unfold FFl; omega)] | rw [up_s] | rw [up_n (by omega)])); omega) (Or.inr (Or.inr (Or.inr (Or.inr (⟨g7, by omega, g8, by omega, rfl⟩)))))
      · skip
        conv => whnf
        refine ⟨Nat.le_of_ble_eq_true rfl, Nat.le_of_ble_eq_true rfl, (by first | assumption | rfl), ?_⟩
        first
        | refine c_Twrite hq4 (m := σ 32 14) (by repeat (first | rw [hf5 _ _ (by unfold FFl; omega)] | rw [hf4 _ _ (by unfold FFl; omega)] | rw [hf3 _ _ (by unfold FFl; omega)] | rw [up_s] | rw [up_n (by omega)])) (by omega) (fun hw9 => ?_) (fun hw9 => ?_)
        | refine c_Twrite (cQ_up hq4 (by unfold FPd; omega)) (m := σ 32 14) (by repeat (first | rw [hf5 _ _ (by unfold FFl; omega)] | rw [hf4 _ _ (by unfold FFl; omega)] | rw [hf3 _ _ (by unfold FFl; omega)] | rw [up_s] | rw [up_n (by omega)])) (by omega) (fun hw9 => ?_) (fun hw9 => ?_)
        | refine c_Twrite (cQ_up hq3 (by unfold FPd; omega)) (m := σ 32 14) (by repeat (first | rw [hf5 _ _ (by unfold FFl; omega)] | rw [hf4 _ _ (by unfold FFl; omega)] | rw [hf3 _ _ (by unfold FFl; omega)] | rw [up_s] | rw [up_n (by omega)])) (by omega) (fun hw9 => ?_) (fun hw9 => ?_)
        | refine c_Twrite (cQ_up hq (by unfold FPd; omega)) (m := σ 32 14) (by repeat (first | rw [hf5 _ _ (by unfold FFl; omega)] | rw [hf4 _ _ (by unfold FFl; omega)] | rw [hf3 _ _ (by unfold FFl; omega)] | rw [up_s] | rw [up_n (by omega)])) (by omega) (fun hw9 => ?_) (fun hw9 => ?_)
        · skip
          conv => whnf
          refine ⟨(by first | assumption | rfl), by omega, ?_⟩
          try simp (disch := omega) only [Int.cast_ofNat_Int, up_s, up_a, up_i, mp_a, mp_ge]
          try simp only [t3]
          try simp only [t4]
          try simp only [e3]
          try simp only [e12]
          conv => whnf
          refine ⟨rfl, ?_⟩
          first
          | (exfalso; omega)
          | exact hS _ (Or.inl ⟨g0, hv9, hk9, rfl⟩) (by repeat (first | exact hq | refine cQ_up ?_ (by unfold FPd; omega)))
          | exact hS _ (Or.inr (Or.inl ⟨g1, g2, hk9, rfl⟩)) (by repeat (first | exact hq | refine cQ_up ?_ (by unfold FPd; omega)))
          | exact hS _ (Or.inr (Or.inr (Or.inl ⟨g3, g4, rfl⟩))) (by repeat (first | exact hq | refine cQ_up ?_ (by unfold FPd; omega)))
          | exact hS _ (Or.inr (Or.inr (Or.inr (⟨g5, g6, hk9, rfl⟩)))) (by repeat (first | exact hq | refine cQ_up ?_ (by unfold FPd; omega)))
          | exact hF _ _ (fun a j z9 => by unfold FEx at z9; repeat (first | rw [hf5 a j (by unfold FFl; omega)] | rw [hf4 a j (by unfold FFl; omega)] | rw [hf3 a j (by unfold FFl; omega)] | rw [up_n (by omega)])) (by repeat (first | exact hq5 | exact hq4 | exact hq3 | refine cQ_up ?_ (by unfold FPd; omega))) (by (repeat (first | rw [hf5 _ _ (by unfold FFl; omega)] | rw [hf4 _ _ (by unfold FFl; omega)] | rw [hf3 _ _ (by unfold FFl; omega)] | rw [up_s] | rw [up_n (by omega)])); omega) (by (repeat (first | rw [hf5 _ _ (by unfold FFl; omega)] | rw [hf4 _ _ (by unfold FFl; omega)] | rw [hf3 _ _ (by unfold FFl; omega)] | rw [up_s] | rw [up_n (by omega)])); omega) (Or.inl ⟨g0, by omega, rfl⟩)
          | exact hF _ _ (fun a j z9 => by unfold FEx at z9; repeat (first | rw [hf5 a j (by unfold FFl; omega)] | rw [hf4 a j (by unfold FFl; omega)] | rw [hf3 a j (by unfold FFl; omega)] | rw [up_n (by omega)])) (by repeat (first | exact hq5 | exact hq4 | exact hq3 | refine cQ_up ?_ (by unfold FPd; omega))) (by (repeat (first | rw [hf5 _ _ (by unfold FFl; omega)] | rw [hf4 _ _ (by unfold FFl; omega)] | rw [hf3 _ _ (by unfold FFl; omega)] | rw [up_s] | rw [up_n (by omega)])); omega) (by (repeat (first | rw [hf5 _ _ (by unfold FFl; omega)] | rw [hf4 _ _ (by unfold FFl; omega)] | rw [hf3 _ _ (by unfold FFl; omega)] | rw [up_s] | rw [up_n (by omega)])); omega) (Or.inr (Or.inl ⟨g1, g2, by omega, rfl⟩))
          | exact hF _ _ (fun a j z9 => by unfold FEx at z9; repeat (first | rw [hf5 a j (by unfold FFl; omega)] | rw [hf4 a j (by unfold FFl; omega)] | rw [hf3 a j (by unfold FFl; omega)] | rw [up_n (by omega)])) (by repeat (first | exact hq5 | exact hq4 | exact hq3 | refine cQ_up ?_ (by unfold FPd; omega))) (by (repeat (first | rw [hf5 _ _ (by unfold FFl; omega)] | rw [hf4 _ _ (by unfold FFl; omega)] | rw [hf3 _ _ (by unfold FFl; omega)] | rw [up_s] | rw [up_n (by omega)])); omega) (by (repeat (first | rw [hf5 _ _ (by unfold FFl; omega)] | rw [hf4 _ _ (by unfold FFl; omega)] | rw [hf3 _ _ (by unfold FFl; omega)] | rw [up_s] | rw [up_n (by omega)])); omega) (Or.inr (Or.inr (Or.inl ⟨g3, by omega, rfl⟩)))
          | exact hF _ _ (fun a j z9 => by unfold FEx at z9; repeat (first | rw [hf5 a j (by unfold FFl; omega)] | rw [hf4 a j (by unfold FFl; omega)] | rw [hf3 a j (by unfold FFl; omega)] | rw [up_n (by omega)])) (by repeat (first | exact hq5 | exact hq4 | exact hq3 | refine cQ_up ?_ (by unfold FPd; omega))) (by (repeat (first | rw [hf5 _ _ (by unfold FFl; omega)] | rw [hf4 _ _ (by unfold FFl; omega)] | rw [hf3 _ _ (by unfold FFl; omega)] | rw [up_s] | rw [up_n (by omega)])); omega) (by (repeat (first | rw [hf5 _ _ (by unfold FFl; omega)] | rw [hf4 _ _ (by unfold FFl; omega)] | rw [hf3 _ _ (by unfold FFl; omega)] | rw [up_s] | rw [up_n (by omega)])); omega) (Or.inr (Or.inr (Or.inr (Or.inl ⟨g5, g6, by omega, rfl⟩))))
          | exact hF _ _ (fun a j z9 => by unfold FEx at z9; repeat (first | rw [hf5 a j (by unfold FFl; omega)] | rw [hf4 a j (by unfold FFl; omega)] | rw [hf3 a j (by unfold FFl; omega)] | rw [up_n (by omega)])) (by repeat (first | exact hq5 | exact hq4 | exact hq3 | refine cQ_up ?_ (by unfold FPd; omega))) (by (repeat (first | rw [hf5 _ _ (by unfold FFl; omega)] | rw [hf4 _ _ (by unfold FFl; omega)] | rw [hf3 _ _ (by unfold FFl; omega)] | rw [up_s] | rw [up_n (by omega)])); omega) (by (repeat (first | rw [hf5 _ _ (by unfold FFl; omega)] | rw [hf4 _ _ (by unfold FFl; omega)] | rw [hf3 _ _ (by unfold FFl; omega)] | rw [up_s] | rw [up_n (by omega)])); omega) (Or.inr (Or.inr (Or.inr (Or.inr (⟨g7, by omega, g8, by omega, rfl⟩)))))
        · skip
          conv => whnf
          refine ⟨(by first | assumption | rfl), by omega, ?_⟩
          try simp (disch := omega) only [Int.cast_ofNat_Int, up_s, up_a, up_i, mp_a, mp_ge]
          try simp only [t3]
          try simp only [t4]
          try simp only [e3]
          try simp only [e12]
          conv => whnf
          refine ⟨rfl, ?_⟩
          first
          | (exfalso; omega)
          | exact hS _ (Or.inl ⟨g0, hv9, hk9, rfl⟩) (by repeat (first | exact hq | refine cQ_up ?_ (by unfold FPd; omega)))
          | exact hS _ (Or.inr (Or.inl ⟨g1, g2, hk9, rfl⟩)) (by repeat (first | exact hq | refine cQ_up ?_ (by unfold FPd; omega)))
          | exact hS _ (Or.inr (Or.inr (Or.inl ⟨g3, g4, rfl⟩))) (by repeat (first | exact hq | refine cQ_up ?_ (by unfold FPd; omega)))
          | exact hS _ (Or.inr (Or.inr (Or.inr (⟨g5, g6, hk9, rfl⟩)))) (by repeat (first | exact hq | refine cQ_up ?_ (by unfold FPd; omega)))
          | exact hF _ _ (fun a j z9 => by unfold FEx at z9; repeat (first | rw [hf5 a j (by unfold FFl; omega)] | rw [hf4 a j (by unfold FFl; omega)] | rw [hf3 a j (by unfold FFl; omega)] | rw [up_n (by omega)])) (by repeat (first | exact hq5 | exact hq4 | exact hq3 | refine cQ_up ?_ (by unfold FPd; omega))) (by (repeat (first | rw [hf5 _ _ (by unfold FFl; omega)] | rw [hf4 _ _ (by unfold FFl; omega)] | rw [hf3 _ _ (by unfold FFl; omega)] | rw [up_s] | rw [up_n (by omega)])); omega) (by (repeat (first | rw [hf5 _ _ (by unfold FFl; omega)] | rw [hf4 _ _ (by unfold FFl; omega)] | rw [hf3 _ _ (by unfold FFl; omega)] | rw [up_s] | rw [up_n (by omega)])); omega) (Or.inl ⟨g0, by omega, rfl⟩)
          | exact hF _ _ (fun a j z9 => by unfold FEx at z9; repeat (first | rw [hf5 a j (by unfold FFl; omega)] | rw [hf4 a j (by unfold FFl; omega)] | rw [hf3 a j (by unfold FFl; omega)] | rw [up_n (by omega)])) (by repeat (first | exact hq5 | exact hq4 | exact hq3 | refine cQ_up ?_ (by unfold FPd; omega))) (by (repeat (first | rw [hf5 _ _ (by unfold FFl; omega)] | rw [hf4 _ _ (by unfold FFl; omega)] | rw [hf3 _ _ (by unfold FFl; omega)] | rw [up_s] | rw [up_n (by omega)])); omega) (by (repeat (first | rw [hf5 _ _ (by unfold FFl; omega)] | rw [hf4 _ _ (by unfold FFl; omega)] | rw [hf3 _ _ (by unfold FFl; omega)] | rw [up_s] | rw [up_n (by omega)])); omega) (Or.inr (Or.inl ⟨g1, g2, by omega, rfl⟩))
          | exact hF _ _ (fun a j z9 => by unfold FEx at z9; repeat (first | rw [hf5 a j (by unfold FFl; omega)] | rw [hf4 a j (by unfold FFl; omega)] | rw [hf3 a j (by unfold FFl; omega)] | rw [up_n (by omega)])) (by repeat (first | exact hq5 | exact hq4 | exact hq3 | refine cQ_up ?_ (by unfold FPd; omega))) (by (repeat (first | rw [hf5 _ _ (by unfold FFl; omega)] | rw [hf4 _ _ (by unfold FFl; omega)] | rw [hf3 _ _ (by unfold FFl; omega)] | rw [up_s] | rw [up_n (by omega)])); omega) (by (repeat (first | rw [hf5 _ _ (by unfold FFl; omega)] | rw [hf4 _ _ (by unfold FFl; omega)] | rw [hf3 _ _ (by unfold FFl; omega)] | rw [up_s] | rw [up_n (by omega)])); omega) (Or.inr (Or.inr (Or.inl ⟨g3, by omega, rfl⟩)))
          | exact hF _ _ (fun a j z9 => by unfold FEx at z9; repeat (first | rw [hf5 a j (by unfold FFl; omega)] | rw [hf4 a j (by unfold FFl; omega)] | rw [hf3 a j (by unfold FFl; omega)] | rw [up_n (by omega)])) (by repeat (first | exact hq5 | exact hq4 | exact hq3 | refine cQ_up ?_ (by unfold FPd; omega))) (by (repeat (first | rw [hf5 _ _ (by unfold FFl; omega)] | rw [hf4 _ _ (by unfold FFl; omega)] | rw [hf3 _ _ (by unfold FFl; omega)] | rw [up_s] | rw [up_n (by omega)])); omega) (by (repeat (first | rw [hf5 _ _ (by unfold FFl; omega)] | rw [hf4 _ _ (by unfold FFl; omega)] | rw [hf3 _ _ (by unfold FFl; omega)] | rw [up_s] | rw [up_n (by omega)])); omega) (Or.inr (Or.inr (Or.inr (Or.inl ⟨g5, g6, by omega, rfl⟩))))
          | exact hF _ _ (fun a j z9 => by unfold FEx at z9; repeat (first | rw [hf5 a j (by unfold FFl; omega)] | rw [hf4 a j (by unfold FFl; omega)] | rw [hf3 a j (by unfold FFl; omega)] | rw [up_n (by omega)])) (by repeat (first | exact hq5 | exact hq4 | exact hq3 | refine cQ_up ?_ (by unfold FPd; omega))) (by (repeat (first | rw [hf5 _ _ (by unfold FFl; omega)] | rw [hf4 _ _ (by unfold FFl; omega)] | rw [hf3 _ _ (by unfold FFl; omega)] | rw [up_s] | rw [up_n (by omega)])); omega) (by (repeat (first | rw [hf5 _ _ (by unfold FFl; omega)] | rw [hf4 _ _ (by unfold FFl; omega)] | rw [hf3 _ _ (by unfold FFl; omega)] | rw [up_s] | rw [up_n (by omega)])); omega) (Or.inr (Or.inr (Or.inr (Or.inr (⟨g7, by omega, g8, by omega, rfl⟩)))))
theorem fR5_4 {r : Int} (h : r = 4) : fR5 r = r + 1 := by unfold fR5; rw [if_pos h, h]; rfl
theorem fR5_n {r : Int} (h : ¬ r = 4) : fR5 r = r := if_neg h
theorem rel_pos {s1 : sx_S} {m : Int} (hI : eInv p σ) (hr : pRel p 1 σ s1 m) (h : 0 < σ 32 12) : 1 ≤ s1 32 11 := by
  obtain ⟨z0, z1, z2, z3, z4, z5, z6, z7⟩ := hI
  obtain ⟨r0, r1, r2, r3, r4, r5, r6⟩ := hr
  by_cases e : m = σ 32 11
  · exfalso
    have h0 := fOpn_0 (row := σ 36) (σ 32 11).toNat (fun j y0 y1 z => by
      have h1 := r3 j (by omega) (by omega)
      rw [z, show fRk 23 = 0 from rfl] at h1
      omega)
    omega
  · omega
set_option maxRecDepth 20000 in
theorem c_Topt (hq : cQ p σ tx n9 i none) (hI : eInv p σ) (hF : ∀ (σ' : sx_S) (k : Int), fr (FEx p) σ σ' → cQ p σ' tx n9 i (some (k, kS tx n9 i)) → (0 ≤ σ' 32 11 ∧ σ' 32 11 ≤ 72) → (0 ≤ σ' 32 14 ∧ σ' 32 14 ≤ 64) → zOptF p σ (kT tx n9 i) k → Q none shM σ') (hS : ∀ (σ' : sx_S), zOpt p σ σ' (kT tx n9 i) → cQ p σ' tx n9 i none → Q none shM σ') : sx_Run X 115 [.inr (.inr 32)] shM σ Q := by
  have hp : 2 ≤ p ∧ p ≤ 17 := by rcases hq.ip with rfl | rfl <;> decide
  have k0 := lkP0 hq.1
  have t3 := pt_32_3 hq.pt
  have t4 := hq.ep
  have e3 := hq.tk.2.1
  obtain ⟨z0, z1, z2, z3, z4, z5, z6, z7⟩ := hI
  have hI : eInv p σ := ⟨z0, z1, z2, z3, z4, z5, z6, z7⟩
  have zo := fOpn_bd (row := σ 36) (σ 32 11).toNat
  refine sx_rule0 (own := 10) (cd := kX10_takeOperator) (nL := 3) (by decide +kernel) (by decide +kernel) kX10_takeOperator_ok (by decide +kernel) (Nat.le_of_ble_eq_true rfl) 40 ?_
  conv => whnf
  refine ⟨(by first | assumption | rfl), ?_⟩
  try simp (disch := omega) only [Int.cast_ofNat_Int, up_s, up_a, up_i, mp_a, mp_ge]
  try simp only [t3]
  try simp only [t4]
  try simp only [e3]
  try simp only [e12]
  conv => whnf
  refine ⟨(by first | assumption | rfl), ?_⟩
  try simp (disch := omega) only [Int.cast_ofNat_Int, up_s, up_a, up_i, mp_a, mp_ge]
  try simp only [t3]
  try simp only [t4]
  try simp only [e3]
  try simp only [e12]
  conv => whnf
  refine ⟨fun g => ?_, fun g => ?_⟩
  · simp only [sx_cc, Classical.not_not] at g
    conv => whnf
    refine ⟨Nat.le_of_ble_eq_true rfl, Nat.le_of_ble_eq_true rfl, ?_⟩
    refine c_Trank ?_
    conv => whnf
    refine ⟨fun g => ?_, fun g => ?_⟩
    · simp only [sx_cc, Classical.not_not] at g
      conv => whnf
      refine ⟨Nat.le_of_ble_eq_true rfl, Nat.le_of_ble_eq_true rfl, (by first | assumption | rfl), ?_⟩
      refine c_Tfail hq (by decide) (fun σ5 hf5 hq5 => ?_)
      conv => whnf
      refine ⟨rfl, ?_⟩
      exact hF _ _ (fun a j z9 => hf5 a j (by unfold FEx at z9; unfold FFl; omega)) hq5 (by (repeat (first | rw [hf5 _ _ (by unfold FFl; omega)] | rw [hf4 _ _ (by unfold FFl; omega)] | rw [up_s] | rw [up_n (by omega)])); omega) (by (repeat (first | rw [hf5 _ _ (by unfold FFl; omega)] | rw [hf4 _ _ (by unfold FFl; omega)] | rw [up_s] | rw [up_n (by omega)])); omega) (Or.inl ⟨by omega, by omega, rfl⟩)
    · simp only [sx_cc, Classical.not_not] at g
      conv => whnf
      refine ⟨fun g => ?_, fun g => ?_⟩
      · simp only [sx_cc, Classical.not_not] at g
        conv => whnf
        refine ⟨fun g => ?_, fun g => ?_⟩
        · simp only [sx_cc, Classical.not_not] at g
          have g4 := g
          conv => whnf
          refine ⟨Nat.le_of_ble_eq_true rfl, Nat.le_of_ble_eq_true rfl, (by first | assumption | rfl), ?_⟩
          refine c_Trel hq (by omega) (by omega) (by omega) (fun σ3 m hr => ?_)
          have hr : pRel p (fR5 (fRk (kT tx n9 i))) σ σ3 m := by first | (rw [fR5_4 (by omega)]; exact hr) | (rw [fR5_n (by omega)]; exact hr)
          have hq3 : cQ p σ3 tx n9 i none := cQ_of hq (fun a j z9 => hr.2.1 a j (by unfold FPd at z9; unfold FRl; omega))
          have hrx := hr
          obtain ⟨r0, hfr, r2, r3, r4, r5, r6⟩ := hrx
          have hfr : ∀ a j : Int, ¬ ((a = 32 ∧ (j = 11 ∨ j = 14)) ∨ (a = p + 11 ∧ σ 32 14 ≤ j) ∨ (a = p + 12 ∧ σ 32 14 ≤ j)) → σ3 a j = σ a j := hfr
          have e12 : σ3 32 12 = σ 32 12 := hfr _ _ (by omega)
          have e14 : σ3 p 14 = σ p 14 := hfr _ _ (by omega)
          conv => whnf
          refine ⟨fun g => ?_, fun g => ?_⟩
          · simp only [sx_cc, Classical.not_not] at g
            conv => whnf
            refine ⟨Nat.le_of_ble_eq_true rfl, Nat.le_of_ble_eq_true rfl, (by first | assumption | rfl), ?_⟩
            first
            | refine c_Taddk hq4 (by (repeat (first | rw [hf5 _ _ (by unfold FFl; omega)] | rw [hf4 _ _ (by unfold FFl; omega)] | rw [up_s] | rw [up_n (by omega)])); omega) (fun hk9 => ?_) (fun hk9 σ5 hf5 hq5 => ?_)
            | refine c_Taddk hq3 (by omega) (fun hk9 => ?_) (fun hk9 σ5 hf5 hq5 => ?_)
            · skip
              conv => whnf
              refine ⟨Nat.le_of_ble_eq_true rfl, Nat.le_of_ble_eq_true rfl, (by first | assumption | rfl), ?_⟩
              first
              | refine c_Thold hq5 (n := σ3 32 11) (by repeat (first | rw [hf5 _ _ (by unfold FFl; omega)] | rw [hf4 _ _ (by unfold FFl; omega)] | rw [up_s] | rw [up_n (by omega)])) (by omega) (fun hw9 => ?_) (fun hw9 => ?_)
              | refine c_Thold (cQ_up hq4 (by unfold FPd; omega)) (n := σ3 32 11) (by repeat (first | rw [hf5 _ _ (by unfold FFl; omega)] | rw [hf4 _ _ (by unfold FFl; omega)] | rw [up_s] | rw [up_n (by omega)])) (by omega) (fun hw9 => ?_) (fun hw9 => ?_)
              | refine c_Thold (cQ_up hq3 (by unfold FPd; omega)) (n := σ3 32 11) (by repeat (first | rw [hf5 _ _ (by unfold FFl; omega)] | rw [hf4 _ _ (by unfold FFl; omega)] | rw [up_s] | rw [up_n (by omega)])) (by omega) (fun hw9 => ?_) (fun hw9 => ?_)
              · skip
                conv => whnf
                refine ⟨(by first | assumption | rfl), by omega, ?_⟩
                try simp (disch := omega) only [Int.cast_ofNat_Int, up_s, up_a, up_i, mp_a, mp_ge]
                try simp only [t3]
                try simp only [t4]
                try simp only [e3]
                try simp only [e12]
                conv => whnf
                refine ⟨rfl, ?_⟩
                first
                | (exfalso; omega)
                | exact hS _ (Or.inr ⟨by omega, by omega, σ3, m, hr, by omega, by omega, rfl⟩) (by repeat (first | exact hq3 | refine cQ_up ?_ (by unfold FPd; omega)))
                | exact hF _ _ (fun a j z9 => by unfold FEx at z9; (repeat (first | rw [hf5 a j (by unfold FFl; omega)] | rw [hf4 a j (by unfold FFl; omega)] | rw [up_n (by omega)])); exact hfr a j (by omega)) (by repeat (first | exact hq5 | exact hq4 | refine cQ_up ?_ (by unfold FPd; omega))) (by (repeat (first | rw [hf5 _ _ (by unfold FFl; omega)] | rw [hf4 _ _ (by unfold FFl; omega)] | rw [up_s] | rw [up_n (by omega)])); omega) (by (repeat (first | rw [hf5 _ _ (by unfold FFl; omega)] | rw [hf4 _ _ (by unfold FFl; omega)] | rw [up_s] | rw [up_n (by omega)])); omega) (Or.inr ⟨by omega, by omega, σ3, m, hr, Or.inl ⟨by omega, by omega, rfl⟩⟩)
                | exact hF _ _ (fun a j z9 => by unfold FEx at z9; (repeat (first | rw [hf5 a j (by unfold FFl; omega)] | rw [hf4 a j (by unfold FFl; omega)] | rw [up_n (by omega)])); exact hfr a j (by omega)) (by repeat (first | exact hq5 | exact hq4 | refine cQ_up ?_ (by unfold FPd; omega))) (by (repeat (first | rw [hf5 _ _ (by unfold FFl; omega)] | rw [hf4 _ _ (by unfold FFl; omega)] | rw [up_s] | rw [up_n (by omega)])); omega) (by (repeat (first | rw [hf5 _ _ (by unfold FFl; omega)] | rw [hf4 _ _ (by unfold FFl; omega)] | rw [up_s] | rw [up_n (by omega)])); omega) (Or.inr ⟨by omega, by omega, σ3, m, hr, Or.inr ⟨by omega, by omega, rfl⟩⟩)
              · skip
                conv => whnf
                refine ⟨(by first | assumption | rfl), by omega, ?_⟩
                try simp (disch := omega) only [Int.cast_ofNat_Int, up_s, up_a, up_i, mp_a, mp_ge]
                try simp only [t3]
                try simp only [t4]
                try simp only [e3]
                try simp only [e12]
                conv => whnf
                refine ⟨rfl, ?_⟩
                first
                | (exfalso; omega)
                | exact hS _ (Or.inr ⟨by omega, by omega, σ3, m, hr, by omega, by omega, rfl⟩) (by repeat (first | exact hq3 | refine cQ_up ?_ (by unfold FPd; omega)))
                | exact hF _ _ (fun a j z9 => by unfold FEx at z9; (repeat (first | rw [hf5 a j (by unfold FFl; omega)] | rw [hf4 a j (by unfold FFl; omega)] | rw [up_n (by omega)])); exact hfr a j (by omega)) (by repeat (first | exact hq5 | exact hq4 | refine cQ_up ?_ (by unfold FPd; omega))) (by (repeat (first | rw [hf5 _ _ (by unfold FFl; omega)] | rw [hf4 _ _ (by unfold FFl; omega)] | rw [up_s] | rw [up_n (by omega)])); omega) (by (repeat (first | rw [hf5 _ _ (by unfold FFl; omega)] | rw [hf4 _ _ (by unfold FFl; omega)] | rw [up_s] | rw [up_n (by omega)])); omega) (Or.inr ⟨by omega, by omega, σ3, m, hr, Or.inl ⟨by omega, by omega, rfl⟩⟩)
                | exact hF _ _ (fun a j z9 => by unfold FEx at z9; (repeat (first | rw [hf5 a j (by unfold FFl; omega)] | rw [hf4 a j (by unfold FFl; omega)] | rw [up_n (by omega)])); exact hfr a j (by omega)) (by repeat (first | exact hq5 | exact hq4 | refine cQ_up ?_ (by unfold FPd; omega))) (by (repeat (first | rw [hf5 _ _ (by unfold FFl; omega)] | rw [hf4 _ _ (by unfold FFl; omega)] | rw [up_s] | rw [up_n (by omega)])); omega) (by (repeat (first | rw [hf5 _ _ (by unfold FFl; omega)] | rw [hf4 _ _ (by unfold FFl; omega)] | rw [up_s] | rw [up_n (by omega)])); omega) (Or.inr ⟨by omega, by omega, σ3, m, hr, Or.inr ⟨by omega, by omega, rfl⟩⟩)
            · skip
              conv => whnf
              refine ⟨Nat.le_of_ble_eq_true rfl, Nat.le_of_ble_eq_true rfl, (by first | assumption | rfl), ?_⟩
              first
              | refine c_Thold hq5 (n := σ3 32 11) (by repeat (first | rw [hf5 _ _ (by unfold FFl; omega)] | rw [hf4 _ _ (by unfold FFl; omega)] | rw [up_s] | rw [up_n (by omega)])) (by omega) (fun hw9 => ?_) (fun hw9 => ?_)
              | refine c_Thold (cQ_up hq4 (by unfold FPd; omega)) (n := σ3 32 11) (by repeat (first | rw [hf5 _ _ (by unfold FFl; omega)] | rw [hf4 _ _ (by unfold FFl; omega)] | rw [up_s] | rw [up_n (by omega)])) (by omega) (fun hw9 => ?_) (fun hw9 => ?_)
              | refine c_Thold (cQ_up hq3 (by unfold FPd; omega)) (n := σ3 32 11) (by repeat (first | rw [hf5 _ _ (by unfold FFl; omega)] | rw [hf4 _ _ (by unfold FFl; omega)] | rw [up_s] | rw [up_n (by omega)])) (by omega) (fun hw9 => ?_) (fun hw9 => ?_)
              · skip
                conv => whnf
                refine ⟨(by first | assumption | rfl), by omega, ?_⟩
                try simp (disch := omega) only [Int.cast_ofNat_Int, up_s, up_a, up_i, mp_a, mp_ge]
                try simp only [t3]
                try simp only [t4]
                try simp only [e3]
                try simp only [e12]
                conv => whnf
                refine ⟨rfl, ?_⟩
                first
                | (exfalso; omega)
                | exact hS _ (Or.inr ⟨by omega, by omega, σ3, m, hr, by omega, by omega, rfl⟩) (by repeat (first | exact hq3 | refine cQ_up ?_ (by unfold FPd; omega)))
                | exact hF _ _ (fun a j z9 => by unfold FEx at z9; (repeat (first | rw [hf5 a j (by unfold FFl; omega)] | rw [hf4 a j (by unfold FFl; omega)] | rw [up_n (by omega)])); exact hfr a j (by omega)) (by repeat (first | exact hq5 | exact hq4 | refine cQ_up ?_ (by unfold FPd; omega))) (by (repeat (first | rw [hf5 _ _ (by unfold FFl; omega)] | rw [hf4 _ _ (by unfold FFl; omega)] | rw [up_s] | rw [up_n (by omega)])); omega) (by (repeat (first | rw [hf5 _ _ (by unfold FFl; omega)] | rw [hf4 _ _ (by unfold FFl; omega)] | rw [up_s] | rw [up_n (by omega)])); omega) (Or.inr ⟨by omega, by omega, σ3, m, hr, Or.inl ⟨by omega, by omega, rfl⟩⟩)
                | exact hF _ _ (fun a j z9 => by unfold FEx at z9; (repeat (first | rw [hf5 a j (by unfold FFl; omega)] | rw [hf4 a j (by unfold FFl; omega)] | rw [up_n (by omega)])); exact hfr a j (by omega)) (by repeat (first | exact hq5 | exact hq4 | refine cQ_up ?_ (by unfold FPd; omega))) (by (repeat (first | rw [hf5 _ _ (by unfold FFl; omega)] | rw [hf4 _ _ (by unfold FFl; omega)] | rw [up_s] | rw [up_n (by omega)])); omega) (by (repeat (first | rw [hf5 _ _ (by unfold FFl; omega)] | rw [hf4 _ _ (by unfold FFl; omega)] | rw [up_s] | rw [up_n (by omega)])); omega) (Or.inr ⟨by omega, by omega, σ3, m, hr, Or.inr ⟨by omega, by omega, rfl⟩⟩)
              · skip
                conv => whnf
                refine ⟨(by first | assumption | rfl), by omega, ?_⟩
                try simp (disch := omega) only [Int.cast_ofNat_Int, up_s, up_a, up_i, mp_a, mp_ge]
                try simp only [t3]
                try simp only [t4]
                try simp only [e3]
                try simp only [e12]
                conv => whnf
                refine ⟨rfl, ?_⟩
                first
                | (exfalso; omega)
                | exact hS _ (Or.inr ⟨by omega, by omega, σ3, m, hr, by omega, by omega, rfl⟩) (by repeat (first | exact hq3 | refine cQ_up ?_ (by unfold FPd; omega)))
                | exact hF _ _ (fun a j z9 => by unfold FEx at z9; (repeat (first | rw [hf5 a j (by unfold FFl; omega)] | rw [hf4 a j (by unfold FFl; omega)] | rw [up_n (by omega)])); exact hfr a j (by omega)) (by repeat (first | exact hq5 | exact hq4 | refine cQ_up ?_ (by unfold FPd; omega))) (by (repeat (first | rw [hf5 _ _ (by unfold FFl; omega)] | rw [hf4 _ _ (by unfold FFl; omega)] | rw [up_s] | rw [up_n (by omega)])); omega) (by (repeat (first | rw [hf5 _ _ (by unfold FFl; omega)] | rw [hf4 _ _ (by unfold FFl; omega)] | rw [up_s] | rw [up_n (by omega)])); omega) (Or.inr ⟨by omega, by omega, σ3, m, hr, Or.inl ⟨by omega, by omega, rfl⟩⟩)
                | exact hF _ _ (fun a j z9 => by unfold FEx at z9; (repeat (first | rw [hf5 a j (by unfold FFl; omega)] | rw [hf4 a j (by unfold FFl; omega)] | rw [up_n (by omega)])); exact hfr a j (by omega)) (by repeat (first | exact hq5 | exact hq4 | refine cQ_up ?_ (by unfold FPd; omega))) (by (repeat (first | rw [hf5 _ _ (by unfold FFl; omega)] | rw [hf4 _ _ (by unfold FFl; omega)] | rw [up_s] | rw [up_n (by omega)])); omega) (by (repeat (first | rw [hf5 _ _ (by unfold FFl; omega)] | rw [hf4 _ _ (by unfold FFl; omega)] | rw [up_s] | rw [up_n (by omega)])); omega) (Or.inr ⟨by omega, by omega, σ3, m, hr, Or.inr ⟨by omega, by omega, rfl⟩⟩)
          · simp only [sx_cc, Classical.not_not] at g
            conv => whnf
            refine ⟨Nat.le_of_ble_eq_true rfl, Nat.le_of_ble_eq_true rfl, (by first | assumption | rfl), ?_⟩
            refine c_Thrank hq3 ?_
            conv => whnf
            refine ⟨fun g => ?_, fun g => ?_⟩
            · simp only [sx_cc, Classical.not_not] at g
              conv => whnf
              refine ⟨Nat.le_of_ble_eq_true rfl, Nat.le_of_ble_eq_true rfl, (by first | assumption | rfl), ?_⟩
              first
              | refine c_Taddk hq4 (by (repeat (first | rw [hf5 _ _ (by unfold FFl; omega)] | rw [hf4 _ _ (by unfold FFl; omega)] | rw [up_s] | rw [up_n (by omega)])); omega) (fun hk9 => ?_) (fun hk9 σ5 hf5 hq5 => ?_)
              | refine c_Taddk hq3 (by omega) (fun hk9 => ?_) (fun hk9 σ5 hf5 hq5 => ?_)
              · skip
                conv => whnf
                refine ⟨Nat.le_of_ble_eq_true rfl, Nat.le_of_ble_eq_true rfl, (by first | assumption | rfl), ?_⟩
                first
                | refine c_Thold hq5 (n := σ3 32 11) (by repeat (first | rw [hf5 _ _ (by unfold FFl; omega)] | rw [hf4 _ _ (by unfold FFl; omega)] | rw [up_s] | rw [up_n (by omega)])) (by omega) (fun hw9 => ?_) (fun hw9 => ?_)
                | refine c_Thold (cQ_up hq4 (by unfold FPd; omega)) (n := σ3 32 11) (by repeat (first | rw [hf5 _ _ (by unfold FFl; omega)] | rw [hf4 _ _ (by unfold FFl; omega)] | rw [up_s] | rw [up_n (by omega)])) (by omega) (fun hw9 => ?_) (fun hw9 => ?_)
                | refine c_Thold (cQ_up hq3 (by unfold FPd; omega)) (n := σ3 32 11) (by repeat (first | rw [hf5 _ _ (by unfold FFl; omega)] | rw [hf4 _ _ (by unfold FFl; omega)] | rw [up_s] | rw [up_n (by omega)])) (by omega) (fun hw9 => ?_) (fun hw9 => ?_)
                · skip
                  conv => whnf
                  refine ⟨(by first | assumption | rfl), by omega, ?_⟩
                  try simp (disch := omega) only [Int.cast_ofNat_Int, up_s, up_a, up_i, mp_a, mp_ge]
                  try simp only [t3]
                  try simp only [t4]
                  try simp only [e3]
                  try simp only [e12]
                  conv => whnf
                  refine ⟨rfl, ?_⟩
                  first
                  | (exfalso; omega)
                  | exact hS _ (Or.inr ⟨by omega, by omega, σ3, m, hr, by omega, by omega, rfl⟩) (by repeat (first | exact hq3 | refine cQ_up ?_ (by unfold FPd; omega)))
                  | exact hF _ _ (fun a j z9 => by unfold FEx at z9; (repeat (first | rw [hf5 a j (by unfold FFl; omega)] | rw [hf4 a j (by unfold FFl; omega)] | rw [up_n (by omega)])); exact hfr a j (by omega)) (by repeat (first | exact hq5 | exact hq4 | refine cQ_up ?_ (by unfold FPd; omega))) (by (repeat (first | rw [hf5 _ _ (by unfold FFl; omega)] | rw [hf4 _ _ (by unfold FFl; omega)] | rw [up_s] | rw [up_n (by omega)])); omega) (by (repeat (first | rw [hf5 _ _ (by unfold FFl; omega)] | rw [hf4 _ _ (by unfold FFl; omega)] | rw [up_s] | rw [up_n (by omega)])); omega) (Or.inr ⟨by omega, by omega, σ3, m, hr, Or.inl ⟨by omega, by omega, rfl⟩⟩)
                  | exact hF _ _ (fun a j z9 => by unfold FEx at z9; (repeat (first | rw [hf5 a j (by unfold FFl; omega)] | rw [hf4 a j (by unfold FFl; omega)] | rw [up_n (by omega)])); exact hfr a j (by omega)) (by repeat (first | exact hq5 | exact hq4 | refine cQ_up ?_ (by unfold FPd; omega))) (by (repeat (first | rw [hf5 _ _ (by unfold FFl; omega)] | rw [hf4 _ _ (by unfold FFl; omega)] | rw [up_s] | rw [up_n (by omega)])); omega) (by (repeat (first | rw [hf5 _ _ (by unfold FFl; omega)] | rw [hf4 _ _ (by unfold FFl; omega)] | rw [up_s] | rw [up_n (by omega)])); omega) (Or.inr ⟨by omega, by omega, σ3, m, hr, Or.inr ⟨by omega, by omega, rfl⟩⟩)
                · skip
                  conv => whnf
                  refine ⟨(by first | assumption | rfl), by omega, ?_⟩
                  try simp (disch := omega) only [Int.cast_ofNat_Int, up_s, up_a, up_i, mp_a, mp_ge]
                  try simp only [t3]
                  try simp only [t4]
                  try simp only [e3]
                  try simp only [e12]
                  conv => whnf
                  refine ⟨rfl, ?_⟩
                  first
                  | (exfalso; omega)
                  | exact hS _ (Or.inr ⟨by omega, by omega, σ3, m, hr, by omega, by omega, rfl⟩) (by repeat (first | exact hq3 | refine cQ_up ?_ (by unfold FPd; omega)))
                  | exact hF _ _ (fun a j z9 => by unfold FEx at z9; (repeat (first | rw [hf5 a j (by unfold FFl; omega)] | rw [hf4 a j (by unfold FFl; omega)] | rw [up_n (by omega)])); exact hfr a j (by omega)) (by repeat (first | exact hq5 | exact hq4 | refine cQ_up ?_ (by unfold FPd; omega))) (by (repeat (first | rw [hf5 _ _ (by unfold FFl; omega)] | rw [hf4 _ _ (by unfold FFl; omega)] | rw [up_s] | rw [up_n (by omega)])); omega) (by (repeat (first | rw [hf5 _ _ (by unfold FFl; omega)] | rw [hf4 _ _ (by unfold FFl; omega)] | rw [up_s] | rw [up_n (by omega)])); omega) (Or.inr ⟨by omega, by omega, σ3, m, hr, Or.inl ⟨by omega, by omega, rfl⟩⟩)
                  | exact hF _ _ (fun a j z9 => by unfold FEx at z9; (repeat (first | rw [hf5 a j (by unfold FFl; omega)] | rw [hf4 a j (by unfold FFl; omega)] | rw [up_n (by omega)])); exact hfr a j (by omega)) (by repeat (first | exact hq5 | exact hq4 | refine cQ_up ?_ (by unfold FPd; omega))) (by (repeat (first | rw [hf5 _ _ (by unfold FFl; omega)] | rw [hf4 _ _ (by unfold FFl; omega)] | rw [up_s] | rw [up_n (by omega)])); omega) (by (repeat (first | rw [hf5 _ _ (by unfold FFl; omega)] | rw [hf4 _ _ (by unfold FFl; omega)] | rw [up_s] | rw [up_n (by omega)])); omega) (Or.inr ⟨by omega, by omega, σ3, m, hr, Or.inr ⟨by omega, by omega, rfl⟩⟩)
              · skip
                conv => whnf
                refine ⟨Nat.le_of_ble_eq_true rfl, Nat.le_of_ble_eq_true rfl, (by first | assumption | rfl), ?_⟩
                first
                | refine c_Thold hq5 (n := σ3 32 11) (by repeat (first | rw [hf5 _ _ (by unfold FFl; omega)] | rw [hf4 _ _ (by unfold FFl; omega)] | rw [up_s] | rw [up_n (by omega)])) (by omega) (fun hw9 => ?_) (fun hw9 => ?_)
                | refine c_Thold (cQ_up hq4 (by unfold FPd; omega)) (n := σ3 32 11) (by repeat (first | rw [hf5 _ _ (by unfold FFl; omega)] | rw [hf4 _ _ (by unfold FFl; omega)] | rw [up_s] | rw [up_n (by omega)])) (by omega) (fun hw9 => ?_) (fun hw9 => ?_)
                | refine c_Thold (cQ_up hq3 (by unfold FPd; omega)) (n := σ3 32 11) (by repeat (first | rw [hf5 _ _ (by unfold FFl; omega)] | rw [hf4 _ _ (by unfold FFl; omega)] | rw [up_s] | rw [up_n (by omega)])) (by omega) (fun hw9 => ?_) (fun hw9 => ?_)
                · skip
                  conv => whnf
                  refine ⟨(by first | assumption | rfl), by omega, ?_⟩
                  try simp (disch := omega) only [Int.cast_ofNat_Int, up_s, up_a, up_i, mp_a, mp_ge]
                  try simp only [t3]
                  try simp only [t4]
                  try simp only [e3]
                  try simp only [e12]
                  conv => whnf
                  refine ⟨rfl, ?_⟩
                  first
                  | (exfalso; omega)
                  | exact hS _ (Or.inr ⟨by omega, by omega, σ3, m, hr, by omega, by omega, rfl⟩) (by repeat (first | exact hq3 | refine cQ_up ?_ (by unfold FPd; omega)))
                  | exact hF _ _ (fun a j z9 => by unfold FEx at z9; (repeat (first | rw [hf5 a j (by unfold FFl; omega)] | rw [hf4 a j (by unfold FFl; omega)] | rw [up_n (by omega)])); exact hfr a j (by omega)) (by repeat (first | exact hq5 | exact hq4 | refine cQ_up ?_ (by unfold FPd; omega))) (by (repeat (first | rw [hf5 _ _ (by unfold FFl; omega)] | rw [hf4 _ _ (by unfold FFl; omega)] | rw [up_s] | rw [up_n (by omega)])); omega) (by (repeat (first | rw [hf5 _ _ (by unfold FFl; omega)] | rw [hf4 _ _ (by unfold FFl; omega)] | rw [up_s] | rw [up_n (by omega)])); omega) (Or.inr ⟨by omega, by omega, σ3, m, hr, Or.inl ⟨by omega, by omega, rfl⟩⟩)
                  | exact hF _ _ (fun a j z9 => by unfold FEx at z9; (repeat (first | rw [hf5 a j (by unfold FFl; omega)] | rw [hf4 a j (by unfold FFl; omega)] | rw [up_n (by omega)])); exact hfr a j (by omega)) (by repeat (first | exact hq5 | exact hq4 | refine cQ_up ?_ (by unfold FPd; omega))) (by (repeat (first | rw [hf5 _ _ (by unfold FFl; omega)] | rw [hf4 _ _ (by unfold FFl; omega)] | rw [up_s] | rw [up_n (by omega)])); omega) (by (repeat (first | rw [hf5 _ _ (by unfold FFl; omega)] | rw [hf4 _ _ (by unfold FFl; omega)] | rw [up_s] | rw [up_n (by omega)])); omega) (Or.inr ⟨by omega, by omega, σ3, m, hr, Or.inr ⟨by omega, by omega, rfl⟩⟩)
                · skip
                  conv => whnf
                  refine ⟨(by first | assumption | rfl), by omega, ?_⟩
                  try simp (disch := omega) only [Int.cast_ofNat_Int, up_s, up_a, up_i, mp_a, mp_ge]
                  try simp only [t3]
                  try simp only [t4]
                  try simp only [e3]
                  try simp only [e12]
                  conv => whnf
                  refine ⟨rfl, ?_⟩
                  first
                  | (exfalso; omega)
                  | exact hS _ (Or.inr ⟨by omega, by omega, σ3, m, hr, by omega, by omega, rfl⟩) (by repeat (first | exact hq3 | refine cQ_up ?_ (by unfold FPd; omega)))
                  | exact hF _ _ (fun a j z9 => by unfold FEx at z9; (repeat (first | rw [hf5 a j (by unfold FFl; omega)] | rw [hf4 a j (by unfold FFl; omega)] | rw [up_n (by omega)])); exact hfr a j (by omega)) (by repeat (first | exact hq5 | exact hq4 | refine cQ_up ?_ (by unfold FPd; omega))) (by (repeat (first | rw [hf5 _ _ (by unfold FFl; omega)] | rw [hf4 _ _ (by unfold FFl; omega)] | rw [up_s] | rw [up_n (by omega)])); omega) (by (repeat (first | rw [hf5 _ _ (by unfold FFl; omega)] | rw [hf4 _ _ (by unfold FFl; omega)] | rw [up_s] | rw [up_n (by omega)])); omega) (Or.inr ⟨by omega, by omega, σ3, m, hr, Or.inl ⟨by omega, by omega, rfl⟩⟩)
                  | exact hF _ _ (fun a j z9 => by unfold FEx at z9; (repeat (first | rw [hf5 a j (by unfold FFl; omega)] | rw [hf4 a j (by unfold FFl; omega)] | rw [up_n (by omega)])); exact hfr a j (by omega)) (by repeat (first | exact hq5 | exact hq4 | refine cQ_up ?_ (by unfold FPd; omega))) (by (repeat (first | rw [hf5 _ _ (by unfold FFl; omega)] | rw [hf4 _ _ (by unfold FFl; omega)] | rw [up_s] | rw [up_n (by omega)])); omega) (by (repeat (first | rw [hf5 _ _ (by unfold FFl; omega)] | rw [hf4 _ _ (by unfold FFl; omega)] | rw [up_s] | rw [up_n (by omega)])); omega) (Or.inr ⟨by omega, by omega, σ3, m, hr, Or.inr ⟨by omega, by omega, rfl⟩⟩)
            · simp only [sx_cc, Classical.not_not] at g
              conv => whnf
              refine ⟨Nat.le_of_ble_eq_true rfl, Nat.le_of_ble_eq_true rfl, (by first | assumption | rfl), ?_⟩
              refine c_Tfail hq3 (by decide) (fun σ4 hf4 hq4 => ?_)
              conv => whnf
              refine ⟨Nat.le_of_ble_eq_true rfl, Nat.le_of_ble_eq_true rfl, (by first | assumption | rfl), ?_⟩
              first
              | refine c_Taddk hq4 (by (repeat (first | rw [hf5 _ _ (by unfold FFl; omega)] | rw [hf4 _ _ (by unfold FFl; omega)] | rw [up_s] | rw [up_n (by omega)])); omega) (fun hk9 => ?_) (fun hk9 σ5 hf5 hq5 => ?_)
              | refine c_Taddk hq3 (by omega) (fun hk9 => ?_) (fun hk9 σ5 hf5 hq5 => ?_)
              · skip
                conv => whnf
                refine ⟨Nat.le_of_ble_eq_true rfl, Nat.le_of_ble_eq_true rfl, (by first | assumption | rfl), ?_⟩
                first
                | refine c_Thold hq5 (n := σ3 32 11) (by repeat (first | rw [hf5 _ _ (by unfold FFl; omega)] | rw [hf4 _ _ (by unfold FFl; omega)] | rw [up_s] | rw [up_n (by omega)])) (by omega) (fun hw9 => ?_) (fun hw9 => ?_)
                | refine c_Thold (cQ_up hq4 (by unfold FPd; omega)) (n := σ3 32 11) (by repeat (first | rw [hf5 _ _ (by unfold FFl; omega)] | rw [hf4 _ _ (by unfold FFl; omega)] | rw [up_s] | rw [up_n (by omega)])) (by omega) (fun hw9 => ?_) (fun hw9 => ?_)
                | refine c_Thold (cQ_up hq3 (by unfold FPd; omega)) (n := σ3 32 11) (by repeat (first | rw [hf5 _ _ (by unfold FFl; omega)] | rw [hf4 _ _ (by unfold FFl; omega)] | rw [up_s] | rw [up_n (by omega)])) (by omega) (fun hw9 => ?_) (fun hw9 => ?_)
                · skip
                  conv => whnf
                  refine ⟨(by first | assumption | rfl), by omega, ?_⟩
                  try simp (disch := omega) only [Int.cast_ofNat_Int, up_s, up_a, up_i, mp_a, mp_ge]
                  try simp only [t3]
                  try simp only [t4]
                  try simp only [e3]
                  try simp only [e12]
                  conv => whnf
                  refine ⟨rfl, ?_⟩
                  first
                  | (exfalso; omega)
                  | exact hS _ (Or.inr ⟨by omega, by omega, σ3, m, hr, by omega, by omega, rfl⟩) (by repeat (first | exact hq3 | refine cQ_up ?_ (by unfold FPd; omega)))
                  | exact hF _ _ (fun a j z9 => by unfold FEx at z9; (repeat (first | rw [hf5 a j (by unfold FFl; omega)] | rw [hf4 a j (by unfold FFl; omega)] | rw [up_n (by omega)])); exact hfr a j (by omega)) (by repeat (first | exact hq5 | exact hq4 | refine cQ_up ?_ (by unfold FPd; omega))) (by (repeat (first | rw [hf5 _ _ (by unfold FFl; omega)] | rw [hf4 _ _ (by unfold FFl; omega)] | rw [up_s] | rw [up_n (by omega)])); omega) (by (repeat (first | rw [hf5 _ _ (by unfold FFl; omega)] | rw [hf4 _ _ (by unfold FFl; omega)] | rw [up_s] | rw [up_n (by omega)])); omega) (Or.inr ⟨by omega, by omega, σ3, m, hr, Or.inl ⟨by omega, by omega, rfl⟩⟩)
                  | exact hF _ _ (fun a j z9 => by unfold FEx at z9; (repeat (first | rw [hf5 a j (by unfold FFl; omega)] | rw [hf4 a j (by unfold FFl; omega)] | rw [up_n (by omega)])); exact hfr a j (by omega)) (by repeat (first | exact hq5 | exact hq4 | refine cQ_up ?_ (by unfold FPd; omega))) (by (repeat (first | rw [hf5 _ _ (by unfold FFl; omega)] | rw [hf4 _ _ (by unfold FFl; omega)] | rw [up_s] | rw [up_n (by omega)])); omega) (by (repeat (first | rw [hf5 _ _ (by unfold FFl; omega)] | rw [hf4 _ _ (by unfold FFl; omega)] | rw [up_s] | rw [up_n (by omega)])); omega) (Or.inr ⟨by omega, by omega, σ3, m, hr, Or.inr ⟨by omega, by omega, rfl⟩⟩)
                · skip
                  conv => whnf
                  refine ⟨(by first | assumption | rfl), by omega, ?_⟩
                  try simp (disch := omega) only [Int.cast_ofNat_Int, up_s, up_a, up_i, mp_a, mp_ge]
                  try simp only [t3]
                  try simp only [t4]
                  try simp only [e3]
                  try simp only [e12]
                  conv => whnf
                  refine ⟨rfl, ?_⟩
                  first
                  | (exfalso; omega)
                  | exact hS _ (Or.inr ⟨by omega, by omega, σ3, m, hr, by omega, by omega, rfl⟩) (by repeat (first | exact hq3 | refine cQ_up ?_ (by unfold FPd; omega)))
                  | exact hF _ _ (fun a j z9 => by unfold FEx at z9; (repeat (first | rw [hf5 a j (by unfold FFl; omega)] | rw [hf4 a j (by unfold FFl; omega)] | rw [up_n (by omega)])); exact hfr a j (by omega)) (by repeat (first | exact hq5 | exact hq4 | refine cQ_up ?_ (by unfold FPd; omega))) (by (repeat (first | rw [hf5 _ _ (by unfold FFl; omega)] | rw [hf4 _ _ (by unfold FFl; omega)] | rw [up_s] | rw [up_n (by omega)])); omega) (by (repeat (first | rw [hf5 _ _ (by unfold FFl; omega)] | rw [hf4 _ _ (by unfold FFl; omega)] | rw [up_s] | rw [up_n (by omega)])); omega) (Or.inr ⟨by omega, by omega, σ3, m, hr, Or.inl ⟨by omega, by omega, rfl⟩⟩)
                  | exact hF _ _ (fun a j z9 => by unfold FEx at z9; (repeat (first | rw [hf5 a j (by unfold FFl; omega)] | rw [hf4 a j (by unfold FFl; omega)] | rw [up_n (by omega)])); exact hfr a j (by omega)) (by repeat (first | exact hq5 | exact hq4 | refine cQ_up ?_ (by unfold FPd; omega))) (by (repeat (first | rw [hf5 _ _ (by unfold FFl; omega)] | rw [hf4 _ _ (by unfold FFl; omega)] | rw [up_s] | rw [up_n (by omega)])); omega) (by (repeat (first | rw [hf5 _ _ (by unfold FFl; omega)] | rw [hf4 _ _ (by unfold FFl; omega)] | rw [up_s] | rw [up_n (by omega)])); omega) (Or.inr ⟨by omega, by omega, σ3, m, hr, Or.inr ⟨by omega, by omega, rfl⟩⟩)
              · skip
                conv => whnf
                refine ⟨Nat.le_of_ble_eq_true rfl, Nat.le_of_ble_eq_true rfl, (by first | assumption | rfl), ?_⟩
                first
                | refine c_Thold hq5 (n := σ3 32 11) (by repeat (first | rw [hf5 _ _ (by unfold FFl; omega)] | rw [hf4 _ _ (by unfold FFl; omega)] | rw [up_s] | rw [up_n (by omega)])) (by omega) (fun hw9 => ?_) (fun hw9 => ?_)
                | refine c_Thold (cQ_up hq4 (by unfold FPd; omega)) (n := σ3 32 11) (by repeat (first | rw [hf5 _ _ (by unfold FFl; omega)] | rw [hf4 _ _ (by unfold FFl; omega)] | rw [up_s] | rw [up_n (by omega)])) (by omega) (fun hw9 => ?_) (fun hw9 => ?_)
                | refine c_Thold (cQ_up hq3 (by unfold FPd; omega)) (n := σ3 32 11) (by repeat (first | rw [hf5 _ _ (by unfold FFl; omega)] | rw [hf4 _ _ (by unfold FFl; omega)] | rw [up_s] | rw [up_n (by omega)])) (by omega) (fun hw9 => ?_) (fun hw9 => ?_)
                · skip
                  conv => whnf
                  refine ⟨(by first | assumption | rfl), by omega, ?_⟩
                  try simp (disch := omega) only [Int.cast_ofNat_Int, up_s, up_a, up_i, mp_a, mp_ge]
                  try simp only [t3]
                  try simp only [t4]
                  try simp only [e3]
                  try simp only [e12]
                  conv => whnf
                  refine ⟨rfl, ?_⟩
                  first
                  | (exfalso; omega)
                  | exact hS _ (Or.inr ⟨by omega, by omega, σ3, m, hr, by omega, by omega, rfl⟩) (by repeat (first | exact hq3 | refine cQ_up ?_ (by unfold FPd; omega)))
                  | exact hF _ _ (fun a j z9 => by unfold FEx at z9; (repeat (first | rw [hf5 a j (by unfold FFl; omega)] | rw [hf4 a j (by unfold FFl; omega)] | rw [up_n (by omega)])); exact hfr a j (by omega)) (by repeat (first | exact hq5 | exact hq4 | refine cQ_up ?_ (by unfold FPd; omega))) (by (repeat (first | rw [hf5 _ _ (by unfold FFl; omega)] | rw [hf4 _ _ (by unfold FFl; omega)] | rw [up_s] | rw [up_n (by omega)])); omega) (by (repeat (first | rw [hf5 _ _ (by unfold FFl; omega)] | rw [hf4 _ _ (by unfold FFl; omega)] | rw [up_s] | rw [up_n (by omega)])); omega) (Or.inr ⟨by omega, by omega, σ3, m, hr, Or.inl ⟨by omega, by omega, rfl⟩⟩)
                  | exact hF _ _ (fun a j z9 => by unfold FEx at z9; (repeat (first | rw [hf5 a j (by unfold FFl; omega)] | rw [hf4 a j (by unfold FFl; omega)] | rw [up_n (by omega)])); exact hfr a j (by omega)) (by repeat (first | exact hq5 | exact hq4 | refine cQ_up ?_ (by unfold FPd; omega))) (by (repeat (first | rw [hf5 _ _ (by unfold FFl; omega)] | rw [hf4 _ _ (by unfold FFl; omega)] | rw [up_s] | rw [up_n (by omega)])); omega) (by (repeat (first | rw [hf5 _ _ (by unfold FFl; omega)] | rw [hf4 _ _ (by unfold FFl; omega)] | rw [up_s] | rw [up_n (by omega)])); omega) (Or.inr ⟨by omega, by omega, σ3, m, hr, Or.inr ⟨by omega, by omega, rfl⟩⟩)
                · skip
                  conv => whnf
                  refine ⟨(by first | assumption | rfl), by omega, ?_⟩
                  try simp (disch := omega) only [Int.cast_ofNat_Int, up_s, up_a, up_i, mp_a, mp_ge]
                  try simp only [t3]
                  try simp only [t4]
                  try simp only [e3]
                  try simp only [e12]
                  conv => whnf
                  refine ⟨rfl, ?_⟩
                  first
                  | (exfalso; omega)
                  | exact hS _ (Or.inr ⟨by omega, by omega, σ3, m, hr, by omega, by omega, rfl⟩) (by repeat (first | exact hq3 | refine cQ_up ?_ (by unfold FPd; omega)))
                  | exact hF _ _ (fun a j z9 => by unfold FEx at z9; (repeat (first | rw [hf5 a j (by unfold FFl; omega)] | rw [hf4 a j (by unfold FFl; omega)] | rw [up_n (by omega)])); exact hfr a j (by omega)) (by repeat (first | exact hq5 | exact hq4 | refine cQ_up ?_ (by unfold FPd; omega))) (by (repeat (first | rw [hf5 _ _ (by unfold FFl; omega)] | rw [hf4 _ _ (by unfold FFl; omega)] | rw [up_s] | rw [up_n (by omega)])); omega) (by (repeat (first | rw [hf5 _ _ (by unfold FFl; omega)] | rw [hf4 _ _ (by unfold FFl; omega)] | rw [up_s] | rw [up_n (by omega)])); omega) (Or.inr ⟨by omega, by omega, σ3, m, hr, Or.inl ⟨by omega, by omega, rfl⟩⟩)
                  | exact hF _ _ (fun a j z9 => by unfold FEx at z9; (repeat (first | rw [hf5 a j (by unfold FFl; omega)] | rw [hf4 a j (by unfold FFl; omega)] | rw [up_n (by omega)])); exact hfr a j (by omega)) (by repeat (first | exact hq5 | exact hq4 | refine cQ_up ?_ (by unfold FPd; omega))) (by (repeat (first | rw [hf5 _ _ (by unfold FFl; omega)] | rw [hf4 _ _ (by unfold FFl; omega)] | rw [up_s] | rw [up_n (by omega)])); omega) (by (repeat (first | rw [hf5 _ _ (by unfold FFl; omega)] | rw [hf4 _ _ (by unfold FFl; omega)] | rw [up_s] | rw [up_n (by omega)])); omega) (Or.inr ⟨by omega, by omega, σ3, m, hr, Or.inr ⟨by omega, by omega, rfl⟩⟩)
        · simp only [sx_cc, Classical.not_not] at g
          have g4 := g
          conv => whnf
          refine ⟨⟨by omega, by omega⟩, ?_⟩
          conv => whnf
          refine ⟨Nat.le_of_ble_eq_true rfl, Nat.le_of_ble_eq_true rfl, (by first | assumption | rfl), ?_⟩
          refine c_Trel hq (by omega) (by omega) (by omega) (fun σ3 m hr => ?_)
          have hr : pRel p (fR5 (fRk (kT tx n9 i))) σ σ3 m := by first | (rw [fR5_4 (by omega)]; exact hr) | (rw [fR5_n (by omega)]; exact hr)
          have hq3 : cQ p σ3 tx n9 i none := cQ_of hq (fun a j z9 => hr.2.1 a j (by unfold FPd at z9; unfold FRl; omega))
          have hrx := hr
          obtain ⟨r0, hfr, r2, r3, r4, r5, r6⟩ := hrx
          have hfr : ∀ a j : Int, ¬ ((a = 32 ∧ (j = 11 ∨ j = 14)) ∨ (a = p + 11 ∧ σ 32 14 ≤ j) ∨ (a = p + 12 ∧ σ 32 14 ≤ j)) → σ3 a j = σ a j := hfr
          have e12 : σ3 32 12 = σ 32 12 := hfr _ _ (by omega)
          have e14 : σ3 p 14 = σ p 14 := hfr _ _ (by omega)
          conv => whnf
          refine ⟨fun g => ?_, fun g => ?_⟩
          · simp only [sx_cc, Classical.not_not] at g
            conv => whnf
            refine ⟨Nat.le_of_ble_eq_true rfl, Nat.le_of_ble_eq_true rfl, (by first | assumption | rfl), ?_⟩
            first
            | refine c_Taddk hq4 (by (repeat (first | rw [hf5 _ _ (by unfold FFl; omega)] | rw [hf4 _ _ (by unfold FFl; omega)] | rw [up_s] | rw [up_n (by omega)])); omega) (fun hk9 => ?_) (fun hk9 σ5 hf5 hq5 => ?_)
            | refine c_Taddk hq3 (by omega) (fun hk9 => ?_) (fun hk9 σ5 hf5 hq5 => ?_)
            · skip
              conv => whnf
              refine ⟨Nat.le_of_ble_eq_true rfl, Nat.le_of_ble_eq_true rfl, (by first | assumption | rfl), ?_⟩
              first
              | refine c_Thold hq5 (n := σ3 32 11) (by repeat (first | rw [hf5 _ _ (by unfold FFl; omega)] | rw [hf4 _ _ (by unfold FFl; omega)] | rw [up_s] | rw [up_n (by omega)])) (by omega) (fun hw9 => ?_) (fun hw9 => ?_)
              | refine c_Thold (cQ_up hq4 (by unfold FPd; omega)) (n := σ3 32 11) (by repeat (first | rw [hf5 _ _ (by unfold FFl; omega)] | rw [hf4 _ _ (by unfold FFl; omega)] | rw [up_s] | rw [up_n (by omega)])) (by omega) (fun hw9 => ?_) (fun hw9 => ?_)
              | refine c_Thold (cQ_up hq3 (by unfold FPd; omega)) (n := σ3 32 11) (by repeat (first | rw [hf5 _ _ (by unfold FFl; omega)] | rw [hf4 _ _ (by unfold FFl; omega)] | rw [up_s] | rw [up_n (by omega)])) (by omega) (fun hw9 => ?_) (fun hw9 => ?_)
              · skip
                conv => whnf
                refine ⟨(by first | assumption | rfl), by omega, ?_⟩
                try simp (disch := omega) only [Int.cast_ofNat_Int, up_s, up_a, up_i, mp_a, mp_ge]
                try simp only [t3]
                try simp only [t4]
                try simp only [e3]
                try simp only [e12]
                conv => whnf
                refine ⟨rfl, ?_⟩
                first
                | (exfalso; omega)
                | exact hS _ (Or.inr ⟨by omega, by omega, σ3, m, hr, by omega, by omega, rfl⟩) (by repeat (first | exact hq3 | refine cQ_up ?_ (by unfold FPd; omega)))
                | exact hF _ _ (fun a j z9 => by unfold FEx at z9; (repeat (first | rw [hf5 a j (by unfold FFl; omega)] | rw [hf4 a j (by unfold FFl; omega)] | rw [up_n (by omega)])); exact hfr a j (by omega)) (by repeat (first | exact hq5 | exact hq4 | refine cQ_up ?_ (by unfold FPd; omega))) (by (repeat (first | rw [hf5 _ _ (by unfold FFl; omega)] | rw [hf4 _ _ (by unfold FFl; omega)] | rw [up_s] | rw [up_n (by omega)])); omega) (by (repeat (first | rw [hf5 _ _ (by unfold FFl; omega)] | rw [hf4 _ _ (by unfold FFl; omega)] | rw [up_s] | rw [up_n (by omega)])); omega) (Or.inr ⟨by omega, by omega, σ3, m, hr, Or.inl ⟨by omega, by omega, rfl⟩⟩)
                | exact hF _ _ (fun a j z9 => by unfold FEx at z9; (repeat (first | rw [hf5 a j (by unfold FFl; omega)] | rw [hf4 a j (by unfold FFl; omega)] | rw [up_n (by omega)])); exact hfr a j (by omega)) (by repeat (first | exact hq5 | exact hq4 | refine cQ_up ?_ (by unfold FPd; omega))) (by (repeat (first | rw [hf5 _ _ (by unfold FFl; omega)] | rw [hf4 _ _ (by unfold FFl; omega)] | rw [up_s] | rw [up_n (by omega)])); omega) (by (repeat (first | rw [hf5 _ _ (by unfold FFl; omega)] | rw [hf4 _ _ (by unfold FFl; omega)] | rw [up_s] | rw [up_n (by omega)])); omega) (Or.inr ⟨by omega, by omega, σ3, m, hr, Or.inr ⟨by omega, by omega, rfl⟩⟩)
              · skip
                conv => whnf
                refine ⟨(by first | assumption | rfl), by omega, ?_⟩
                try simp (disch := omega) only [Int.cast_ofNat_Int, up_s, up_a, up_i, mp_a, mp_ge]
                try simp only [t3]
                try simp only [t4]
                try simp only [e3]
                try simp only [e12]
                conv => whnf
                refine ⟨rfl, ?_⟩
                first
                | (exfalso; omega)
                | exact hS _ (Or.inr ⟨by omega, by omega, σ3, m, hr, by omega, by omega, rfl⟩) (by repeat (first | exact hq3 | refine cQ_up ?_ (by unfold FPd; omega)))
                | exact hF _ _ (fun a j z9 => by unfold FEx at z9; (repeat (first | rw [hf5 a j (by unfold FFl; omega)] | rw [hf4 a j (by unfold FFl; omega)] | rw [up_n (by omega)])); exact hfr a j (by omega)) (by repeat (first | exact hq5 | exact hq4 | refine cQ_up ?_ (by unfold FPd; omega))) (by (repeat (first | rw [hf5 _ _ (by unfold FFl; omega)] | rw [hf4 _ _ (by unfold FFl; omega)] | rw [up_s] | rw [up_n (by omega)])); omega) (by (repeat (first | rw [hf5 _ _ (by unfold FFl; omega)] | rw [hf4 _ _ (by unfold FFl; omega)] | rw [up_s] | rw [up_n (by omega)])); omega) (Or.inr ⟨by omega, by omega, σ3, m, hr, Or.inl ⟨by omega, by omega, rfl⟩⟩)
                | exact hF _ _ (fun a j z9 => by unfold FEx at z9; (repeat (first | rw [hf5 a j (by unfold FFl; omega)] | rw [hf4 a j (by unfold FFl; omega)] | rw [up_n (by omega)])); exact hfr a j (by omega)) (by repeat (first | exact hq5 | exact hq4 | refine cQ_up ?_ (by unfold FPd; omega))) (by (repeat (first | rw [hf5 _ _ (by unfold FFl; omega)] | rw [hf4 _ _ (by unfold FFl; omega)] | rw [up_s] | rw [up_n (by omega)])); omega) (by (repeat (first | rw [hf5 _ _ (by unfold FFl; omega)] | rw [hf4 _ _ (by unfold FFl; omega)] | rw [up_s] | rw [up_n (by omega)])); omega) (Or.inr ⟨by omega, by omega, σ3, m, hr, Or.inr ⟨by omega, by omega, rfl⟩⟩)
            · skip
              conv => whnf
              refine ⟨Nat.le_of_ble_eq_true rfl, Nat.le_of_ble_eq_true rfl, (by first | assumption | rfl), ?_⟩
              first
              | refine c_Thold hq5 (n := σ3 32 11) (by repeat (first | rw [hf5 _ _ (by unfold FFl; omega)] | rw [hf4 _ _ (by unfold FFl; omega)] | rw [up_s] | rw [up_n (by omega)])) (by omega) (fun hw9 => ?_) (fun hw9 => ?_)
              | refine c_Thold (cQ_up hq4 (by unfold FPd; omega)) (n := σ3 32 11) (by repeat (first | rw [hf5 _ _ (by unfold FFl; omega)] | rw [hf4 _ _ (by unfold FFl; omega)] | rw [up_s] | rw [up_n (by omega)])) (by omega) (fun hw9 => ?_) (fun hw9 => ?_)
              | refine c_Thold (cQ_up hq3 (by unfold FPd; omega)) (n := σ3 32 11) (by repeat (first | rw [hf5 _ _ (by unfold FFl; omega)] | rw [hf4 _ _ (by unfold FFl; omega)] | rw [up_s] | rw [up_n (by omega)])) (by omega) (fun hw9 => ?_) (fun hw9 => ?_)
              · skip
                conv => whnf
                refine ⟨(by first | assumption | rfl), by omega, ?_⟩
                try simp (disch := omega) only [Int.cast_ofNat_Int, up_s, up_a, up_i, mp_a, mp_ge]
                try simp only [t3]
                try simp only [t4]
                try simp only [e3]
                try simp only [e12]
                conv => whnf
                refine ⟨rfl, ?_⟩
                first
                | (exfalso; omega)
                | exact hS _ (Or.inr ⟨by omega, by omega, σ3, m, hr, by omega, by omega, rfl⟩) (by repeat (first | exact hq3 | refine cQ_up ?_ (by unfold FPd; omega)))
                | exact hF _ _ (fun a j z9 => by unfold FEx at z9; (repeat (first | rw [hf5 a j (by unfold FFl; omega)] | rw [hf4 a j (by unfold FFl; omega)] | rw [up_n (by omega)])); exact hfr a j (by omega)) (by repeat (first | exact hq5 | exact hq4 | refine cQ_up ?_ (by unfold FPd; omega))) (by (repeat (first | rw [hf5 _ _ (by unfold FFl; omega)] | rw [hf4 _ _ (by unfold FFl; omega)] | rw [up_s] | rw [up_n (by omega)])); omega) (by (repeat (first | rw [hf5 _ _ (by unfold FFl; omega)] | rw [hf4 _ _ (by unfold FFl; omega)] | rw [up_s] | rw [up_n (by omega)])); omega) (Or.inr ⟨by omega, by omega, σ3, m, hr, Or.inl ⟨by omega, by omega, rfl⟩⟩)
                | exact hF _ _ (fun a j z9 => by unfold FEx at z9; (repeat (first | rw [hf5 a j (by unfold FFl; omega)] | rw [hf4 a j (by unfold FFl; omega)] | rw [up_n (by omega)])); exact hfr a j (by omega)) (by repeat (first | exact hq5 | exact hq4 | refine cQ_up ?_ (by unfold FPd; omega))) (by (repeat (first | rw [hf5 _ _ (by unfold FFl; omega)] | rw [hf4 _ _ (by unfold FFl; omega)] | rw [up_s] | rw [up_n (by omega)])); omega) (by (repeat (first | rw [hf5 _ _ (by unfold FFl; omega)] | rw [hf4 _ _ (by unfold FFl; omega)] | rw [up_s] | rw [up_n (by omega)])); omega) (Or.inr ⟨by omega, by omega, σ3, m, hr, Or.inr ⟨by omega, by omega, rfl⟩⟩)
              · skip
                conv => whnf
                refine ⟨(by first | assumption | rfl), by omega, ?_⟩
                try simp (disch := omega) only [Int.cast_ofNat_Int, up_s, up_a, up_i, mp_a, mp_ge]
                try simp only [t3]
                try simp only [t4]
                try simp only [e3]
                try simp only [e12]
                conv => whnf
                refine ⟨rfl, ?_⟩
                first
                | (exfalso; omega)
                | exact hS _ (Or.inr ⟨by omega, by omega, σ3, m, hr, by omega, by omega, rfl⟩) (by repeat (first | exact hq3 | refine cQ_up ?_ (by unfold FPd; omega)))
                | exact hF _ _ (fun a j z9 => by unfold FEx at z9; (repeat (first | rw [hf5 a j (by unfold FFl; omega)] | rw [hf4 a j (by unfold FFl; omega)] | rw [up_n (by omega)])); exact hfr a j (by omega)) (by repeat (first | exact hq5 | exact hq4 | refine cQ_up ?_ (by unfold FPd; omega))) (by (repeat (first | rw [hf5 _ _ (by unfold FFl; omega)] | rw [hf4 _ _ (by unfold FFl; omega)] | rw [up_s] | rw [up_n (by omega)])); omega) (by (repeat (first | rw [hf5 _ _ (by unfold FFl; omega)] | rw [hf4 _ _ (by unfold FFl; omega)] | rw [up_s] | rw [up_n (by omega)])); omega) (Or.inr ⟨by omega, by omega, σ3, m, hr, Or.inl ⟨by omega, by omega, rfl⟩⟩)
                | exact hF _ _ (fun a j z9 => by unfold FEx at z9; (repeat (first | rw [hf5 a j (by unfold FFl; omega)] | rw [hf4 a j (by unfold FFl; omega)] | rw [up_n (by omega)])); exact hfr a j (by omega)) (by repeat (first | exact hq5 | exact hq4 | refine cQ_up ?_ (by unfold FPd; omega))) (by (repeat (first | rw [hf5 _ _ (by unfold FFl; omega)] | rw [hf4 _ _ (by unfold FFl; omega)] | rw [up_s] | rw [up_n (by omega)])); omega) (by (repeat (first | rw [hf5 _ _ (by unfold FFl; omega)] | rw [hf4 _ _ (by unfold FFl; omega)] | rw [up_s] | rw [up_n (by omega)])); omega) (Or.inr ⟨by omega, by omega, σ3, m, hr, Or.inr ⟨by omega, by omega, rfl⟩⟩)
          · simp only [sx_cc, Classical.not_not] at g
            conv => whnf
            refine ⟨Nat.le_of_ble_eq_true rfl, Nat.le_of_ble_eq_true rfl, (by first | assumption | rfl), ?_⟩
            refine c_Thrank hq3 ?_
            conv => whnf
            refine ⟨fun g => ?_, fun g => ?_⟩
            · simp only [sx_cc, Classical.not_not] at g
              conv => whnf
              refine ⟨Nat.le_of_ble_eq_true rfl, Nat.le_of_ble_eq_true rfl, (by first | assumption | rfl), ?_⟩
              first
              | refine c_Taddk hq4 (by (repeat (first | rw [hf5 _ _ (by unfold FFl; omega)] | rw [hf4 _ _ (by unfold FFl; omega)] | rw [up_s] | rw [up_n (by omega)])); omega) (fun hk9 => ?_) (fun hk9 σ5 hf5 hq5 => ?_)
              | refine c_Taddk hq3 (by omega) (fun hk9 => ?_) (fun hk9 σ5 hf5 hq5 => ?_)
              · skip
                conv => whnf
                refine ⟨Nat.le_of_ble_eq_true rfl, Nat.le_of_ble_eq_true rfl, (by first | assumption | rfl), ?_⟩
                first
                | refine c_Thold hq5 (n := σ3 32 11) (by repeat (first | rw [hf5 _ _ (by unfold FFl; omega)] | rw [hf4 _ _ (by unfold FFl; omega)] | rw [up_s] | rw [up_n (by omega)])) (by omega) (fun hw9 => ?_) (fun hw9 => ?_)
                | refine c_Thold (cQ_up hq4 (by unfold FPd; omega)) (n := σ3 32 11) (by repeat (first | rw [hf5 _ _ (by unfold FFl; omega)] | rw [hf4 _ _ (by unfold FFl; omega)] | rw [up_s] | rw [up_n (by omega)])) (by omega) (fun hw9 => ?_) (fun hw9 => ?_)
                | refine c_Thold (cQ_up hq3 (by unfold FPd; omega)) (n := σ3 32 11) (by repeat (first | rw [hf5 _ _ (by unfold FFl; omega)] | rw [hf4 _ _ (by unfold FFl; omega)] | rw [up_s] | rw [up_n (by omega)])) (by omega) (fun hw9 => ?_) (fun hw9 => ?_)
                · skip
                  conv => whnf
                  refine ⟨(by first | assumption | rfl), by omega, ?_⟩
                  try simp (disch := omega) only [Int.cast_ofNat_Int, up_s, up_a, up_i, mp_a, mp_ge]
                  try simp only [t3]
                  try simp only [t4]
                  try simp only [e3]
                  try simp only [e12]
                  conv => whnf
                  refine ⟨rfl, ?_⟩
                  first
                  | (exfalso; omega)
                  | exact hS _ (Or.inr ⟨by omega, by omega, σ3, m, hr, by omega, by omega, rfl⟩) (by repeat (first | exact hq3 | refine cQ_up ?_ (by unfold FPd; omega)))
                  | exact hF _ _ (fun a j z9 => by unfold FEx at z9; (repeat (first | rw [hf5 a j (by unfold FFl; omega)] | rw [hf4 a j (by unfold FFl; omega)] | rw [up_n (by omega)])); exact hfr a j (by omega)) (by repeat (first | exact hq5 | exact hq4 | refine cQ_up ?_ (by unfold FPd; omega))) (by (repeat (first | rw [hf5 _ _ (by unfold FFl; omega)] | rw [hf4 _ _ (by unfold FFl; omega)] | rw [up_s] | rw [up_n (by omega)])); omega) (by (repeat (first | rw [hf5 _ _ (by unfold FFl; omega)] | rw [hf4 _ _ (by unfold FFl; omega)] | rw [up_s] | rw [up_n (by omega)])); omega) (Or.inr ⟨by omega, by omega, σ3, m, hr, Or.inl ⟨by omega, by omega, rfl⟩⟩)
                  | exact hF _ _ (fun a j z9 => by unfold FEx at z9; (repeat (first | rw [hf5 a j (by unfold FFl; omega)] | rw [hf4 a j (by unfold FFl; omega)] | rw [up_n (by omega)])); exact hfr a j (by omega)) (by repeat (first | exact hq5 | exact hq4 | refine cQ_up ?_ (by unfold FPd; omega))) (by (repeat (first | rw [hf5 _ _ (by unfold FFl; omega)] | rw [hf4 _ _ (by unfold FFl; omega)] | rw [up_s] | rw [up_n (by omega)])); omega) (by (repeat (first | rw [hf5 _ _ (by unfold FFl; omega)] | rw [hf4 _ _ (by unfold FFl; omega)] | rw [up_s] | rw [up_n (by omega)])); omega) (Or.inr ⟨by omega, by omega, σ3, m, hr, Or.inr ⟨by omega, by omega, rfl⟩⟩)
                · skip
                  conv => whnf
                  refine ⟨(by first | assumption | rfl), by omega, ?_⟩
                  try simp (disch := omega) only [Int.cast_ofNat_Int, up_s, up_a, up_i, mp_a, mp_ge]
                  try simp only [t3]
                  try simp only [t4]
                  try simp only [e3]
                  try simp only [e12]
                  conv => whnf
                  refine ⟨rfl, ?_⟩
                  first
                  | (exfalso; omega)
                  | exact hS _ (Or.inr ⟨by omega, by omega, σ3, m, hr, by omega, by omega, rfl⟩) (by repeat (first | exact hq3 | refine cQ_up ?_ (by unfold FPd; omega)))
                  | exact hF _ _ (fun a j z9 => by unfold FEx at z9; (repeat (first | rw [hf5 a j (by unfold FFl; omega)] | rw [hf4 a j (by unfold FFl; omega)] | rw [up_n (by omega)])); exact hfr a j (by omega)) (by repeat (first | exact hq5 | exact hq4 | refine cQ_up ?_ (by unfold FPd; omega))) (by (repeat (first | rw [hf5 _ _ (by unfold FFl; omega)] | rw [hf4 _ _ (by unfold FFl; omega)] | rw [up_s] | rw [up_n (by omega)])); omega) (by (repeat (first | rw [hf5 _ _ (by unfold FFl; omega)] | rw [hf4 _ _ (by unfold FFl; omega)] | rw [up_s] | rw [up_n (by omega)])); omega) (Or.inr ⟨by omega, by omega, σ3, m, hr, Or.inl ⟨by omega, by omega, rfl⟩⟩)
                  | exact hF _ _ (fun a j z9 => by unfold FEx at z9; (repeat (first | rw [hf5 a j (by unfold FFl; omega)] | rw [hf4 a j (by unfold FFl; omega)] | rw [up_n (by omega)])); exact hfr a j (by omega)) (by repeat (first | exact hq5 | exact hq4 | refine cQ_up ?_ (by unfold FPd; omega))) (by (repeat (first | rw [hf5 _ _ (by unfold FFl; omega)] | rw [hf4 _ _ (by unfold FFl; omega)] | rw [up_s] | rw [up_n (by omega)])); omega) (by (repeat (first | rw [hf5 _ _ (by unfold FFl; omega)] | rw [hf4 _ _ (by unfold FFl; omega)] | rw [up_s] | rw [up_n (by omega)])); omega) (Or.inr ⟨by omega, by omega, σ3, m, hr, Or.inr ⟨by omega, by omega, rfl⟩⟩)
              · skip
                conv => whnf
                refine ⟨Nat.le_of_ble_eq_true rfl, Nat.le_of_ble_eq_true rfl, (by first | assumption | rfl), ?_⟩
                first
                | refine c_Thold hq5 (n := σ3 32 11) (by repeat (first | rw [hf5 _ _ (by unfold FFl; omega)] | rw [hf4 _ _ (by unfold FFl; omega)] | rw [up_s] | rw [up_n (by omega)])) (by omega) (fun hw9 => ?_) (fun hw9 => ?_)
                | refine c_Thold (cQ_up hq4 (by unfold FPd; omega)) (n := σ3 32 11) (by repeat (first | rw [hf5 _ _ (by unfold FFl; omega)] | rw [hf4 _ _ (by unfold FFl; omega)] | rw [up_s] | rw [up_n (by omega)])) (by omega) (fun hw9 => ?_) (fun hw9 => ?_)
                | refine c_Thold (cQ_up hq3 (by unfold FPd; omega)) (n := σ3 32 11) (by repeat (first | rw [hf5 _ _ (by unfold FFl; omega)] | rw [hf4 _ _ (by unfold FFl; omega)] | rw [up_s] | rw [up_n (by omega)])) (by omega) (fun hw9 => ?_) (fun hw9 => ?_)
                · skip
                  conv => whnf
                  refine ⟨(by first | assumption | rfl), by omega, ?_⟩
                  try simp (disch := omega) only [Int.cast_ofNat_Int, up_s, up_a, up_i, mp_a, mp_ge]
                  try simp only [t3]
                  try simp only [t4]
                  try simp only [e3]
                  try simp only [e12]
                  conv => whnf
                  refine ⟨rfl, ?_⟩
                  first
                  | (exfalso; omega)
                  | exact hS _ (Or.inr ⟨by omega, by omega, σ3, m, hr, by omega, by omega, rfl⟩) (by repeat (first | exact hq3 | refine cQ_up ?_ (by unfold FPd; omega)))
                  | exact hF _ _ (fun a j z9 => by unfold FEx at z9; (repeat (first | rw [hf5 a j (by unfold FFl; omega)] | rw [hf4 a j (by unfold FFl; omega)] | rw [up_n (by omega)])); exact hfr a j (by omega)) (by repeat (first | exact hq5 | exact hq4 | refine cQ_up ?_ (by unfold FPd; omega))) (by (repeat (first | rw [hf5 _ _ (by unfold FFl; omega)] | rw [hf4 _ _ (by unfold FFl; omega)] | rw [up_s] | rw [up_n (by omega)])); omega) (by (repeat (first | rw [hf5 _ _ (by unfold FFl; omega)] | rw [hf4 _ _ (by unfold FFl; omega)] | rw [up_s] | rw [up_n (by omega)])); omega) (Or.inr ⟨by omega, by omega, σ3, m, hr, Or.inl ⟨by omega, by omega, rfl⟩⟩)
                  | exact hF _ _ (fun a j z9 => by unfold FEx at z9; (repeat (first | rw [hf5 a j (by unfold FFl; omega)] | rw [hf4 a j (by unfold FFl; omega)] | rw [up_n (by omega)])); exact hfr a j (by omega)) (by repeat (first | exact hq5 | exact hq4 | refine cQ_up ?_ (by unfold FPd; omega))) (by (repeat (first | rw [hf5 _ _ (by unfold FFl; omega)] | rw [hf4 _ _ (by unfold FFl; omega)] | rw [up_s] | rw [up_n (by omega)])); omega) (by (repeat (first | rw [hf5 _ _ (by unfold FFl; omega)] | rw [hf4 _ _ (by unfold FFl; omega)] | rw [up_s] | rw [up_n (by omega)])); omega) (Or.inr ⟨by omega, by omega, σ3, m, hr, Or.inr ⟨by omega, by omega, rfl⟩⟩)
                · skip
                  conv => whnf
                  refine ⟨(by first | assumption | rfl), by omega, ?_⟩
                  try simp (disch := omega) only [Int.cast_ofNat_Int, up_s, up_a, up_i, mp_a, mp_ge]
                  try simp only [t3]
                  try simp only [t4]
                  try simp only [e3]
                  try simp only [e12]
                  conv => whnf
                  refine ⟨rfl, ?_⟩
                  first
                  | (exfalso; omega)
                  | exact hS _ (Or.inr ⟨by omega, by omega, σ3, m, hr, by omega, by omega, rfl⟩) (by repeat (first | exact hq3 | refine cQ_up ?_ (by unfold FPd; omega)))
                  | exact hF _ _ (fun a j z9 => by unfold FEx at z9; (repeat (first | rw [hf5 a j (by unfold FFl; omega)] | rw [hf4 a j (by unfold FFl; omega)] | rw [up_n (by omega)])); exact hfr a j (by omega)) (by repeat (first | exact hq5 | exact hq4 | refine cQ_up ?_ (by unfold FPd; omega))) (by (repeat (first | rw [hf5 _ _ (by unfold FFl; omega)] | rw [hf4 _ _ (by unfold FFl; omega)] | rw [up_s] | rw [up_n (by omega)])); omega) (by (repeat (first | rw [hf5 _ _ (by unfold FFl; omega)] | rw [hf4 _ _ (by unfold FFl; omega)] | rw [up_s] | rw [up_n (by omega)])); omega) (Or.inr ⟨by omega, by omega, σ3, m, hr, Or.inl ⟨by omega, by omega, rfl⟩⟩)
                  | exact hF _ _ (fun a j z9 => by unfold FEx at z9; (repeat (first | rw [hf5 a j (by unfold FFl; omega)] | rw [hf4 a j (by unfold FFl; omega)] | rw [up_n (by omega)])); exact hfr a j (by omega)) (by repeat (first | exact hq5 | exact hq4 | refine cQ_up ?_ (by unfold FPd; omega))) (by (repeat (first | rw [hf5 _ _ (by unfold FFl; omega)] | rw [hf4 _ _ (by unfold FFl; omega)] | rw [up_s] | rw [up_n (by omega)])); omega) (by (repeat (first | rw [hf5 _ _ (by unfold FFl; omega)] | rw [hf4 _ _ (by unfold FFl; omega)] | rw [up_s] | rw [up_n (by omega)])); omega) (Or.inr ⟨by omega, by omega, σ3, m, hr, Or.inr ⟨by omega, by omega, rfl⟩⟩)
            · simp only [sx_cc, Classical.not_not] at g
              conv => whnf
              refine ⟨Nat.le_of_ble_eq_true rfl, Nat.le_of_ble_eq_true rfl, (by first | assumption | rfl), ?_⟩
              refine c_Tfail hq3 (by decide) (fun σ4 hf4 hq4 => ?_)
              conv => whnf
              refine ⟨Nat.le_of_ble_eq_true rfl, Nat.le_of_ble_eq_true rfl, (by first | assumption | rfl), ?_⟩
              first
              | refine c_Taddk hq4 (by (repeat (first | rw [hf5 _ _ (by unfold FFl; omega)] | rw [hf4 _ _ (by unfold FFl; omega)] | rw [up_s] | rw [up_n (by omega)])); omega) (fun hk9 => ?_) (fun hk9 σ5 hf5 hq5 => ?_)
              | refine c_Taddk hq3 (by omega) (fun hk9 => ?_) (fun hk9 σ5 hf5 hq5 => ?_)
              · skip
                conv => whnf
                refine ⟨Nat.le_of_ble_eq_true rfl, Nat.le_of_ble_eq_true rfl, (by first | assumption | rfl), ?_⟩
                first
                | refine c_Thold hq5 (n := σ3 32 11) (by repeat (first | rw [hf5 _ _ (by unfold FFl; omega)] | rw [hf4 _ _ (by unfold FFl; omega)] | rw [up_s] | rw [up_n (by omega)])) (by omega) (fun hw9 => ?_) (fun hw9 => ?_)
                | refine c_Thold (cQ_up hq4 (by unfold FPd; omega)) (n := σ3 32 11) (by repeat (first | rw [hf5 _ _ (by unfold FFl; omega)] | rw [hf4 _ _ (by unfold FFl; omega)] | rw [up_s] | rw [up_n (by omega)])) (by omega) (fun hw9 => ?_) (fun hw9 => ?_)
                | refine c_Thold (cQ_up hq3 (by unfold FPd; omega)) (n := σ3 32 11) (by repeat (first | rw [hf5 _ _ (by unfold FFl; omega)] | rw [hf4 _ _ (by unfold FFl; omega)] | rw [up_s] | rw [up_n (by omega)])) (by omega) (fun hw9 => ?_) (fun hw9 => ?_)
                · skip
                  conv => whnf
                  refine ⟨(by first | assumption | rfl), by omega, ?_⟩
                  try simp (disch := omega) only [Int.cast_ofNat_Int, up_s, up_a, up_i, mp_a, mp_ge]
                  try simp only [t3]
                  try simp only [t4]
                  try simp only [e3]
                  try simp only [e12]
                  conv => whnf
                  refine ⟨rfl, ?_⟩
                  first
                  | (exfalso; omega)
                  | exact hS _ (Or.inr ⟨by omega, by omega, σ3, m, hr, by omega, by omega, rfl⟩) (by repeat (first | exact hq3 | refine cQ_up ?_ (by unfold FPd; omega)))
                  | exact hF _ _ (fun a j z9 => by unfold FEx at z9; (repeat (first | rw [hf5 a j (by unfold FFl; omega)] | rw [hf4 a j (by unfold FFl; omega)] | rw [up_n (by omega)])); exact hfr a j (by omega)) (by repeat (first | exact hq5 | exact hq4 | refine cQ_up ?_ (by unfold FPd; omega))) (by (repeat (first | rw [hf5 _ _ (by unfold FFl; omega)] | rw [hf4 _ _ (by unfold FFl; omega)] | rw [up_s] | rw [up_n (by omega)])); omega) (by (repeat (first | rw [hf5 _ _ (by unfold FFl; omega)] | rw [hf4 _ _ (by unfold FFl; omega)] | rw [up_s] | rw [up_n (by omega)])); omega) (Or.inr ⟨by omega, by omega, σ3, m, hr, Or.inl ⟨by omega, by omega, rfl⟩⟩)
                  | exact hF _ _ (fun a j z9 => by unfold FEx at z9; (repeat (first | rw [hf5 a j (by unfold FFl; omega)] | rw [hf4 a j (by unfold FFl; omega)] | rw [up_n (by omega)])); exact hfr a j (by omega)) (by repeat (first | exact hq5 | exact hq4 | refine cQ_up ?_ (by unfold FPd; omega))) (by (repeat (first | rw [hf5 _ _ (by unfold FFl; omega)] | rw [hf4 _ _ (by unfold FFl; omega)] | rw [up_s] | rw [up_n (by omega)])); omega) (by (repeat (first | rw [hf5 _ _ (by unfold FFl; omega)] | rw [hf4 _ _ (by unfold FFl; omega)] | rw [up_s] | rw [up_n (by omega)])); omega) (Or.inr ⟨by omega, by omega, σ3, m, hr, Or.inr ⟨by omega, by omega, rfl⟩⟩)
                · skip
                  conv => whnf
                  refine ⟨(by first | assumption | rfl), by omega, ?_⟩
                  try simp (disch := omega) only [Int.cast_ofNat_Int, up_s, up_a, up_i, mp_a, mp_ge]
                  try simp only [t3]
                  try simp only [t4]
                  try simp only [e3]
                  try simp only [e12]
                  conv => whnf
                  refine ⟨rfl, ?_⟩
                  first
                  | (exfalso; omega)
                  | exact hS _ (Or.inr ⟨by omega, by omega, σ3, m, hr, by omega, by omega, rfl⟩) (by repeat (first | exact hq3 | refine cQ_up ?_ (by unfold FPd; omega)))
                  | exact hF _ _ (fun a j z9 => by unfold FEx at z9; (repeat (first | rw [hf5 a j (by unfold FFl; omega)] | rw [hf4 a j (by unfold FFl; omega)] | rw [up_n (by omega)])); exact hfr a j (by omega)) (by repeat (first | exact hq5 | exact hq4 | refine cQ_up ?_ (by unfold FPd; omega))) (by (repeat (first | rw [hf5 _ _ (by unfold FFl; omega)] | rw [hf4 _ _ (by unfold FFl; omega)] | rw [up_s] | rw [up_n (by omega)])); omega) (by (repeat (first | rw [hf5 _ _ (by unfold FFl; omega)] | rw [hf4 _ _ (by unfold FFl; omega)] | rw [up_s] | rw [up_n (by omega)])); omega) (Or.inr ⟨by omega, by omega, σ3, m, hr, Or.inl ⟨by omega, by omega, rfl⟩⟩)
                  | exact hF _ _ (fun a j z9 => by unfold FEx at z9; (repeat (first | rw [hf5 a j (by unfold FFl; omega)] | rw [hf4 a j (by unfold FFl; omega)] | rw [up_n (by omega)])); exact hfr a j (by omega)) (by repeat (first | exact hq5 | exact hq4 | refine cQ_up ?_ (by unfold FPd; omega))) (by (repeat (first | rw [hf5 _ _ (by unfold FFl; omega)] | rw [hf4 _ _ (by unfold FFl; omega)] | rw [up_s] | rw [up_n (by omega)])); omega) (by (repeat (first | rw [hf5 _ _ (by unfold FFl; omega)] | rw [hf4 _ _ (by unfold FFl; omega)] | rw [up_s] | rw [up_n (by omega)])); omega) (Or.inr ⟨by omega, by omega, σ3, m, hr, Or.inr ⟨by omega, by omega, rfl⟩⟩)
              · skip
                conv => whnf
                refine ⟨Nat.le_of_ble_eq_true rfl, Nat.le_of_ble_eq_true rfl, (by first | assumption | rfl), ?_⟩
                first
                | refine c_Thold hq5 (n := σ3 32 11) (by repeat (first | rw [hf5 _ _ (by unfold FFl; omega)] | rw [hf4 _ _ (by unfold FFl; omega)] | rw [up_s] | rw [up_n (by omega)])) (by omega) (fun hw9 => ?_) (fun hw9 => ?_)
                | refine c_Thold (cQ_up hq4 (by unfold FPd; omega)) (n := σ3 32 11) (by repeat (first | rw [hf5 _ _ (by unfold FFl; omega)] | rw [hf4 _ _ (by unfold FFl; omega)] | rw [up_s] | rw [up_n (by omega)])) (by omega) (fun hw9 => ?_) (fun hw9 => ?_)
                | refine c_Thold (cQ_up hq3 (by unfold FPd; omega)) (n := σ3 32 11) (by repeat (first | rw [hf5 _ _ (by unfold FFl; omega)] | rw [hf4 _ _ (by unfold FFl; omega)] | rw [up_s] | rw [up_n (by omega)])) (by omega) (fun hw9 => ?_) (fun hw9 => ?_)
                · skip
                  conv => whnf
                  refine ⟨(by first | assumption | rfl), by omega, ?_⟩
                  try simp (disch := omega) only [Int.cast_ofNat_Int, up_s, up_a, up_i, mp_a, mp_ge]
                  try simp only [t3]
                  try simp only [t4]
                  try simp only [e3]
                  try simp only [e12]
                  conv => whnf
                  refine ⟨rfl, ?_⟩
                  first
                  | (exfalso; omega)
                  | exact hS _ (Or.inr ⟨by omega, by omega, σ3, m, hr, by omega, by omega, rfl⟩) (by repeat (first | exact hq3 | refine cQ_up ?_ (by unfold FPd; omega)))
                  | exact hF _ _ (fun a j z9 => by unfold FEx at z9; (repeat (first | rw [hf5 a j (by unfold FFl; omega)] | rw [hf4 a j (by unfold FFl; omega)] | rw [up_n (by omega)])); exact hfr a j (by omega)) (by repeat (first | exact hq5 | exact hq4 | refine cQ_up ?_ (by unfold FPd; omega))) (by (repeat (first | rw [hf5 _ _ (by unfold FFl; omega)] | rw [hf4 _ _ (by unfold FFl; omega)] | rw [up_s] | rw [up_n (by omega)])); omega) (by (repeat (first | rw [hf5 _ _ (by unfold FFl; omega)] | rw [hf4 _ _ (by unfold FFl; omega)] | rw [up_s] | rw [up_n (by omega)])); omega) (Or.inr ⟨by omega, by omega, σ3, m, hr, Or.inl ⟨by omega, by omega, rfl⟩⟩)
                  | exact hF _ _ (fun a j z9 => by unfold FEx at z9; (repeat (first | rw [hf5 a j (by unfold FFl; omega)] | rw [hf4 a j (by unfold FFl; omega)] | rw [up_n (by omega)])); exact hfr a j (by omega)) (by repeat (first | exact hq5 | exact hq4 | refine cQ_up ?_ (by unfold FPd; omega))) (by (repeat (first | rw [hf5 _ _ (by unfold FFl; omega)] | rw [hf4 _ _ (by unfold FFl; omega)] | rw [up_s] | rw [up_n (by omega)])); omega) (by (repeat (first | rw [hf5 _ _ (by unfold FFl; omega)] | rw [hf4 _ _ (by unfold FFl; omega)] | rw [up_s] | rw [up_n (by omega)])); omega) (Or.inr ⟨by omega, by omega, σ3, m, hr, Or.inr ⟨by omega, by omega, rfl⟩⟩)
                · skip
                  conv => whnf
                  refine ⟨(by first | assumption | rfl), by omega, ?_⟩
                  try simp (disch := omega) only [Int.cast_ofNat_Int, up_s, up_a, up_i, mp_a, mp_ge]
                  try simp only [t3]
                  try simp only [t4]
                  try simp only [e3]
                  try simp only [e12]
                  conv => whnf
                  refine ⟨rfl, ?_⟩
                  first
                  | (exfalso; omega)
                  | exact hS _ (Or.inr ⟨by omega, by omega, σ3, m, hr, by omega, by omega, rfl⟩) (by repeat (first | exact hq3 | refine cQ_up ?_ (by unfold FPd; omega)))
                  | exact hF _ _ (fun a j z9 => by unfold FEx at z9; (repeat (first | rw [hf5 a j (by unfold FFl; omega)] | rw [hf4 a j (by unfold FFl; omega)] | rw [up_n (by omega)])); exact hfr a j (by omega)) (by repeat (first | exact hq5 | exact hq4 | refine cQ_up ?_ (by unfold FPd; omega))) (by (repeat (first | rw [hf5 _ _ (by unfold FFl; omega)] | rw [hf4 _ _ (by unfold FFl; omega)] | rw [up_s] | rw [up_n (by omega)])); omega) (by (repeat (first | rw [hf5 _ _ (by unfold FFl; omega)] | rw [hf4 _ _ (by unfold FFl; omega)] | rw [up_s] | rw [up_n (by omega)])); omega) (Or.inr ⟨by omega, by omega, σ3, m, hr, Or.inl ⟨by omega, by omega, rfl⟩⟩)
                  | exact hF _ _ (fun a j z9 => by unfold FEx at z9; (repeat (first | rw [hf5 a j (by unfold FFl; omega)] | rw [hf4 a j (by unfold FFl; omega)] | rw [up_n (by omega)])); exact hfr a j (by omega)) (by repeat (first | exact hq5 | exact hq4 | refine cQ_up ?_ (by unfold FPd; omega))) (by (repeat (first | rw [hf5 _ _ (by unfold FFl; omega)] | rw [hf4 _ _ (by unfold FFl; omega)] | rw [up_s] | rw [up_n (by omega)])); omega) (by (repeat (first | rw [hf5 _ _ (by unfold FFl; omega)] | rw [hf4 _ _ (by unfold FFl; omega)] | rw [up_s] | rw [up_n (by omega)])); omega) (Or.inr ⟨by omega, by omega, σ3, m, hr, Or.inr ⟨by omega, by omega, rfl⟩⟩)
      · simp only [sx_cc, Classical.not_not] at g
        conv => whnf
        refine ⟨Nat.le_of_ble_eq_true rfl, Nat.le_of_ble_eq_true rfl, (by first | assumption | rfl), ?_⟩
        refine c_Tfail hq (by decide) (fun σ5 hf5 hq5 => ?_)
        conv => whnf
        refine ⟨rfl, ?_⟩
        exact hF _ _ (fun a j z9 => hf5 a j (by unfold FEx at z9; unfold FFl; omega)) hq5 (by (repeat (first | rw [hf5 _ _ (by unfold FFl; omega)] | rw [hf4 _ _ (by unfold FFl; omega)] | rw [up_s] | rw [up_n (by omega)])); omega) (by (repeat (first | rw [hf5 _ _ (by unfold FFl; omega)] | rw [hf4 _ _ (by unfold FFl; omega)] | rw [up_s] | rw [up_n (by omega)])); omega) (Or.inl ⟨by omega, by omega, rfl⟩)
  · simp only [sx_cc, Classical.not_not] at g
    have g0 := g
    conv => whnf
    refine ⟨(by first | assumption | rfl), ?_⟩
    try simp (disch := omega) only [Int.cast_ofNat_Int, up_s, up_a, up_i, mp_a, mp_ge]
    try simp only [t3]
    try simp only [t4]
    try simp only [e3]
    try simp only [e12]
    conv => whnf
    refine ⟨fun g => ?_, fun g => ?_⟩
    · simp only [sx_cc, Classical.not_not] at g
      conv => whnf
      refine ⟨Nat.le_of_ble_eq_true rfl, Nat.le_of_ble_eq_true rfl, ?_⟩
      refine c_Trank ?_
      conv => whnf
      refine ⟨fun g => ?_, fun g => ?_⟩
      · simp only [sx_cc, Classical.not_not] at g
        conv => whnf
        refine ⟨Nat.le_of_ble_eq_true rfl, Nat.le_of_ble_eq_true rfl, (by first | assumption | rfl), ?_⟩
        refine c_Tfail hq (by decide) (fun σ5 hf5 hq5 => ?_)
        conv => whnf
        refine ⟨rfl, ?_⟩
        exact hF _ _ (fun a j z9 => hf5 a j (by unfold FEx at z9; unfold FFl; omega)) hq5 (by (repeat (first | rw [hf5 _ _ (by unfold FFl; omega)] | rw [hf4 _ _ (by unfold FFl; omega)] | rw [up_s] | rw [up_n (by omega)])); omega) (by (repeat (first | rw [hf5 _ _ (by unfold FFl; omega)] | rw [hf4 _ _ (by unfold FFl; omega)] | rw [up_s] | rw [up_n (by omega)])); omega) (Or.inl ⟨by omega, by omega, rfl⟩)
      · simp only [sx_cc, Classical.not_not] at g
        conv => whnf
        refine ⟨fun g => ?_, fun g => ?_⟩
        · simp only [sx_cc, Classical.not_not] at g
          conv => whnf
          refine ⟨fun g => ?_, fun g => ?_⟩
          · simp only [sx_cc, Classical.not_not] at g
            have g4 := g
            conv => whnf
            refine ⟨Nat.le_of_ble_eq_true rfl, Nat.le_of_ble_eq_true rfl, (by first | assumption | rfl), ?_⟩
            refine c_Trel hq (by omega) (by omega) (by omega) (fun σ3 m hr => ?_)
            have hr : pRel p (fR5 (fRk (kT tx n9 i))) σ σ3 m := by first | (rw [fR5_4 (by omega)]; exact hr) | (rw [fR5_n (by omega)]; exact hr)
            have hq3 : cQ p σ3 tx n9 i none := cQ_of hq (fun a j z9 => hr.2.1 a j (by unfold FPd at z9; unfold FRl; omega))
            have hrx := hr
            obtain ⟨r0, hfr, r2, r3, r4, r5, r6⟩ := hrx
            have hfr : ∀ a j : Int, ¬ ((a = 32 ∧ (j = 11 ∨ j = 14)) ∨ (a = p + 11 ∧ σ 32 14 ≤ j) ∨ (a = p + 12 ∧ σ 32 14 ≤ j)) → σ3 a j = σ a j := hfr
            have e12 : σ3 32 12 = σ 32 12 := hfr _ _ (by omega)
            have e14 : σ3 p 14 = σ p 14 := hfr _ _ (by omega)
            conv => whnf
            refine ⟨fun g => ?_, fun g => ?_⟩
            · simp only [sx_cc, Classical.not_not] at g
              conv => whnf
              refine ⟨Nat.le_of_ble_eq_true rfl, Nat.le_of_ble_eq_true rfl, (by first | assumption | rfl), ?_⟩
              first
              | refine c_Taddk hq4 (by (repeat (first | rw [hf5 _ _ (by unfold FFl; omega)] | rw [hf4 _ _ (by unfold FFl; omega)] | rw [up_s] | rw [up_n (by omega)])); omega) (fun hk9 => ?_) (fun hk9 σ5 hf5 hq5 => ?_)
              | refine c_Taddk hq3 (by omega) (fun hk9 => ?_) (fun hk9 σ5 hf5 hq5 => ?_)
              · skip
                conv => whnf
                refine ⟨Nat.le_of_ble_eq_true rfl, Nat.le_of_ble_eq_true rfl, (by first | assumption | rfl), ?_⟩
                first
                | refine c_Thold hq5 (n := σ3 32 11) (by repeat (first | rw [hf5 _ _ (by unfold FFl; omega)] | rw [hf4 _ _ (by unfold FFl; omega)] | rw [up_s] | rw [up_n (by omega)])) (by omega) (fun hw9 => ?_) (fun hw9 => ?_)
                | refine c_Thold (cQ_up hq4 (by unfold FPd; omega)) (n := σ3 32 11) (by repeat (first | rw [hf5 _ _ (by unfold FFl; omega)] | rw [hf4 _ _ (by unfold FFl; omega)] | rw [up_s] | rw [up_n (by omega)])) (by omega) (fun hw9 => ?_) (fun hw9 => ?_)
                | refine c_Thold (cQ_up hq3 (by unfold FPd; omega)) (n := σ3 32 11) (by repeat (first | rw [hf5 _ _ (by unfold FFl; omega)] | rw [hf4 _ _ (by unfold FFl; omega)] | rw [up_s] | rw [up_n (by omega)])) (by omega) (fun hw9 => ?_) (fun hw9 => ?_)
                · skip
                  conv => whnf
                  refine ⟨(by first | assumption | rfl), by omega, ?_⟩
                  try simp (disch := omega) only [Int.cast_ofNat_Int, up_s, up_a, up_i, mp_a, mp_ge]
                  try simp only [t3]
                  try simp only [t4]
                  try simp only [e3]
                  try simp only [e12]
                  conv => whnf
                  refine ⟨rfl, ?_⟩
                  first
                  | (exfalso; omega)
                  | exact hS _ (Or.inr ⟨by omega, by omega, σ3, m, hr, by omega, by omega, rfl⟩) (by repeat (first | exact hq3 | refine cQ_up ?_ (by unfold FPd; omega)))
                  | exact hF _ _ (fun a j z9 => by unfold FEx at z9; (repeat (first | rw [hf5 a j (by unfold FFl; omega)] | rw [hf4 a j (by unfold FFl; omega)] | rw [up_n (by omega)])); exact hfr a j (by omega)) (by repeat (first | exact hq5 | exact hq4 | refine cQ_up ?_ (by unfold FPd; omega))) (by (repeat (first | rw [hf5 _ _ (by unfold FFl; omega)] | rw [hf4 _ _ (by unfold FFl; omega)] | rw [up_s] | rw [up_n (by omega)])); omega) (by (repeat (first | rw [hf5 _ _ (by unfold FFl; omega)] | rw [hf4 _ _ (by unfold FFl; omega)] | rw [up_s] | rw [up_n (by omega)])); omega) (Or.inr ⟨by omega, by omega, σ3, m, hr, Or.inl ⟨by omega, by omega, rfl⟩⟩)
                  | exact hF _ _ (fun a j z9 => by unfold FEx at z9; (repeat (first | rw [hf5 a j (by unfold FFl; omega)] | rw [hf4 a j (by unfold FFl; omega)] | rw [up_n (by omega)])); exact hfr a j (by omega)) (by repeat (first | exact hq5 | exact hq4 | refine cQ_up ?_ (by unfold FPd; omega))) (by (repeat (first | rw [hf5 _ _ (by unfold FFl; omega)] | rw [hf4 _ _ (by unfold FFl; omega)] | rw [up_s] | rw [up_n (by omega)])); omega) (by (repeat (first | rw [hf5 _ _ (by unfold FFl; omega)] | rw [hf4 _ _ (by unfold FFl; omega)] | rw [up_s] | rw [up_n (by omega)])); omega) (Or.inr ⟨by omega, by omega, σ3, m, hr, Or.inr ⟨by omega, by omega, rfl⟩⟩)
                · skip
                  conv => whnf
                  refine ⟨(by first | assumption | rfl), by omega, ?_⟩
                  try simp (disch := omega) only [Int.cast_ofNat_Int, up_s, up_a, up_i, mp_a, mp_ge]
                  try simp only [t3]
                  try simp only [t4]
                  try simp only [e3]
                  try simp only [e12]
                  conv => whnf
                  refine ⟨rfl, ?_⟩
                  first
                  | (exfalso; omega)
                  | exact hS _ (Or.inr ⟨by omega, by omega, σ3, m, hr, by omega, by omega, rfl⟩) (by repeat (first | exact hq3 | refine cQ_up ?_ (by unfold FPd; omega)))
                  | exact hF _ _ (fun a j z9 => by unfold FEx at z9; (repeat (first | rw [hf5 a j (by unfold FFl; omega)] | rw [hf4 a j (by unfold FFl; omega)] | rw [up_n (by omega)])); exact hfr a j (by omega)) (by repeat (first | exact hq5 | exact hq4 | refine cQ_up ?_ (by unfold FPd; omega))) (by (repeat (first | rw [hf5 _ _ (by unfold FFl; omega)] | rw [hf4 _ _ (by unfold FFl; omega)] | rw [up_s] | rw [up_n (by omega)])); omega) (by (repeat (first | rw [hf5 _ _ (by unfold FFl; omega)] | rw [hf4 _ _ (by unfold FFl; omega)] | rw [up_s] | rw [up_n (by omega)])); omega) (Or.inr ⟨by omega, by omega, σ3, m, hr, Or.inl ⟨by omega, by omega, rfl⟩⟩)
                  | exact hF _ _ (fun a j z9 => by unfold FEx at z9; (repeat (first | rw [hf5 a j (by unfold FFl; omega)] | rw [hf4 a j (by unfold FFl; omega)] | rw [up_n (by omega)])); exact hfr a j (by omega)) (by repeat (first | exact hq5 | exact hq4 | refine cQ_up ?_ (by unfold FPd; omega))) (by (repeat (first | rw [hf5 _ _ (by unfold FFl; omega)] | rw [hf4 _ _ (by unfold FFl; omega)] | rw [up_s] | rw [up_n (by omega)])); omega) (by (repeat (first | rw [hf5 _ _ (by unfold FFl; omega)] | rw [hf4 _ _ (by unfold FFl; omega)] | rw [up_s] | rw [up_n (by omega)])); omega) (Or.inr ⟨by omega, by omega, σ3, m, hr, Or.inr ⟨by omega, by omega, rfl⟩⟩)
              · skip
                conv => whnf
                refine ⟨Nat.le_of_ble_eq_true rfl, Nat.le_of_ble_eq_true rfl, (by first | assumption | rfl), ?_⟩
                first
                | refine c_Thold hq5 (n := σ3 32 11) (by repeat (first | rw [hf5 _ _ (by unfold FFl; omega)] | rw [hf4 _ _ (by unfold FFl; omega)] | rw [up_s] | rw [up_n (by omega)])) (by omega) (fun hw9 => ?_) (fun hw9 => ?_)
                | refine c_Thold (cQ_up hq4 (by unfold FPd; omega)) (n := σ3 32 11) (by repeat (first | rw [hf5 _ _ (by unfold FFl; omega)] | rw [hf4 _ _ (by unfold FFl; omega)] | rw [up_s] | rw [up_n (by omega)])) (by omega) (fun hw9 => ?_) (fun hw9 => ?_)
                | refine c_Thold (cQ_up hq3 (by unfold FPd; omega)) (n := σ3 32 11) (by repeat (first | rw [hf5 _ _ (by unfold FFl; omega)] | rw [hf4 _ _ (by unfold FFl; omega)] | rw [up_s] | rw [up_n (by omega)])) (by omega) (fun hw9 => ?_) (fun hw9 => ?_)
                · skip
                  conv => whnf
                  refine ⟨(by first | assumption | rfl), by omega, ?_⟩
                  try simp (disch := omega) only [Int.cast_ofNat_Int, up_s, up_a, up_i, mp_a, mp_ge]
                  try simp only [t3]
                  try simp only [t4]
                  try simp only [e3]
                  try simp only [e12]
                  conv => whnf
                  refine ⟨rfl, ?_⟩
                  first
                  | (exfalso; omega)
                  | exact hS _ (Or.inr ⟨by omega, by omega, σ3, m, hr, by omega, by omega, rfl⟩) (by repeat (first | exact hq3 | refine cQ_up ?_ (by unfold FPd; omega)))
                  | exact hF _ _ (fun a j z9 => by unfold FEx at z9; (repeat (first | rw [hf5 a j (by unfold FFl; omega)] | rw [hf4 a j (by unfold FFl; omega)] | rw [up_n (by omega)])); exact hfr a j (by omega)) (by repeat (first | exact hq5 | exact hq4 | refine cQ_up ?_ (by unfold FPd; omega))) (by (repeat (first | rw [hf5 _ _ (by unfold FFl; omega)] | rw [hf4 _ _ (by unfold FFl; omega)] | rw [up_s] | rw [up_n (by omega)])); omega) (by (repeat (first | rw [hf5 _ _ (by unfold FFl; omega)] | rw [hf4 _ _ (by unfold FFl; omega)] | rw [up_s] | rw [up_n (by omega)])); omega) (Or.inr ⟨by omega, by omega, σ3, m, hr, Or.inl ⟨by omega, by omega, rfl⟩⟩)
                  | exact hF _ _ (fun a j z9 => by unfold FEx at z9; (repeat (first | rw [hf5 a j (by unfold FFl; omega)] | rw [hf4 a j (by unfold FFl; omega)] | rw [up_n (by omega)])); exact hfr a j (by omega)) (by repeat (first | exact hq5 | exact hq4 | refine cQ_up ?_ (by unfold FPd; omega))) (by (repeat (first | rw [hf5 _ _ (by unfold FFl; omega)] | rw [hf4 _ _ (by unfold FFl; omega)] | rw [up_s] | rw [up_n (by omega)])); omega) (by (repeat (first | rw [hf5 _ _ (by unfold FFl; omega)] | rw [hf4 _ _ (by unfold FFl; omega)] | rw [up_s] | rw [up_n (by omega)])); omega) (Or.inr ⟨by omega, by omega, σ3, m, hr, Or.inr ⟨by omega, by omega, rfl⟩⟩)
                · skip
                  conv => whnf
                  refine ⟨(by first | assumption | rfl), by omega, ?_⟩
                  try simp (disch := omega) only [Int.cast_ofNat_Int, up_s, up_a, up_i, mp_a, mp_ge]
                  try simp only [t3]
                  try simp only [t4]
                  try simp only [e3]
                  try simp only [e12]
                  conv => whnf
                  refine ⟨rfl, ?_⟩
                  first
                  | (exfalso; omega)
                  | exact hS _ (Or.inr ⟨by omega, by omega, σ3, m, hr, by omega, by omega, rfl⟩) (by repeat (first | exact hq3 | refine cQ_up ?_ (by unfold FPd; omega)))
                  | exact hF _ _ (fun a j z9 => by unfold FEx at z9; (repeat (first | rw [hf5 a j (by unfold FFl; omega)] | rw [hf4 a j (by unfold FFl; omega)] | rw [up_n (by omega)])); exact hfr a j (by omega)) (by repeat (first | exact hq5 | exact hq4 | refine cQ_up ?_ (by unfold FPd; omega))) (by (repeat (first | rw [hf5 _ _ (by unfold FFl; omega)] | rw [hf4 _ _ (by unfold FFl; omega)] | rw [up_s] | rw [up_n (by omega)])); omega) (by (repeat (first | rw [hf5 _ _ (by unfold FFl; omega)] | rw [hf4 _ _ (by unfold FFl; omega)] | rw [up_s] | rw [up_n (by omega)])); omega) (Or.inr ⟨by omega, by omega, σ3, m, hr, Or.inl ⟨by omega, by omega, rfl⟩⟩)
                  | exact hF _ _ (fun a j z9 => by unfold FEx at z9; (repeat (first | rw [hf5 a j (by unfold FFl; omega)] | rw [hf4 a j (by unfold FFl; omega)] | rw [up_n (by omega)])); exact hfr a j (by omega)) (by repeat (first | exact hq5 | exact hq4 | refine cQ_up ?_ (by unfold FPd; omega))) (by (repeat (first | rw [hf5 _ _ (by unfold FFl; omega)] | rw [hf4 _ _ (by unfold FFl; omega)] | rw [up_s] | rw [up_n (by omega)])); omega) (by (repeat (first | rw [hf5 _ _ (by unfold FFl; omega)] | rw [hf4 _ _ (by unfold FFl; omega)] | rw [up_s] | rw [up_n (by omega)])); omega) (Or.inr ⟨by omega, by omega, σ3, m, hr, Or.inr ⟨by omega, by omega, rfl⟩⟩)
            · simp only [sx_cc, Classical.not_not] at g
              conv => whnf
              refine ⟨Nat.le_of_ble_eq_true rfl, Nat.le_of_ble_eq_true rfl, (by first | assumption | rfl), ?_⟩
              refine c_Thrank hq3 ?_
              conv => whnf
              refine ⟨fun g => ?_, fun g => ?_⟩
              · simp only [sx_cc, Classical.not_not] at g
                conv => whnf
                refine ⟨Nat.le_of_ble_eq_true rfl, Nat.le_of_ble_eq_true rfl, (by first | assumption | rfl), ?_⟩
                first
                | refine c_Taddk hq4 (by (repeat (first | rw [hf5 _ _ (by unfold FFl; omega)] | rw [hf4 _ _ (by unfold FFl; omega)] | rw [up_s] | rw [up_n (by omega)])); omega) (fun hk9 => ?_) (fun hk9 σ5 hf5 hq5 => ?_)
                | refine c_Taddk hq3 (by omega) (fun hk9 => ?_) (fun hk9 σ5 hf5 hq5 => ?_)
                · skip
                  conv => whnf
                  refine ⟨Nat.le_of_ble_eq_true rfl, Nat.le_of_ble_eq_true rfl, (by first | assumption | rfl), ?_⟩
                  first
                  | refine c_Thold hq5 (n := σ3 32 11) (by repeat (first | rw [hf5 _ _ (by unfold FFl; omega)] | rw [hf4 _ _ (by unfold FFl; omega)] | rw [up_s] | rw [up_n (by omega)])) (by omega) (fun hw9 => ?_) (fun hw9 => ?_)
                  | refine c_Thold (cQ_up hq4 (by unfold FPd; omega)) (n := σ3 32 11) (by repeat (first | rw [hf5 _ _ (by unfold FFl; omega)] | rw [hf4 _ _ (by unfold FFl; omega)] | rw [up_s] | rw [up_n (by omega)])) (by omega) (fun hw9 => ?_) (fun hw9 => ?_)
                  | refine c_Thold (cQ_up hq3 (by unfold FPd; omega)) (n := σ3 32 11) (by repeat (first | rw [hf5 _ _ (by unfold FFl; omega)] | rw [hf4 _ _ (by unfold FFl; omega)] | rw [up_s] | rw [up_n (by omega)])) (by omega) (fun hw9 => ?_) (fun hw9 => ?_)
                  · skip
                    conv => whnf
                    refine ⟨(by first | assumption | rfl), by omega, ?_⟩
                    try simp (disch := omega) only [Int.cast_ofNat_Int, up_s, up_a, up_i, mp_a, mp_ge]
                    try simp only [t3]
                    try simp only [t4]
                    try simp only [e3]
                    try simp only [e12]
                    conv => whnf
                    refine ⟨rfl, ?_⟩
                    first
                    | (exfalso; omega)
                    | exact hS _ (Or.inr ⟨by omega, by omega, σ3, m, hr, by omega, by omega, rfl⟩) (by repeat (first | exact hq3 | refine cQ_up ?_ (by unfold FPd; omega)))
                    | exact hF _ _ (fun a j z9 => by unfold FEx at z9; (repeat (first | rw [hf5 a j (by unfold FFl; omega)] | rw [hf4 a j (by unfold FFl; omega)] | rw [up_n (by omega)])); exact hfr a j (by omega)) (by repeat (first | exact hq5 | exact hq4 | refine cQ_up ?_ (by unfold FPd; omega))) (by (repeat (first | rw [hf5 _ _ (by unfold FFl; omega)] | rw [hf4 _ _ (by unfold FFl; omega)] | rw [up_s] | rw [up_n (by omega)])); omega) (by (repeat (first | rw [hf5 _ _ (by unfold FFl; omega)] | rw [hf4 _ _ (by unfold FFl; omega)] | rw [up_s] | rw [up_n (by omega)])); omega) (Or.inr ⟨by omega, by omega, σ3, m, hr, Or.inl ⟨by omega, by omega, rfl⟩⟩)
                    | exact hF _ _ (fun a j z9 => by unfold FEx at z9; (repeat (first | rw [hf5 a j (by unfold FFl; omega)] | rw [hf4 a j (by unfold FFl; omega)] | rw [up_n (by omega)])); exact hfr a j (by omega)) (by repeat (first | exact hq5 | exact hq4 | refine cQ_up ?_ (by unfold FPd; omega))) (by (repeat (first | rw [hf5 _ _ (by unfold FFl; omega)] | rw [hf4 _ _ (by unfold FFl; omega)] | rw [up_s] | rw [up_n (by omega)])); omega) (by (repeat (first | rw [hf5 _ _ (by unfold FFl; omega)] | rw [hf4 _ _ (by unfold FFl; omega)] | rw [up_s] | rw [up_n (by omega)])); omega) (Or.inr ⟨by omega, by omega, σ3, m, hr, Or.inr ⟨by omega, by omega, rfl⟩⟩)
                  · skip
                    conv => whnf
                    refine ⟨(by first | assumption | rfl), by omega, ?_⟩
                    try simp (disch := omega) only [Int.cast_ofNat_Int, up_s, up_a, up_i, mp_a, mp_ge]
                    try simp only [t3]
                    try simp only [t4]
                    try simp only [e3]
                    try simp only [e12]
                    conv => whnf
                    refine ⟨rfl, ?_⟩
                    first
                    | (exfalso; omega)
                    | exact hS _ (Or.inr ⟨by omega, by omega, σ3, m, hr, by omega, by omega, rfl⟩) (by repeat (first | exact hq3 | refine cQ_up ?_ (by unfold FPd; omega)))
                    | exact hF _ _ (fun a j z9 => by unfold FEx at z9; (repeat (first | rw [hf5 a j (by unfold FFl; omega)] | rw [hf4 a j (by unfold FFl; omega)] | rw [up_n (by omega)])); exact hfr a j (by omega)) (by repeat (first | exact hq5 | exact hq4 | refine cQ_up ?_ (by unfold FPd; omega))) (by (repeat (first | rw [hf5 _ _ (by unfold FFl; omega)] | rw [hf4 _ _ (by unfold FFl; omega)] | rw [up_s] | rw [up_n (by omega)])); omega) (by (repeat (first | rw [hf5 _ _ (by unfold FFl; omega)] | rw [hf4 _ _ (by unfold FFl; omega)] | rw [up_s] | rw [up_n (by omega)])); omega) (Or.inr ⟨by omega, by omega, σ3, m, hr, Or.inl ⟨by omega, by omega, rfl⟩⟩)
                    | exact hF _ _ (fun a j z9 => by unfold FEx at z9; (repeat (first | rw [hf5 a j (by unfold FFl; omega)] | rw [hf4 a j (by unfold FFl; omega)] | rw [up_n (by omega)])); exact hfr a j (by omega)) (by repeat (first | exact hq5 | exact hq4 | refine cQ_up ?_ (by unfold FPd; omega))) (by (repeat (first | rw [hf5 _ _ (by unfold FFl; omega)] | rw [hf4 _ _ (by unfold FFl; omega)] | rw [up_s] | rw [up_n (by omega)])); omega) (by (repeat (first | rw [hf5 _ _ (by unfold FFl; omega)] | rw [hf4 _ _ (by unfold FFl; omega)] | rw [up_s] | rw [up_n (by omega)])); omega) (Or.inr ⟨by omega, by omega, σ3, m, hr, Or.inr ⟨by omega, by omega, rfl⟩⟩)
                · skip
                  conv => whnf
                  refine ⟨Nat.le_of_ble_eq_true rfl, Nat.le_of_ble_eq_true rfl, (by first | assumption | rfl), ?_⟩
                  first
                  | refine c_Thold hq5 (n := σ3 32 11) (by repeat (first | rw [hf5 _ _ (by unfold FFl; omega)] | rw [hf4 _ _ (by unfold FFl; omega)] | rw [up_s] | rw [up_n (by omega)])) (by omega) (fun hw9 => ?_) (fun hw9 => ?_)
                  | refine c_Thold (cQ_up hq4 (by unfold FPd; omega)) (n := σ3 32 11) (by repeat (first | rw [hf5 _ _ (by unfold FFl; omega)] | rw [hf4 _ _ (by unfold FFl; omega)] | rw [up_s] | rw [up_n (by omega)])) (by omega) (fun hw9 => ?_) (fun hw9 => ?_)
                  | refine c_Thold (cQ_up hq3 (by unfold FPd; omega)) (n := σ3 32 11) (by repeat (first | rw [hf5 _ _ (by unfold FFl; omega)] | rw [hf4 _ _ (by unfold FFl; omega)] | rw [up_s] | rw [up_n (by omega)])) (by omega) (fun hw9 => ?_) (fun hw9 => ?_)
                  · skip
                    conv => whnf
                    refine ⟨(by first | assumption | rfl), by omega, ?_⟩
                    try simp (disch := omega) only [Int.cast_ofNat_Int, up_s, up_a, up_i, mp_a, mp_ge]
                    try simp only [t3]
                    try simp only [t4]
                    try simp only [e3]
                    try simp only [e12]
                    conv => whnf
                    refine ⟨rfl, ?_⟩
                    first
                    | (exfalso; omega)
                    | exact hS _ (Or.inr ⟨by omega, by omega, σ3, m, hr, by omega, by omega, rfl⟩) (by repeat (first | exact hq3 | refine cQ_up ?_ (by unfold FPd; omega)))
                    | exact hF _ _ (fun a j z9 => by unfold FEx at z9; (repeat (first | rw [hf5 a j (by unfold FFl; omega)] | rw [hf4 a j (by unfold FFl; omega)] | rw [up_n (by omega)])); exact hfr a j (by omega)) (by repeat (first | exact hq5 | exact hq4 | refine cQ_up ?_ (by unfold FPd; omega))) (by (repeat (first | rw [hf5 _ _ (by unfold FFl; omega)] | rw [hf4 _ _ (by unfold FFl; omega)] | rw [up_s] | rw [up_n (by omega)])); omega) (by (repeat (first | rw [hf5 _ _ (by unfold FFl; omega)] | rw [hf4 _ _ (by unfold FFl; omega)] | rw [up_s] | rw [up_n (by omega)])); omega) (Or.inr ⟨by omega, by omega, σ3, m, hr, Or.inl ⟨by omega, by omega, rfl⟩⟩)
                    | exact hF _ _ (fun a j z9 => by unfold FEx at z9; (repeat (first | rw [hf5 a j (by unfold FFl; omega)] | rw [hf4 a j (by unfold FFl; omega)] | rw [up_n (by omega)])); exact hfr a j (by omega)) (by repeat (first | exact hq5 | exact hq4 | refine cQ_up ?_ (by unfold FPd; omega))) (by (repeat (first | rw [hf5 _ _ (by unfold FFl; omega)] | rw [hf4 _ _ (by unfold FFl; omega)] | rw [up_s] | rw [up_n (by omega)])); omega) (by (repeat (first | rw [hf5 _ _ (by unfold FFl; omega)] | rw [hf4 _ _ (by unfold FFl; omega)] | rw [up_s] | rw [up_n (by omega)])); omega) (Or.inr ⟨by omega, by omega, σ3, m, hr, Or.inr ⟨by omega, by omega, rfl⟩⟩)
                  · skip
                    conv => whnf
                    refine ⟨(by first | assumption | rfl), by omega, ?_⟩
                    try simp (disch := omega) only [Int.cast_ofNat_Int, up_s, up_a, up_i, mp_a, mp_ge]
                    try simp only [t3]
                    try simp only [t4]
                    try simp only [e3]
                    try simp only [e12]
                    conv => whnf
                    refine ⟨rfl, ?_⟩
                    first
                    | (exfalso; omega)
                    | exact hS _ (Or.inr ⟨by omega, by omega, σ3, m, hr, by omega, by omega, rfl⟩) (by repeat (first | exact hq3 | refine cQ_up ?_ (by unfold FPd; omega)))
                    | exact hF _ _ (fun a j z9 => by unfold FEx at z9; (repeat (first | rw [hf5 a j (by unfold FFl; omega)] | rw [hf4 a j (by unfold FFl; omega)] | rw [up_n (by omega)])); exact hfr a j (by omega)) (by repeat (first | exact hq5 | exact hq4 | refine cQ_up ?_ (by unfold FPd; omega))) (by (repeat (first | rw [hf5 _ _ (by unfold FFl; omega)] | rw [hf4 _ _ (by unfold FFl; omega)] | rw [up_s] | rw [up_n (by omega)])); omega) (by (repeat (first | rw [hf5 _ _ (by unfold FFl; omega)] | rw [hf4 _ _ (by unfold FFl; omega)] | rw [up_s] | rw [up_n (by omega)])); omega) (Or.inr ⟨by omega, by omega, σ3, m, hr, Or.inl ⟨by omega, by omega, rfl⟩⟩)
                    | exact hF _ _ (fun a j z9 => by unfold FEx at z9; (repeat (first | rw [hf5 a j (by unfold FFl; omega)] | rw [hf4 a j (by unfold FFl; omega)] | rw [up_n (by omega)])); exact hfr a j (by omega)) (by repeat (first | exact hq5 | exact hq4 | refine cQ_up ?_ (by unfold FPd; omega))) (by (repeat (first | rw [hf5 _ _ (by unfold FFl; omega)] | rw [hf4 _ _ (by unfold FFl; omega)] | rw [up_s] | rw [up_n (by omega)])); omega) (by (repeat (first | rw [hf5 _ _ (by unfold FFl; omega)] | rw [hf4 _ _ (by unfold FFl; omega)] | rw [up_s] | rw [up_n (by omega)])); omega) (Or.inr ⟨by omega, by omega, σ3, m, hr, Or.inr ⟨by omega, by omega, rfl⟩⟩)
              · simp only [sx_cc, Classical.not_not] at g
                conv => whnf
                refine ⟨Nat.le_of_ble_eq_true rfl, Nat.le_of_ble_eq_true rfl, (by first | assumption | rfl), ?_⟩
                refine c_Tfail hq3 (by decide) (fun σ4 hf4 hq4 => ?_)
                conv => whnf
                refine ⟨Nat.le_of_ble_eq_true rfl, Nat.le_of_ble_eq_true rfl, (by first | assumption | rfl), ?_⟩
                first
                | refine c_Taddk hq4 (by (repeat (first | rw [hf5 _ _ (by unfold FFl; omega)] | rw [hf4 _ _ (by unfold FFl; omega)] | rw [up_s] | rw [up_n (by omega)])); omega) (fun hk9 => ?_) (fun hk9 σ5 hf5 hq5 => ?_)
                | refine c_Taddk hq3 (by omega) (fun hk9 => ?_) (fun hk9 σ5 hf5 hq5 => ?_)
                · skip
                  conv => whnf
                  refine ⟨Nat.le_of_ble_eq_true rfl, Nat.le_of_ble_eq_true rfl, (by first | assumption | rfl), ?_⟩
                  first
                  | refine c_Thold hq5 (n := σ3 32 11) (by repeat (first | rw [hf5 _ _ (by unfold FFl; omega)] | rw [hf4 _ _ (by unfold FFl; omega)] | rw [up_s] | rw [up_n (by omega)])) (by omega) (fun hw9 => ?_) (fun hw9 => ?_)
                  | refine c_Thold (cQ_up hq4 (by unfold FPd; omega)) (n := σ3 32 11) (by repeat (first | rw [hf5 _ _ (by unfold FFl; omega)] | rw [hf4 _ _ (by unfold FFl; omega)] | rw [up_s] | rw [up_n (by omega)])) (by omega) (fun hw9 => ?_) (fun hw9 => ?_)
                  | refine c_Thold (cQ_up hq3 (by unfold FPd; omega)) (n := σ3 32 11) (by repeat (first | rw [hf5 _ _ (by unfold FFl; omega)] | rw [hf4 _ _ (by unfold FFl; omega)] | rw [up_s] | rw [up_n (by omega)])) (by omega) (fun hw9 => ?_) (fun hw9 => ?_)
                  · skip
                    conv => whnf
                    refine ⟨(by first | assumption | rfl), by omega, ?_⟩
                    try simp (disch := omega) only [Int.cast_ofNat_Int, up_s, up_a, up_i, mp_a, mp_ge]
                    try simp only [t3]
                    try simp only [t4]
                    try simp only [e3]
                    try simp only [e12]
                    conv => whnf
                    refine ⟨rfl, ?_⟩
                    first
                    | (exfalso; omega)
                    | exact hS _ (Or.inr ⟨by omega, by omega, σ3, m, hr, by omega, by omega, rfl⟩) (by repeat (first | exact hq3 | refine cQ_up ?_ (by unfold FPd; omega)))
                    | exact hF _ _ (fun a j z9 => by unfold FEx at z9; (repeat (first | rw [hf5 a j (by unfold FFl; omega)] | rw [hf4 a j (by unfold FFl; omega)] | rw [up_n (by omega)])); exact hfr a j (by omega)) (by repeat (first | exact hq5 | exact hq4 | refine cQ_up ?_ (by unfold FPd; omega))) (by (repeat (first | rw [hf5 _ _ (by unfold FFl; omega)] | rw [hf4 _ _ (by unfold FFl; omega)] | rw [up_s] | rw [up_n (by omega)])); omega) (by (repeat (first | rw [hf5 _ _ (by unfold FFl; omega)] | rw [hf4 _ _ (by unfold FFl; omega)] | rw [up_s] | rw [up_n (by omega)])); omega) (Or.inr ⟨by omega, by omega, σ3, m, hr, Or.inl ⟨by omega, by omega, rfl⟩⟩)
                    | exact hF _ _ (fun a j z9 => by unfold FEx at z9; (repeat (first | rw [hf5 a j (by unfold FFl; omega)] | rw [hf4 a j (by unfold FFl; omega)] | rw [up_n (by omega)])); exact hfr a j (by omega)) (by repeat (first | exact hq5 | exact hq4 | refine cQ_up ?_ (by unfold FPd; omega))) (by (repeat (first | rw [hf5 _ _ (by unfold FFl; omega)] | rw [hf4 _ _ (by unfold FFl; omega)] | rw [up_s] | rw [up_n (by omega)])); omega) (by (repeat (first | rw [hf5 _ _ (by unfold FFl; omega)] | rw [hf4 _ _ (by unfold FFl; omega)] | rw [up_s] | rw [up_n (by omega)])); omega) (Or.inr ⟨by omega, by omega, σ3, m, hr, Or.inr ⟨by omega, by omega, rfl⟩⟩)
                  · skip
                    conv => whnf
                    refine ⟨(by first | assumption | rfl), by omega, ?_⟩
                    try simp (disch := omega) only [Int.cast_ofNat_Int, up_s, up_a, up_i, mp_a, mp_ge]
                    try simp only [t3]
                    try simp only [t4]
                    try simp only [e3]
                    try simp only [e12]
                    conv => whnf
                    refine ⟨rfl, ?_⟩
                    first
                    | (exfalso; omega)
                    | exact hS _ (Or.inr ⟨by omega, by omega, σ3, m, hr, by omega, by omega, rfl⟩) (by repeat (first | exact hq3 | refine cQ_up ?_ (by unfold FPd; omega)))
                    | exact hF _ _ (fun a j z9 => by unfold FEx at z9; (repeat (first | rw [hf5 a j (by unfold FFl; omega)] | rw [hf4 a j (by unfold FFl; omega)] | rw [up_n (by omega)])); exact hfr a j (by omega)) (by repeat (first | exact hq5 | exact hq4 | refine cQ_up ?_ (by unfold FPd; omega))) (by (repeat (first | rw [hf5 _ _ (by unfold FFl; omega)] | rw [hf4 _ _ (by unfold FFl; omega)] | rw [up_s] | rw [up_n (by omega)])); omega) (by (repeat (first | rw [hf5 _ _ (by unfold FFl; omega)] | rw [hf4 _ _ (by unfold FFl; omega)] | rw [up_s] | rw [up_n (by omega)])); omega) (Or.inr ⟨by omega, by omega, σ3, m, hr, Or.inl ⟨by omega, by omega, rfl⟩⟩)
                    | exact hF _ _ (fun a j z9 => by unfold FEx at z9; (repeat (first | rw [hf5 a j (by unfold FFl; omega)] | rw [hf4 a j (by unfold FFl; omega)] | rw [up_n (by omega)])); exact hfr a j (by omega)) (by repeat (first | exact hq5 | exact hq4 | refine cQ_up ?_ (by unfold FPd; omega))) (by (repeat (first | rw [hf5 _ _ (by unfold FFl; omega)] | rw [hf4 _ _ (by unfold FFl; omega)] | rw [up_s] | rw [up_n (by omega)])); omega) (by (repeat (first | rw [hf5 _ _ (by unfold FFl; omega)] | rw [hf4 _ _ (by unfold FFl; omega)] | rw [up_s] | rw [up_n (by omega)])); omega) (Or.inr ⟨by omega, by omega, σ3, m, hr, Or.inr ⟨by omega, by omega, rfl⟩⟩)
                · skip
                  conv => whnf
                  refine ⟨Nat.le_of_ble_eq_true rfl, Nat.le_of_ble_eq_true rfl, (by first | assumption | rfl), ?_⟩
                  first
                  | refine c_Thold hq5 (n := σ3 32 11) (by repeat (first | rw [hf5 _ _ (by unfold FFl; omega)] | rw [hf4 _ _ (by unfold FFl; omega)] | rw [up_s] | rw [up_n (by omega)])) (by omega) (fun hw9 => ?_) (fun hw9 => ?_)
                  | refine c_Thold (cQ_up hq4 (by unfold FPd; omega)) (n := σ3 32 11) (by repeat (first | rw [hf5 _ _ (by unfold FFl; omega)] | rw [hf4 _ _ (by unfold FFl; omega)] | rw [up_s] | rw [up_n (by omega)])) (by omega) (fun hw9 => ?_) (fun hw9 => ?_)
                  | refine c_Thold (cQ_up hq3 (by unfold FPd; omega)) (n := σ3 32 11) (by repeat (first | rw [hf5 _ _ (by unfold FFl; omega)] | rw [hf4 _ _ (by unfold FFl; omega)] | rw [up_s] | rw [up_n (by omega)])) (by omega) (fun hw9 => ?_) (fun hw9 => ?_)
                  · skip
                    conv => whnf
                    refine ⟨(by first | assumption | rfl), by omega, ?_⟩
                    try simp (disch := omega) only [Int.cast_ofNat_Int, up_s, up_a, up_i, mp_a, mp_ge]
                    try simp only [t3]
                    try simp only [t4]
                    try simp only [e3]
                    try simp only [e12]
                    conv => whnf
                    refine ⟨rfl, ?_⟩
                    first
                    | (exfalso; omega)
                    | exact hS _ (Or.inr ⟨by omega, by omega, σ3, m, hr, by omega, by omega, rfl⟩) (by repeat (first | exact hq3 | refine cQ_up ?_ (by unfold FPd; omega)))
                    | exact hF _ _ (fun a j z9 => by unfold FEx at z9; (repeat (first | rw [hf5 a j (by unfold FFl; omega)] | rw [hf4 a j (by unfold FFl; omega)] | rw [up_n (by omega)])); exact hfr a j (by omega)) (by repeat (first | exact hq5 | exact hq4 | refine cQ_up ?_ (by unfold FPd; omega))) (by (repeat (first | rw [hf5 _ _ (by unfold FFl; omega)] | rw [hf4 _ _ (by unfold FFl; omega)] | rw [up_s] | rw [up_n (by omega)])); omega) (by (repeat (first | rw [hf5 _ _ (by unfold FFl; omega)] | rw [hf4 _ _ (by unfold FFl; omega)] | rw [up_s] | rw [up_n (by omega)])); omega) (Or.inr ⟨by omega, by omega, σ3, m, hr, Or.inl ⟨by omega, by omega, rfl⟩⟩)
                    | exact hF _ _ (fun a j z9 => by unfold FEx at z9; (repeat (first | rw [hf5 a j (by unfold FFl; omega)] | rw [hf4 a j (by unfold FFl; omega)] | rw [up_n (by omega)])); exact hfr a j (by omega)) (by repeat (first | exact hq5 | exact hq4 | refine cQ_up ?_ (by unfold FPd; omega))) (by (repeat (first | rw [hf5 _ _ (by unfold FFl; omega)] | rw [hf4 _ _ (by unfold FFl; omega)] | rw [up_s] | rw [up_n (by omega)])); omega) (by (repeat (first | rw [hf5 _ _ (by unfold FFl; omega)] | rw [hf4 _ _ (by unfold FFl; omega)] | rw [up_s] | rw [up_n (by omega)])); omega) (Or.inr ⟨by omega, by omega, σ3, m, hr, Or.inr ⟨by omega, by omega, rfl⟩⟩)
                  · skip
                    conv => whnf
                    refine ⟨(by first | assumption | rfl), by omega, ?_⟩
                    try simp (disch := omega) only [Int.cast_ofNat_Int, up_s, up_a, up_i, mp_a, mp_ge]
                    try simp only [t3]
                    try simp only [t4]
                    try simp only [e3]
                    try simp only [e12]
                    conv => whnf
                    refine ⟨rfl, ?_⟩
                    first
                    | (exfalso; omega)
                    | exact hS _ (Or.inr ⟨by omega, by omega, σ3, m, hr, by omega, by omega, rfl⟩) (by repeat (first | exact hq3 | refine cQ_up ?_ (by unfold FPd; omega)))
                    | exact hF _ _ (fun a j z9 => by unfold FEx at z9; (repeat (first | rw [hf5 a j (by unfold FFl; omega)] | rw [hf4 a j (by unfold FFl; omega)] | rw [up_n (by omega)])); exact hfr a j (by omega)) (by repeat (first | exact hq5 | exact hq4 | refine cQ_up ?_ (by unfold FPd; omega))) (by (repeat (first | rw [hf5 _ _ (by unfold FFl; omega)] | rw [hf4 _ _ (by unfold FFl; omega)] | rw [up_s] | rw [up_n (by omega)])); omega) (by (repeat (first | rw [hf5 _ _ (by unfold FFl; omega)] | rw [hf4 _ _ (by unfold FFl; omega)] | rw [up_s] | rw [up_n (by omega)])); omega) (Or.inr ⟨by omega, by omega, σ3, m, hr, Or.inl ⟨by omega, by omega, rfl⟩⟩)
                    | exact hF _ _ (fun a j z9 => by unfold FEx at z9; (repeat (first | rw [hf5 a j (by unfold FFl; omega)] | rw [hf4 a j (by unfold FFl; omega)] | rw [up_n (by omega)])); exact hfr a j (by omega)) (by repeat (first | exact hq5 | exact hq4 | refine cQ_up ?_ (by unfold FPd; omega))) (by (repeat (first | rw [hf5 _ _ (by unfold FFl; omega)] | rw [hf4 _ _ (by unfold FFl; omega)] | rw [up_s] | rw [up_n (by omega)])); omega) (by (repeat (first | rw [hf5 _ _ (by unfold FFl; omega)] | rw [hf4 _ _ (by unfold FFl; omega)] | rw [up_s] | rw [up_n (by omega)])); omega) (Or.inr ⟨by omega, by omega, σ3, m, hr, Or.inr ⟨by omega, by omega, rfl⟩⟩)
          · simp only [sx_cc, Classical.not_not] at g
            have g4 := g
            conv => whnf
            refine ⟨⟨by omega, by omega⟩, ?_⟩
            conv => whnf
            refine ⟨Nat.le_of_ble_eq_true rfl, Nat.le_of_ble_eq_true rfl, (by first | assumption | rfl), ?_⟩
            refine c_Trel hq (by omega) (by omega) (by omega) (fun σ3 m hr => ?_)
            have hr : pRel p (fR5 (fRk (kT tx n9 i))) σ σ3 m := by first | (rw [fR5_4 (by omega)]; exact hr) | (rw [fR5_n (by omega)]; exact hr)
            have hq3 : cQ p σ3 tx n9 i none := cQ_of hq (fun a j z9 => hr.2.1 a j (by unfold FPd at z9; unfold FRl; omega))
            have hrx := hr
            obtain ⟨r0, hfr, r2, r3, r4, r5, r6⟩ := hrx
            have hfr : ∀ a j : Int, ¬ ((a = 32 ∧ (j = 11 ∨ j = 14)) ∨ (a = p + 11 ∧ σ 32 14 ≤ j) ∨ (a = p + 12 ∧ σ 32 14 ≤ j)) → σ3 a j = σ a j := hfr
            have e12 : σ3 32 12 = σ 32 12 := hfr _ _ (by omega)
            have e14 : σ3 p 14 = σ p 14 := hfr _ _ (by omega)
            conv => whnf
            refine ⟨fun g => ?_, fun g => ?_⟩
            · simp only [sx_cc, Classical.not_not] at g
              conv => whnf
              refine ⟨Nat.le_of_ble_eq_true rfl, Nat.le_of_ble_eq_true rfl, (by first | assumption | rfl), ?_⟩
              first
              | refine c_Taddk hq4 (by (repeat (first | rw [hf5 _ _ (by unfold FFl; omega)] | rw [hf4 _ _ (by unfold FFl; omega)] | rw [up_s] | rw [up_n (by omega)])); omega) (fun hk9 => ?_) (fun hk9 σ5 hf5 hq5 => ?_)
              | refine c_Taddk hq3 (by omega) (fun hk9 => ?_) (fun hk9 σ5 hf5 hq5 => ?_)
              · skip
                conv => whnf
                refine ⟨Nat.le_of_ble_eq_true rfl, Nat.le_of_ble_eq_true rfl, (by first | assumption | rfl), ?_⟩
                first
                | refine c_Thold hq5 (n := σ3 32 11) (by repeat (first | rw [hf5 _ _ (by unfold FFl; omega)] | rw [hf4 _ _ (by unfold FFl; omega)] | rw [up_s] | rw [up_n (by omega)])) (by omega) (fun hw9 => ?_) (fun hw9 => ?_)
                | refine c_Thold (cQ_up hq4 (by unfold FPd; omega)) (n := σ3 32 11) (by repeat (first | rw [hf5 _ _ (by unfold FFl; omega)] | rw [hf4 _ _ (by unfold FFl; omega)] | rw [up_s] | rw [up_n (by omega)])) (by omega) (fun hw9 => ?_) (fun hw9 => ?_)
                | refine c_Thold (cQ_up hq3 (by unfold FPd; omega)) (n := σ3 32 11) (by repeat (first | rw [hf5 _ _ (by unfold FFl; omega)] | rw [hf4 _ _ (by unfold FFl; omega)] | rw [up_s] | rw [up_n (by omega)])) (by omega) (fun hw9 => ?_) (fun hw9 => ?_)
                · skip
                  conv => whnf
                  refine ⟨(by first | assumption | rfl), by omega, ?_⟩
                  try simp (disch := omega) only [Int.cast_ofNat_Int, up_s, up_a, up_i, mp_a, mp_ge]
                  try simp only [t3]
                  try simp only [t4]
                  try simp only [e3]
                  try simp only [e12]
                  conv => whnf
                  refine ⟨rfl, ?_⟩
                  first
                  | (exfalso; omega)
                  | exact hS _ (Or.inr ⟨by omega, by omega, σ3, m, hr, by omega, by omega, rfl⟩) (by repeat (first | exact hq3 | refine cQ_up ?_ (by unfold FPd; omega)))
                  | exact hF _ _ (fun a j z9 => by unfold FEx at z9; (repeat (first | rw [hf5 a j (by unfold FFl; omega)] | rw [hf4 a j (by unfold FFl; omega)] | rw [up_n (by omega)])); exact hfr a j (by omega)) (by repeat (first | exact hq5 | exact hq4 | refine cQ_up ?_ (by unfold FPd; omega))) (by (repeat (first | rw [hf5 _ _ (by unfold FFl; omega)] | rw [hf4 _ _ (by unfold FFl; omega)] | rw [up_s] | rw [up_n (by omega)])); omega) (by (repeat (first | rw [hf5 _ _ (by unfold FFl; omega)] | rw [hf4 _ _ (by unfold FFl; omega)] | rw [up_s] | rw [up_n (by omega)])); omega) (Or.inr ⟨by omega, by omega, σ3, m, hr, Or.inl ⟨by omega, by omega, rfl⟩⟩)
                  | exact hF _ _ (fun a j z9 => by unfold FEx at z9; (repeat (first | rw [hf5 a j (by unfold FFl; omega)] | rw [hf4 a j (by unfold FFl; omega)] | rw [up_n (by omega)])); exact hfr a j (by omega)) (by repeat (first | exact hq5 | exact hq4 | refine cQ_up ?_ (by unfold FPd; omega))) (by (repeat (first | rw [hf5 _ _ (by unfold FFl; omega)] | rw [hf4 _ _ (by unfold FFl; omega)] | rw [up_s] | rw [up_n (by omega)])); omega) (by (repeat (first | rw [hf5 _ _ (by unfold FFl; omega)] | rw [hf4 _ _ (by unfold FFl; omega)] | rw [up_s] | rw [up_n (by omega)])); omega) (Or.inr ⟨by omega, by omega, σ3, m, hr, Or.inr ⟨by omega, by omega, rfl⟩⟩)
                · skip
                  conv => whnf
                  refine ⟨(by first | assumption | rfl), by omega, ?_⟩
                  try simp (disch := omega) only [Int.cast_ofNat_Int, up_s, up_a, up_i, mp_a, mp_ge]
                  try simp only [t3]
                  try simp only [t4]
                  try simp only [e3]
                  try simp only [e12]
                  conv => whnf
                  refine ⟨rfl, ?_⟩
                  first
                  | (exfalso; omega)
                  | exact hS _ (Or.inr ⟨by omega, by omega, σ3, m, hr, by omega, by omega, rfl⟩) (by repeat (first | exact hq3 | refine cQ_up ?_ (by unfold FPd; omega)))
                  | exact hF _ _ (fun a j z9 => by unfold FEx at z9; (repeat (first | rw [hf5 a j (by unfold FFl; omega)] | rw [hf4 a j (by unfold FFl; omega)] | rw [up_n (by omega)])); exact hfr a j (by omega)) (by repeat (first | exact hq5 | exact hq4 | refine cQ_up ?_ (by unfold FPd; omega))) (by (repeat (first | rw [hf5 _ _ (by unfold FFl; omega)] | rw [hf4 _ _ (by unfold FFl; omega)] | rw [up_s] | rw [up_n (by omega)])); omega) (by (repeat (first | rw [hf5 _ _ (by unfold FFl; omega)] | rw [hf4 _ _ (by unfold FFl; omega)] | rw [up_s] | rw [up_n (by omega)])); omega) (Or.inr ⟨by omega, by omega, σ3, m, hr, Or.inl ⟨by omega, by omega, rfl⟩⟩)
                  | exact hF _ _ (fun a j z9 => by unfold FEx at z9; (repeat (first | rw [hf5 a j (by unfold FFl; omega)] | rw [hf4 a j (by unfold FFl; omega)] | rw [up_n (by omega)])); exact hfr a j (by omega)) (by repeat (first | exact hq5 | exact hq4 | refine cQ_up ?_ (by unfold FPd; omega))) (by (repeat (first | rw [hf5 _ _ (by unfold FFl; omega)] | rw [hf4 _ _ (by unfold FFl; omega)] | rw [up_s] | rw [up_n (by omega)])); omega) (by (repeat (first | rw [hf5 _ _ (by unfold FFl; omega)] | rw [hf4 _ _ (by unfold FFl; omega)] | rw [up_s] | rw [up_n (by omega)])); omega) (Or.inr ⟨by omega, by omega, σ3, m, hr, Or.inr ⟨by omega, by omega, rfl⟩⟩)
              · skip
                conv => whnf
                refine ⟨Nat.le_of_ble_eq_true rfl, Nat.le_of_ble_eq_true rfl, (by first | assumption | rfl), ?_⟩
                first
                | refine c_Thold hq5 (n := σ3 32 11) (by repeat (first | rw [hf5 _ _ (by unfold FFl; omega)] | rw [hf4 _ _ (by unfold FFl; omega)] | rw [up_s] | rw [up_n (by omega)])) (by omega) (fun hw9 => ?_) (fun hw9 => ?_)
                | refine c_Thold (cQ_up hq4 (by unfold FPd; omega)) (n := σ3 32 11) (by repeat (first | rw [hf5 _ _ (by unfold FFl; omega)] | rw [hf4 _ _ (by unfold FFl; omega)] | rw [up_s] | rw [up_n (by omega)])) (by omega) (fun hw9 => ?_) (fun hw9 => ?_)
                | refine c_Thold (cQ_up hq3 (by unfold FPd; omega)) (n := σ3 32 11) (by repeat (first | rw [hf5 _ _ (by unfold FFl; omega)] | rw [hf4 _ _ (by unfold FFl; omega)] | rw [up_s] | rw [up_n (by omega)])) (by omega) (fun hw9 => ?_) (fun hw9 => ?_)
                · skip
                  conv => whnf
                  refine ⟨(by first | assumption | rfl), by omega, ?_⟩
                  try simp (disch := omega) only [Int.cast_ofNat_Int, up_s, up_a, up_i, mp_a, mp_ge]
                  try simp only [t3]
                  try simp only [t4]
                  try simp only [e3]
                  try simp only [e12]
                  conv => whnf
                  refine ⟨rfl, ?_⟩
                  first
                  | (exfalso; omega)
                  | exact hS _ (Or.inr ⟨by omega, by omega, σ3, m, hr, by omega, by omega, rfl⟩) (by repeat (first | exact hq3 | refine cQ_up ?_ (by unfold FPd; omega)))
                  | exact hF _ _ (fun a j z9 => by unfold FEx at z9; (repeat (first | rw [hf5 a j (by unfold FFl; omega)] | rw [hf4 a j (by unfold FFl; omega)] | rw [up_n (by omega)])); exact hfr a j (by omega)) (by repeat (first | exact hq5 | exact hq4 | refine cQ_up ?_ (by unfold FPd; omega))) (by (repeat (first | rw [hf5 _ _ (by unfold FFl; omega)] | rw [hf4 _ _ (by unfold FFl; omega)] | rw [up_s] | rw [up_n (by omega)])); omega) (by (repeat (first | rw [hf5 _ _ (by unfold FFl; omega)] | rw [hf4 _ _ (by unfold FFl; omega)] | rw [up_s] | rw [up_n (by omega)])); omega) (Or.inr ⟨by omega, by omega, σ3, m, hr, Or.inl ⟨by omega, by omega, rfl⟩⟩)
                  | exact hF _ _ (fun a j z9 => by unfold FEx at z9; (repeat (first | rw [hf5 a j (by unfold FFl; omega)] | rw [hf4 a j (by unfold FFl; omega)] | rw [up_n (by omega)])); exact hfr a j (by omega)) (by repeat (first | exact hq5 | exact hq4 | refine cQ_up ?_ (by unfold FPd; omega))) (by (repeat (first | rw [hf5 _ _ (by unfold FFl; omega)] | rw [hf4 _ _ (by unfold FFl; omega)] | rw [up_s] | rw [up_n (by omega)])); omega) (by (repeat (first | rw [hf5 _ _ (by unfold FFl; omega)] | rw [hf4 _ _ (by unfold FFl; omega)] | rw [up_s] | rw [up_n (by omega)])); omega) (Or.inr ⟨by omega, by omega, σ3, m, hr, Or.inr ⟨by omega, by omega, rfl⟩⟩)
                · skip
                  conv => whnf
                  refine ⟨(by first | assumption | rfl), by omega, ?_⟩
                  try simp (disch := omega) only [Int.cast_ofNat_Int, up_s, up_a, up_i, mp_a, mp_ge]
                  try simp only [t3]
                  try simp only [t4]
                  try simp only [e3]
                  try simp only [e12]
                  conv => whnf
                  refine ⟨rfl, ?_⟩
                  first
                  | (exfalso; omega)
                  | exact hS _ (Or.inr ⟨by omega, by omega, σ3, m, hr, by omega, by omega, rfl⟩) (by repeat (first | exact hq3 | refine cQ_up ?_ (by unfold FPd; omega)))
                  | exact hF _ _ (fun a j z9 => by unfold FEx at z9; (repeat (first | rw [hf5 a j (by unfold FFl; omega)] | rw [hf4 a j (by unfold FFl; omega)] | rw [up_n (by omega)])); exact hfr a j (by omega)) (by repeat (first | exact hq5 | exact hq4 | refine cQ_up ?_ (by unfold FPd; omega))) (by (repeat (first | rw [hf5 _ _ (by unfold FFl; omega)] | rw [hf4 _ _ (by unfold FFl; omega)] | rw [up_s] | rw [up_n (by omega)])); omega) (by (repeat (first | rw [hf5 _ _ (by unfold FFl; omega)] | rw [hf4 _ _ (by unfold FFl; omega)] | rw [up_s] | rw [up_n (by omega)])); omega) (Or.inr ⟨by omega, by omega, σ3, m, hr, Or.inl ⟨by omega, by omega, rfl⟩⟩)
                  | exact hF _ _ (fun a j z9 => by unfold FEx at z9; (repeat (first | rw [hf5 a j (by unfold FFl; omega)] | rw [hf4 a j (by unfold FFl; omega)] | rw [up_n (by omega)])); exact hfr a j (by omega)) (by repeat (first | exact hq5 | exact hq4 | refine cQ_up ?_ (by unfold FPd; omega))) (by (repeat (first | rw [hf5 _ _ (by unfold FFl; omega)] | rw [hf4 _ _ (by unfold FFl; omega)] | rw [up_s] | rw [up_n (by omega)])); omega) (by (repeat (first | rw [hf5 _ _ (by unfold FFl; omega)] | rw [hf4 _ _ (by unfold FFl; omega)] | rw [up_s] | rw [up_n (by omega)])); omega) (Or.inr ⟨by omega, by omega, σ3, m, hr, Or.inr ⟨by omega, by omega, rfl⟩⟩)
            · simp only [sx_cc, Classical.not_not] at g
              conv => whnf
              refine ⟨Nat.le_of_ble_eq_true rfl, Nat.le_of_ble_eq_true rfl, (by first | assumption | rfl), ?_⟩
              refine c_Thrank hq3 ?_
              conv => whnf
              refine ⟨fun g => ?_, fun g => ?_⟩
              · simp only [sx_cc, Classical.not_not] at g
                conv => whnf
                refine ⟨Nat.le_of_ble_eq_true rfl, Nat.le_of_ble_eq_true rfl, (by first | assumption | rfl), ?_⟩
                first
                | refine c_Taddk hq4 (by (repeat (first | rw [hf5 _ _ (by unfold FFl; omega)] | rw [hf4 _ _ (by unfold FFl; omega)] | rw [up_s] | rw [up_n (by omega)])); omega) (fun hk9 => ?_) (fun hk9 σ5 hf5 hq5 => ?_)
                | refine c_Taddk hq3 (by omega) (fun hk9 => ?_) (fun hk9 σ5 hf5 hq5 => ?_)
                · skip
                  conv => whnf
                  refine ⟨Nat.le_of_ble_eq_true rfl, Nat.le_of_ble_eq_true rfl, (by first | assumption | rfl), ?_⟩
                  first
                  | refine c_Thold hq5 (n := σ3 32 11) (by repeat (first | rw [hf5 _ _ (by unfold FFl; omega)] | rw [hf4 _ _ (by unfold FFl; omega)] | rw [up_s] | rw [up_n (by omega)])) (by omega) (fun hw9 => ?_) (fun hw9 => ?_)
                  | refine c_Thold (cQ_up hq4 (by unfold FPd; omega)) (n := σ3 32 11) (by repeat (first | rw [hf5 _ _ (by unfold FFl; omega)] | rw [hf4 _ _ (by unfold FFl; omega)] | rw [up_s] | rw [up_n (by omega)])) (by omega) (fun hw9 => ?_) (fun hw9 => ?_)
                  | refine c_Thold (cQ_up hq3 (by unfold FPd; omega)) (n := σ3 32 11) (by repeat (first | rw [hf5 _ _ (by unfold FFl; omega)] | rw [hf4 _ _ (by unfold FFl; omega)] | rw [up_s] | rw [up_n (by omega)])) (by omega) (fun hw9 => ?_) (fun hw9 => ?_)
                  · skip
                    conv => whnf
                    refine ⟨(by first | assumption | rfl), by omega, ?_⟩
                    try simp (disch := omega) only [Int.cast_ofNat_Int, up_s, up_a, up_i, mp_a, mp_ge]
                    try simp only [t3]
                    try simp only [t4]
                    try simp only [e3]
                    try simp only [e12]
                    conv => whnf
                    refine ⟨rfl, ?_⟩
                    first
                    | (exfalso; omega)
                    | exact hS _ (Or.inr ⟨by omega, by omega, σ3, m, hr, by omega, by omega, rfl⟩) (by repeat (first | exact hq3 | refine cQ_up ?_ (by unfold FPd; omega)))
                    | exact hF _ _ (fun a j z9 => by unfold FEx at z9; (repeat (first | rw [hf5 a j (by unfold FFl; omega)] | rw [hf4 a j (by unfold FFl; omega)] | rw [up_n (by omega)])); exact hfr a j (by omega)) (by repeat (first | exact hq5 | exact hq4 | refine cQ_up ?_ (by unfold FPd; omega))) (by (repeat (first | rw [hf5 _ _ (by unfold FFl; omega)] | rw [hf4 _ _ (by unfold FFl; omega)] | rw [up_s] | rw [up_n (by omega)])); omega) (by (repeat (first | rw [hf5 _ _ (by unfold FFl; omega)] | rw [hf4 _ _ (by unfold FFl; omega)] | rw [up_s] | rw [up_n (by omega)])); omega) (Or.inr ⟨by omega, by omega, σ3, m, hr, Or.inl ⟨by omega, by omega, rfl⟩⟩)
                    | exact hF _ _ (fun a j z9 => by unfold FEx at z9; (repeat (first | rw [hf5 a j (by unfold FFl; omega)] | rw [hf4 a j (by unfold FFl; omega)] | rw [up_n (by omega)])); exact hfr a j (by omega)) (by repeat (first | exact hq5 | exact hq4 | refine cQ_up ?_ (by unfold FPd; omega))) (by (repeat (first | rw [hf5 _ _ (by unfold FFl; omega)] | rw [hf4 _ _ (by unfold FFl; omega)] | rw [up_s] | rw [up_n (by omega)])); omega) (by (repeat (first | rw [hf5 _ _ (by unfold FFl; omega)] | rw [hf4 _ _ (by unfold FFl; omega)] | rw [up_s] | rw [up_n (by omega)])); omega) (Or.inr ⟨by omega, by omega, σ3, m, hr, Or.inr ⟨by omega, by omega, rfl⟩⟩)
                  · skip
                    conv => whnf
                    refine ⟨(by first | assumption | rfl), by omega, ?_⟩
                    try simp (disch := omega) only [Int.cast_ofNat_Int, up_s, up_a, up_i, mp_a, mp_ge]
                    try simp only [t3]
                    try simp only [t4]
                    try simp only [e3]
                    try simp only [e12]
                    conv => whnf
                    refine ⟨rfl, ?_⟩
                    first
                    | (exfalso; omega)
                    | exact hS _ (Or.inr ⟨by omega, by omega, σ3, m, hr, by omega, by omega, rfl⟩) (by repeat (first | exact hq3 | refine cQ_up ?_ (by unfold FPd; omega)))
                    | exact hF _ _ (fun a j z9 => by unfold FEx at z9; (repeat (first | rw [hf5 a j (by unfold FFl; omega)] | rw [hf4 a j (by unfold FFl; omega)] | rw [up_n (by omega)])); exact hfr a j (by omega)) (by repeat (first | exact hq5 | exact hq4 | refine cQ_up ?_ (by unfold FPd; omega))) (by (repeat (first | rw [hf5 _ _ (by unfold FFl; omega)] | rw [hf4 _ _ (by unfold FFl; omega)] | rw [up_s] | rw [up_n (by omega)])); omega) (by (repeat (first | rw [hf5 _ _ (by unfold FFl; omega)] | rw [hf4 _ _ (by unfold FFl; omega)] | rw [up_s] | rw [up_n (by omega)])); omega) (Or.inr ⟨by omega, by omega, σ3, m, hr, Or.inl ⟨by omega, by omega, rfl⟩⟩)
                    | exact hF _ _ (fun a j z9 => by unfold FEx at z9; (repeat (first | rw [hf5 a j (by unfold FFl; omega)] | rw [hf4 a j (by unfold FFl; omega)] | rw [up_n (by omega)])); exact hfr a j (by omega)) (by repeat (first | exact hq5 | exact hq4 | refine cQ_up ?_ (by unfold FPd; omega))) (by (repeat (first | rw [hf5 _ _ (by unfold FFl; omega)] | rw [hf4 _ _ (by unfold FFl; omega)] | rw [up_s] | rw [up_n (by omega)])); omega) (by (repeat (first | rw [hf5 _ _ (by unfold FFl; omega)] | rw [hf4 _ _ (by unfold FFl; omega)] | rw [up_s] | rw [up_n (by omega)])); omega) (Or.inr ⟨by omega, by omega, σ3, m, hr, Or.inr ⟨by omega, by omega, rfl⟩⟩)
                · skip
                  conv => whnf
                  refine ⟨Nat.le_of_ble_eq_true rfl, Nat.le_of_ble_eq_true rfl, (by first | assumption | rfl), ?_⟩
                  first
                  | refine c_Thold hq5 (n := σ3 32 11) (by repeat (first | rw [hf5 _ _ (by unfold FFl; omega)] | rw [hf4 _ _ (by unfold FFl; omega)] | rw [up_s] | rw [up_n (by omega)])) (by omega) (fun hw9 => ?_) (fun hw9 => ?_)
                  | refine c_Thold (cQ_up hq4 (by unfold FPd; omega)) (n := σ3 32 11) (by repeat (first | rw [hf5 _ _ (by unfold FFl; omega)] | rw [hf4 _ _ (by unfold FFl; omega)] | rw [up_s] | rw [up_n (by omega)])) (by omega) (fun hw9 => ?_) (fun hw9 => ?_)
                  | refine c_Thold (cQ_up hq3 (by unfold FPd; omega)) (n := σ3 32 11) (by repeat (first | rw [hf5 _ _ (by unfold FFl; omega)] | rw [hf4 _ _ (by unfold FFl; omega)] | rw [up_s] | rw [up_n (by omega)])) (by omega) (fun hw9 => ?_) (fun hw9 => ?_)
                  · skip
                    conv => whnf
                    refine ⟨(by first | assumption | rfl), by omega, ?_⟩
                    try simp (disch := omega) only [Int.cast_ofNat_Int, up_s, up_a, up_i, mp_a, mp_ge]
                    try simp only [t3]
                    try simp only [t4]
                    try simp only [e3]
                    try simp only [e12]
                    conv => whnf
                    refine ⟨rfl, ?_⟩
                    first
                    | (exfalso; omega)
                    | exact hS _ (Or.inr ⟨by omega, by omega, σ3, m, hr, by omega, by omega, rfl⟩) (by repeat (first | exact hq3 | refine cQ_up ?_ (by unfold FPd; omega)))
                    | exact hF _ _ (fun a j z9 => by unfold FEx at z9; (repeat (first | rw [hf5 a j (by unfold FFl; omega)] | rw [hf4 a j (by unfold FFl; omega)] | rw [up_n (by omega)])); exact hfr a j (by omega)) (by repeat (first | exact hq5 | exact hq4 | refine cQ_up ?_ (by unfold FPd; omega))) (by (repeat (first | rw [hf5 _ _ (by unfold FFl; omega)] | rw [hf4 _ _ (by unfold FFl; omega)] | rw [up_s] | rw [up_n (by omega)])); omega) (by (repeat (first | rw [hf5 _ _ (by unfold FFl; omega)] | rw [hf4 _ _ (by unfold FFl; omega)] | rw [up_s] | rw [up_n (by omega)])); omega) (Or.inr ⟨by omega, by omega, σ3, m, hr, Or.inl ⟨by omega, by omega, rfl⟩⟩)
                    | exact hF _ _ (fun a j z9 => by unfold FEx at z9; (repeat (first | rw [hf5 a j (by unfold FFl; omega)] | rw [hf4 a j (by unfold FFl; omega)] | rw [up_n (by omega)])); exact hfr a j (by omega)) (by repeat (first | exact hq5 | exact hq4 | refine cQ_up ?_ (by unfold FPd; omega))) (by (repeat (first | rw [hf5 _ _ (by unfold FFl; omega)] | rw [hf4 _ _ (by unfold FFl; omega)] | rw [up_s] | rw [up_n (by omega)])); omega) (by (repeat (first | rw [hf5 _ _ (by unfold FFl; omega)] | rw [hf4 _ _ (by unfold FFl; omega)] | rw [up_s] | rw [up_n (by omega)])); omega) (Or.inr ⟨by omega, by omega, σ3, m, hr, Or.inr ⟨by omega, by omega, rfl⟩⟩)
                  · skip
                    conv => whnf
                    refine ⟨(by first | assumption | rfl), by omega, ?_⟩
                    try simp (disch := omega) only [Int.cast_ofNat_Int, up_s, up_a, up_i, mp_a, mp_ge]
                    try simp only [t3]
                    try simp only [t4]
                    try simp only [e3]
                    try simp only [e12]
                    conv => whnf
                    refine ⟨rfl, ?_⟩
                    first
                    | (exfalso; omega)
                    | exact hS _ (Or.inr ⟨by omega, by omega, σ3, m, hr, by omega, by omega, rfl⟩) (by repeat (first | exact hq3 | refine cQ_up ?_ (by unfold FPd; omega)))
                    | exact hF _ _ (fun a j z9 => by unfold FEx at z9; (repeat (first | rw [hf5 a j (by unfold FFl; omega)] | rw [hf4 a j (by unfold FFl; omega)] | rw [up_n (by omega)])); exact hfr a j (by omega)) (by repeat (first | exact hq5 | exact hq4 | refine cQ_up ?_ (by unfold FPd; omega))) (by (repeat (first | rw [hf5 _ _ (by unfold FFl; omega)] | rw [hf4 _ _ (by unfold FFl; omega)] | rw [up_s] | rw [up_n (by omega)])); omega) (by (repeat (first | rw [hf5 _ _ (by unfold FFl; omega)] | rw [hf4 _ _ (by unfold FFl; omega)] | rw [up_s] | rw [up_n (by omega)])); omega) (Or.inr ⟨by omega, by omega, σ3, m, hr, Or.inl ⟨by omega, by omega, rfl⟩⟩)
                    | exact hF _ _ (fun a j z9 => by unfold FEx at z9; (repeat (first | rw [hf5 a j (by unfold FFl; omega)] | rw [hf4 a j (by unfold FFl; omega)] | rw [up_n (by omega)])); exact hfr a j (by omega)) (by repeat (first | exact hq5 | exact hq4 | refine cQ_up ?_ (by unfold FPd; omega))) (by (repeat (first | rw [hf5 _ _ (by unfold FFl; omega)] | rw [hf4 _ _ (by unfold FFl; omega)] | rw [up_s] | rw [up_n (by omega)])); omega) (by (repeat (first | rw [hf5 _ _ (by unfold FFl; omega)] | rw [hf4 _ _ (by unfold FFl; omega)] | rw [up_s] | rw [up_n (by omega)])); omega) (Or.inr ⟨by omega, by omega, σ3, m, hr, Or.inr ⟨by omega, by omega, rfl⟩⟩)
              · simp only [sx_cc, Classical.not_not] at g
                conv => whnf
                refine ⟨Nat.le_of_ble_eq_true rfl, Nat.le_of_ble_eq_true rfl, (by first | assumption | rfl), ?_⟩
                refine c_Tfail hq3 (by decide) (fun σ4 hf4 hq4 => ?_)
                conv => whnf
                refine ⟨Nat.le_of_ble_eq_true rfl, Nat.le_of_ble_eq_true rfl, (by first | assumption | rfl), ?_⟩
                first
                | refine c_Taddk hq4 (by (repeat (first | rw [hf5 _ _ (by unfold FFl; omega)] | rw [hf4 _ _ (by unfold FFl; omega)] | rw [up_s] | rw [up_n (by omega)])); omega) (fun hk9 => ?_) (fun hk9 σ5 hf5 hq5 => ?_)
                | refine c_Taddk hq3 (by omega) (fun hk9 => ?_) (fun hk9 σ5 hf5 hq5 => ?_)
                · skip
                  conv => whnf
                  refine ⟨Nat.le_of_ble_eq_true rfl, Nat.le_of_ble_eq_true rfl, (by first | assumption | rfl), ?_⟩
                  first
                  | refine c_Thold hq5 (n := σ3 32 11) (by repeat (first | rw [hf5 _ _ (by unfold FFl; omega)] | rw [hf4 _ _ (by unfold FFl; omega)] | rw [up_s] | rw [up_n (by omega)])) (by omega) (fun hw9 => ?_) (fun hw9 => ?_)
                  | refine c_Thold (cQ_up hq4 (by unfold FPd; omega)) (n := σ3 32 11) (by repeat (first | rw [hf5 _ _ (by unfold FFl; omega)] | rw [hf4 _ _ (by unfold FFl; omega)] | rw [up_s] | rw [up_n (by omega)])) (by omega) (fun hw9 => ?_) (fun hw9 => ?_)
                  | refine c_Thold (cQ_up hq3 (by unfold FPd; omega)) (n := σ3 32 11) (by repeat (first | rw [hf5 _ _ (by unfold FFl; omega)] | rw [hf4 _ _ (by unfold FFl; omega)] | rw [up_s] | rw [up_n (by omega)])) (by omega) (fun hw9 => ?_) (fun hw9 => ?_)
                  · skip
                    conv => whnf
                    refine ⟨(by first | assumption | rfl), by omega, ?_⟩
                    try simp (disch := omega) only [Int.cast_ofNat_Int, up_s, up_a, up_i, mp_a, mp_ge]
                    try simp only [t3]
                    try simp only [t4]
                    try simp only [e3]
                    try simp only [e12]
                    conv => whnf
                    refine ⟨rfl, ?_⟩
                    first
                    | (exfalso; omega)
                    | exact hS _ (Or.inr ⟨by omega, by omega, σ3, m, hr, by omega, by omega, rfl⟩) (by repeat (first | exact hq3 | refine cQ_up ?_ (by unfold FPd; omega)))
                    | exact hF _ _ (fun a j z9 => by unfold FEx at z9; (repeat (first | rw [hf5 a j (by unfold FFl; omega)] | rw [hf4 a j (by unfold FFl; omega)] | rw [up_n (by omega)])); exact hfr a j (by omega)) (by repeat (first | exact hq5 | exact hq4 | refine cQ_up ?_ (by unfold FPd; omega))) (by (repeat (first | rw [hf5 _ _ (by unfold FFl; omega)] | rw [hf4 _ _ (by unfold FFl; omega)] | rw [up_s] | rw [up_n (by omega)])); omega) (by (repeat (first | rw [hf5 _ _ (by unfold FFl; omega)] | rw [hf4 _ _ (by unfold FFl; omega)] | rw [up_s] | rw [up_n (by omega)])); omega) (Or.inr ⟨by omega, by omega, σ3, m, hr, Or.inl ⟨by omega, by omega, rfl⟩⟩)
                    | exact hF _ _ (fun a j z9 => by unfold FEx at z9; (repeat (first | rw [hf5 a j (by unfold FFl; omega)] | rw [hf4 a j (by unfold FFl; omega)] | rw [up_n (by omega)])); exact hfr a j (by omega)) (by repeat (first | exact hq5 | exact hq4 | refine cQ_up ?_ (by unfold FPd; omega))) (by (repeat (first | rw [hf5 _ _ (by unfold FFl; omega)] | rw [hf4 _ _ (by unfold FFl; omega)] | rw [up_s] | rw [up_n (by omega)])); omega) (by (repeat (first | rw [hf5 _ _ (by unfold FFl; omega)] | rw [hf4 _ _ (by unfold FFl; omega)] | rw [up_s] | rw [up_n (by omega)])); omega) (Or.inr ⟨by omega, by omega, σ3, m, hr, Or.inr ⟨by omega, by omega, rfl⟩⟩)
                  · skip
                    conv => whnf
                    refine ⟨(by first | assumption | rfl), by omega, ?_⟩
                    try simp (disch := omega) only [Int.cast_ofNat_Int, up_s, up_a, up_i, mp_a, mp_ge]
                    try simp only [t3]
                    try simp only [t4]
                    try simp only [e3]
                    try simp only [e12]
                    conv => whnf
                    refine ⟨rfl, ?_⟩
                    first
                    | (exfalso; omega)
                    | exact hS _ (Or.inr ⟨by omega, by omega, σ3, m, hr, by omega, by omega, rfl⟩) (by repeat (first | exact hq3 | refine cQ_up ?_ (by unfold FPd; omega)))
                    | exact hF _ _ (fun a j z9 => by unfold FEx at z9; (repeat (first | rw [hf5 a j (by unfold FFl; omega)] | rw [hf4 a j (by unfold FFl; omega)] | rw [up_n (by omega)])); exact hfr a j (by omega)) (by repeat (first | exact hq5 | exact hq4 | refine cQ_up ?_ (by unfold FPd; omega))) (by (repeat (first | rw [hf5 _ _ (by unfold FFl; omega)] | rw [hf4 _ _ (by unfold FFl; omega)] | rw [up_s] | rw [up_n (by omega)])); omega) (by (repeat (first | rw [hf5 _ _ (by unfold FFl; omega)] | rw [hf4 _ _ (by unfold FFl; omega)] | rw [up_s] | rw [up_n (by omega)])); omega) (Or.inr ⟨by omega, by omega, σ3, m, hr, Or.inl ⟨by omega, by omega, rfl⟩⟩)
                    | exact hF _ _ (fun a j z9 => by unfold FEx at z9; (repeat (first | rw [hf5 a j (by unfold FFl; omega)] | rw [hf4 a j (by unfold FFl; omega)] | rw [up_n (by omega)])); exact hfr a j (by omega)) (by repeat (first | exact hq5 | exact hq4 | refine cQ_up ?_ (by unfold FPd; omega))) (by (repeat (first | rw [hf5 _ _ (by unfold FFl; omega)] | rw [hf4 _ _ (by unfold FFl; omega)] | rw [up_s] | rw [up_n (by omega)])); omega) (by (repeat (first | rw [hf5 _ _ (by unfold FFl; omega)] | rw [hf4 _ _ (by unfold FFl; omega)] | rw [up_s] | rw [up_n (by omega)])); omega) (Or.inr ⟨by omega, by omega, σ3, m, hr, Or.inr ⟨by omega, by omega, rfl⟩⟩)
                · skip
                  conv => whnf
                  refine ⟨Nat.le_of_ble_eq_true rfl, Nat.le_of_ble_eq_true rfl, (by first | assumption | rfl), ?_⟩
                  first
                  | refine c_Thold hq5 (n := σ3 32 11) (by repeat (first | rw [hf5 _ _ (by unfold FFl; omega)] | rw [hf4 _ _ (by unfold FFl; omega)] | rw [up_s] | rw [up_n (by omega)])) (by omega) (fun hw9 => ?_) (fun hw9 => ?_)
                  | refine c_Thold (cQ_up hq4 (by unfold FPd; omega)) (n := σ3 32 11) (by repeat (first | rw [hf5 _ _ (by unfold FFl; omega)] | rw [hf4 _ _ (by unfold FFl; omega)] | rw [up_s] | rw [up_n (by omega)])) (by omega) (fun hw9 => ?_) (fun hw9 => ?_)
                  | refine c_Thold (cQ_up hq3 (by unfold FPd; omega)) (n := σ3 32 11) (by repeat (first | rw [hf5 _ _ (by unfold FFl; omega)] | rw [hf4 _ _ (by unfold FFl; omega)] | rw [up_s] | rw [up_n (by omega)])) (by omega) (fun hw9 => ?_) (fun hw9 => ?_)
                  · skip
                    conv => whnf
                    refine ⟨(by first | assumption | rfl), by omega, ?_⟩
                    try simp (disch := omega) only [Int.cast_ofNat_Int, up_s, up_a, up_i, mp_a, mp_ge]
                    try simp only [t3]
                    try simp only [t4]
                    try simp only [e3]
                    try simp only [e12]
                    conv => whnf
                    refine ⟨rfl, ?_⟩
                    first
                    | (exfalso; omega)
                    | exact hS _ (Or.inr ⟨by omega, by omega, σ3, m, hr, by omega, by omega, rfl⟩) (by repeat (first | exact hq3 | refine cQ_up ?_ (by unfold FPd; omega)))
                    | exact hF _ _ (fun a j z9 => by unfold FEx at z9; (repeat (first | rw [hf5 a j (by unfold FFl; omega)] | rw [hf4 a j (by unfold FFl; omega)] | rw [up_n (by omega)])); exact hfr a j (by omega)) (by repeat (first | exact hq5 | exact hq4 | refine cQ_up ?_ (by unfold FPd; omega))) (by (repeat (first | rw [hf5 _ _ (by unfold FFl; omega)] | rw [hf4 _ _ (by unfold FFl; omega)] | rw [up_s] | rw [up_n (by omega)])); omega) (by (repeat (first | rw [hf5 _ _ (by unfold FFl; omega)] | rw [hf4 _ _ (by unfold FFl; omega)] | rw [up_s] | rw [up_n (by omega)])); omega) (Or.inr ⟨by omega, by omega, σ3, m, hr, Or.inl ⟨by omega, by omega, rfl⟩⟩)
                    | exact hF _ _ (fun a j z9 => by unfold FEx at z9; (repeat (first | rw [hf5 a j (by unfold FFl; omega)] | rw [hf4 a j (by unfold FFl; omega)] | rw [up_n (by omega)])); exact hfr a j (by omega)) (by repeat (first | exact hq5 | exact hq4 | refine cQ_up ?_ (by unfold FPd; omega))) (by (repeat (first | rw [hf5 _ _ (by unfold FFl; omega)] | rw [hf4 _ _ (by unfold FFl; omega)] | rw [up_s] | rw [up_n (by omega)])); omega) (by (repeat (first | rw [hf5 _ _ (by unfold FFl; omega)] | rw [hf4 _ _ (by unfold FFl; omega)] | rw [up_s] | rw [up_n (by omega)])); omega) (Or.inr ⟨by omega, by omega, σ3, m, hr, Or.inr ⟨by omega, by omega, rfl⟩⟩)
                  · skip
                    conv => whnf
                    refine ⟨(by first | assumption | rfl), by omega, ?_⟩
                    try simp (disch := omega) only [Int.cast_ofNat_Int, up_s, up_a, up_i, mp_a, mp_ge]
                    try simp only [t3]
                    try simp only [t4]
                    try simp only [e3]
                    try simp only [e12]
                    conv => whnf
                    refine ⟨rfl, ?_⟩
                    first
                    | (exfalso; omega)
                    | exact hS _ (Or.inr ⟨by omega, by omega, σ3, m, hr, by omega, by omega, rfl⟩) (by repeat (first | exact hq3 | refine cQ_up ?_ (by unfold FPd; omega)))
                    | exact hF _ _ (fun a j z9 => by unfold FEx at z9; (repeat (first | rw [hf5 a j (by unfold FFl; omega)] | rw [hf4 a j (by unfold FFl; omega)] | rw [up_n (by omega)])); exact hfr a j (by omega)) (by repeat (first | exact hq5 | exact hq4 | refine cQ_up ?_ (by unfold FPd; omega))) (by (repeat (first | rw [hf5 _ _ (by unfold FFl; omega)] | rw [hf4 _ _ (by unfold FFl; omega)] | rw [up_s] | rw [up_n (by omega)])); omega) (by (repeat (first | rw [hf5 _ _ (by unfold FFl; omega)] | rw [hf4 _ _ (by unfold FFl; omega)] | rw [up_s] | rw [up_n (by omega)])); omega) (Or.inr ⟨by omega, by omega, σ3, m, hr, Or.inl ⟨by omega, by omega, rfl⟩⟩)
                    | exact hF _ _ (fun a j z9 => by unfold FEx at z9; (repeat (first | rw [hf5 a j (by unfold FFl; omega)] | rw [hf4 a j (by unfold FFl; omega)] | rw [up_n (by omega)])); exact hfr a j (by omega)) (by repeat (first | exact hq5 | exact hq4 | refine cQ_up ?_ (by unfold FPd; omega))) (by (repeat (first | rw [hf5 _ _ (by unfold FFl; omega)] | rw [hf4 _ _ (by unfold FFl; omega)] | rw [up_s] | rw [up_n (by omega)])); omega) (by (repeat (first | rw [hf5 _ _ (by unfold FFl; omega)] | rw [hf4 _ _ (by unfold FFl; omega)] | rw [up_s] | rw [up_n (by omega)])); omega) (Or.inr ⟨by omega, by omega, σ3, m, hr, Or.inr ⟨by omega, by omega, rfl⟩⟩)
        · simp only [sx_cc, Classical.not_not] at g
          conv => whnf
          refine ⟨Nat.le_of_ble_eq_true rfl, Nat.le_of_ble_eq_true rfl, (by first | assumption | rfl), ?_⟩
          refine c_Tfail hq (by decide) (fun σ5 hf5 hq5 => ?_)
          conv => whnf
          refine ⟨rfl, ?_⟩
          exact hF _ _ (fun a j z9 => hf5 a j (by unfold FEx at z9; unfold FFl; omega)) hq5 (by (repeat (first | rw [hf5 _ _ (by unfold FFl; omega)] | rw [hf4 _ _ (by unfold FFl; omega)] | rw [up_s] | rw [up_n (by omega)])); omega) (by (repeat (first | rw [hf5 _ _ (by unfold FFl; omega)] | rw [hf4 _ _ (by unfold FFl; omega)] | rw [up_s] | rw [up_n (by omega)])); omega) (Or.inl ⟨by omega, by omega, rfl⟩)
    · simp only [sx_cc, Classical.not_not] at g
      conv => whnf
      refine ⟨Nat.le_of_ble_eq_true rfl, Nat.le_of_ble_eq_true rfl, (by first | assumption | rfl), ?_⟩
      refine c_Trel hq (by omega) (by omega) (by omega) (fun σ3 m hr => ?_)
      have hq3 : cQ p σ3 tx n9 i none := cQ_of hq (fun a j z9 => hr.2.1 a j (by unfold FPd at z9; unfold FRl; omega))
      have hrx := hr
      obtain ⟨r0, hfr, r2, r3, r4, r5, r6⟩ := hrx
      have hfr : ∀ a j : Int, ¬ ((a = 32 ∧ (j = 11 ∨ j = 14)) ∨ (a = p + 11 ∧ σ 32 14 ≤ j) ∨ (a = p + 12 ∧ σ 32 14 ≤ j)) → σ3 a j = σ a j := hfr
      have e12 : σ3 32 12 = σ 32 12 := hfr _ _ (by omega)
      have e14 : σ3 p 14 = σ p 14 := hfr _ _ (by omega)
      conv => whnf
      refine ⟨(by first | assumption | rfl), ?_⟩
      try simp (disch := omega) only [Int.cast_ofNat_Int, up_s, up_a, up_i, mp_a, mp_ge]
      try simp only [t3]
      try simp only [t4]
      try simp only [e3]
      try simp only [e12]
      conv => whnf
      refine ⟨⟨by omega, by omega⟩, ?_⟩
      conv => whnf
      refine ⟨Nat.le_of_ble_eq_true rfl, ?_⟩
      conv => whnf
      refine ⟨(by first | assumption | rfl), ?_⟩
      try simp (disch := omega) only [Int.cast_ofNat_Int, up_s, up_a, up_i, mp_a, mp_ge]
      try simp only [t3]
      try simp only [t4]
      try simp only [e3]
      try simp only [e12]
      conv => whnf
      refine ⟨(by first | assumption | rfl), ?_⟩
      try simp (disch := omega) only [Int.cast_ofNat_Int, up_s, up_a, up_i, mp_a, mp_ge]
      try simp only [t3]
      try simp only [t4]
      try simp only [e3]
      try simp only [e12]
      conv => whnf
      refine ⟨⟨by omega, by omega⟩, ?_⟩
      conv => whnf
      refine ⟨(by first | assumption | rfl), ?_⟩
      try simp (disch := omega) only [Int.cast_ofNat_Int, up_s, up_a, up_i, mp_a, mp_ge]
      try simp only [t3]
      try simp only [t4]
      try simp only [e3]
      try simp only [e12]
      conv => whnf
      refine ⟨rfl, ?_⟩
      have rp := rel_pos hI hr (by omega)
      refine hS _ (Or.inl ⟨g0, by omega, σ3, m, hr, rp, ?_⟩) (by repeat (first | exact hq3 | refine cQ_up ?_ (by unfold FPd; omega)))
      rw [show (if 0 < σ3 32 11 - 1 then σ3 32 11 - 1 else 0) = σ3 32 11 - 1 by split <;> omega]
end SXP7
