/-! A TEXT IS TOLD, class side (by wip/whole) -/
section SXQ6
variable {X : sx_X} {Q : sx_R} {σ σ0 σ' σ1 σ2 s s' : sx_S} {tx : Int → Int} {n9 p i n nx : Int} {F : Option (Int × Int)}
abbrev FAb (p a j : Int) : Prop := FPd p a j ∨ (a = 32 ∧ j ≤ 14 ∧ ¬ j = 3 ∧ ¬ j = 5 ∧ ¬ j = 10) ∨ a = 33
/-- a teller that begins -/
def pIni (p : Int) (s : sx_S) : Prop := pClr p s ∧ s 32 2 = 0 ∧ s 32 6 = 0 ∧ s 32 7 = 0 ∧ s 32 8 = 0 ∧ s 32 9 = 0 ∧ s 32 14 = 0 ∧ s 35 1 = 0 ∧ s 35 2 = 0
theorem pIni_of (hp : 2 ≤ p ∧ p ≤ 17) (h : pIni p s) (e : ∀ a j : Int, ¬ a = 33 → s' a j = s a j) : pIni p s' := by
  have h9 : ∀ a : Int, ¬ a = 33 → s' a = s a := fun a z => funext fun j => e a j z
  unfold pIni pClr
  rw [h9 32 (by omega), h9 35 (by omega), h9 p (by omega), h9 (p + 1) (by omega), h9 (p + 2) (by omega), h9 (p + 10) (by omega), h9 (p + 13) (by omega), h9 (p + 14) (by omega)]
  exact h
theorem T4_pts : ptL.all (fun q => decide (¬ (q.1 = 32 ∧ q.2.1 = 4) ∧ ¬ (q.1 = 32 ∧ ¬ q.2.1 = 3 ∧ ¬ q.2.1 = 5 ∧ ¬ q.2.1 = 10) ∧ ¬ q.1 = 35)) = true := by decide +kernel
theorem fr.pt4 {σ σ' : sx_S} (h : fr (fun a j => (a = 32 ∧ ¬ j = 3 ∧ ¬ j = 5 ∧ ¬ j = 10) ∨ a = 35) σ σ') (hT : PT σ) : PT σ' := hT.fr (fun q hq => h _ _ (by have h1 := of_decide_eq_true (List.all_eq_true.mp T4_pts q hq); omega))
theorem wT_ini (hp : 2 ≤ p ∧ p ≤ 17) (h : pIni p s) (hb : hHb p s) : wT p s := by
  obtain ⟨⟨c0, c1, c4, c6, c13, c14, ck, cg, ch, cs, ce⟩, l2, f6, f7, f8, f9, w14, k1, k2⟩ := h
  refine ⟨⟨by omega, by omega, by omega, by omega, by omega, by omega⟩, by omega, by omega, by omega, fun c y0 y1 => by rw [ck c y0 y1]; decide, fun c y0 y1 => by rw [cg c y0 y1, c4]; decide, fun f y0 y1 => by omega, fun f y0 y1 => by omega, fun f y0 y1 => by omega, fun f y0 y1 => by omega, fun f y0 y1 => by rw [ch f y0 y1]; decide, fun _ => ⟨c4, c6⟩, hb, fun k y0 y1 => Or.inl (by rw [cs k y0 y1, ce k y0 y1]; decide)⟩
set_option maxRecDepth 20000 in
theorem c_Tbegin (hw : sx_WT X) (hp0 : isP p) (hT : PT σ) (hn : 0 ≤ n ∧ n ≤ 700) (ht : ∀ j : Int, 0 ≤ j → j < n → sx_and (σ 1 j) 255 = tx j) (hb : hHb p σ) (h : ∀ σ', fr (FAb p) σ σ' → cQ p σ' tx n 0 none → pIni p σ' → hHb p σ' → Q none shM σ') : sx_Run X 99 [.inr (.inr 32), .inr (.inr 1), .inl n, .inr (.inr p)] shM σ Q := by
  have hp : 2 ≤ p ∧ p ≤ 17 := by rcases hp0 with rfl | rfl <;> decide
  have k0 := lkP0 hp0
  refine sx_rule0 (own := 10) (cd := kX10_begin) (nL := 4) (by decide +kernel) (by decide +kernel) kX10_begin_ok (by decide +kernel) (Nat.le_of_ble_eq_true rfl) 40 ?_
  conv => whnf
  refine ⟨(by first | assumption | rfl), ?_⟩
  try simp (disch := omega) only [Int.cast_ofNat_Int, up_s, up_a, up_i, mp_a, mp_ge]
  try simp only [t3]
  try simp only [t4]
  try simp only [t5]
  conv => whnf
  refine ⟨(by first | assumption | rfl), ?_⟩
  try simp (disch := omega) only [Int.cast_ofNat_Int, up_s, up_a, up_i, mp_a, mp_ge]
  try simp only [t3]
  try simp only [t4]
  try simp only [t5]
  conv => whnf
  refine ⟨Nat.le_of_ble_eq_true rfl, Nat.le_of_ble_eq_true rfl, (by first | assumption | rfl), ?_⟩
  refine c_Pclear hp0 (fr.pt4 (fun a j z9 => by rw [up_n (by omega)]) hT) (fun σ3 f3 c3 => ?_)
  have T3 : PT σ3 := f3.ptpc hp0 (fr.pt4 (fun a j z9 => by rw [up_n (by omega)]) hT)
  have t5 := pt_32_5 T3
  have t4 : σ3 32 4 = p := (f3 _ _ (by unfold FPc; omega)).trans up_s
  conv => whnf
  refine ⟨(by first | assumption | rfl), ?_⟩
  try simp (disch := omega) only [Int.cast_ofNat_Int, up_s, up_a, up_i, mp_a, mp_ge]
  try simp only [t3]
  try simp only [t4]
  try simp only [t5]
  conv => whnf
  refine ⟨(by first | assumption | rfl), ?_⟩
  try simp (disch := omega) only [Int.cast_ofNat_Int, up_s, up_a, up_i, mp_a, mp_ge]
  try simp only [t3]
  try simp only [t4]
  try simp only [t5]
  conv => whnf
  refine ⟨(by first | assumption | rfl), ?_⟩
  try simp (disch := omega) only [Int.cast_ofNat_Int, up_s, up_a, up_i, mp_a, mp_ge]
  try simp only [t3]
  try simp only [t4]
  try simp only [t5]
  conv => whnf
  refine ⟨(by first | assumption | rfl), ?_⟩
  try simp (disch := omega) only [Int.cast_ofNat_Int, up_s, up_a, up_i, mp_a, mp_ge]
  try simp only [t3]
  try simp only [t4]
  try simp only [t5]
  conv => whnf
  refine ⟨Nat.le_of_ble_eq_true rfl, Nat.le_of_ble_eq_true rfl, ?_⟩
  refine c_fill lk_35 (by decide) ?_
  conv => whnf
  refine ⟨(by first | assumption | rfl), by omega, ?_⟩
  try simp (disch := omega) only [Int.cast_ofNat_Int, up_s, up_a, up_i, mp_a, mp_ge]
  try simp only [t3]
  try simp only [t4]
  try simp only [t5]
  conv => whnf
  refine ⟨(by first | assumption | rfl), by omega, ?_⟩
  try simp (disch := omega) only [Int.cast_ofNat_Int, up_s, up_a, up_i, mp_a, mp_ge]
  try simp only [t3]
  try simp only [t4]
  try simp only [t5]
  conv => whnf
  refine ⟨(by first | assumption | rfl), by omega, ?_⟩
  try simp (disch := omega) only [Int.cast_ofNat_Int, up_s, up_a, up_i, mp_a, mp_ge]
  try simp only [t3]
  try simp only [t4]
  try simp only [t5]
  conv => whnf
  refine ⟨(by first | assumption | rfl), by omega, ?_⟩
  try simp (disch := omega) only [Int.cast_ofNat_Int, up_s, up_a, up_i, mp_a, mp_ge]
  try simp only [t3]
  try simp only [t4]
  try simp only [t5]
  conv => whnf
  refine ⟨(by first | assumption | rfl), ?_⟩
  try simp (disch := omega) only [Int.cast_ofNat_Int, up_s, up_a, up_i, mp_a, mp_ge]
  try simp only [t3]
  try simp only [t4]
  try simp only [t5]
  generalize e4 : sx_up (sx_up (sx_up (sx_up (sx_up (sx_fil (sx_up (sx_up (sx_up σ3 32 0 0) 32 1 (-1)) 32 2 0) 35 ((3 : Nat) : Int) 0) 32 6 0) 32 7 0) 32 8 0) 32 9 0) 32 14 0 = σ4
  have f4 : fr (fun a j => (a = 32 ∧ ¬ j = 3 ∧ ¬ j = 5 ∧ ¬ j = 10) ∨ a = 35) σ3 σ4 := fun a j z9 => by rw [← e4, up_n (by omega), up_n (by omega), up_n (by omega), up_n (by omega), up_n (by omega), fil_a (by omega), up_n (by omega), up_n (by omega), up_n (by omega)]
  have f4b : ∀ j : Int, j = 4 → σ4 32 j = σ3 32 j := fun j z9 => by rw [← e4, up_n (by omega), up_n (by omega), up_n (by omega), up_n (by omega), up_n (by omega), fil_a (by omega), up_n (by omega), up_n (by omega), up_n (by omega)]
  have v0 : σ4 32 0 = 0 := by rw [← e4, up_n (by omega), up_n (by omega), up_n (by omega), up_n (by omega), up_n (by omega), fil_a (by omega), up_n (by omega), up_n (by omega), up_s]
  have v1 : σ4 32 1 = -1 := by rw [← e4, up_n (by omega), up_n (by omega), up_n (by omega), up_n (by omega), up_n (by omega), fil_a (by omega), up_n (by omega), up_s]
  have v2 : σ4 32 2 = 0 := by rw [← e4, up_n (by omega), up_n (by omega), up_n (by omega), up_n (by omega), up_n (by omega), fil_a (by omega), up_s]
  have v6 : σ4 32 6 = 0 := by rw [← e4, up_n (by omega), up_n (by omega), up_n (by omega), up_n (by omega), up_s]
  have v7 : σ4 32 7 = 0 := by rw [← e4, up_n (by omega), up_n (by omega), up_n (by omega), up_s]
  have v8 : σ4 32 8 = 0 := by rw [← e4, up_n (by omega), up_n (by omega), up_s]
  have v9 : σ4 32 9 = 0 := by rw [← e4, up_n (by omega), up_s]
  have v14 : σ4 32 14 = 0 := by rw [← e4, up_s]
  have v35 : ∀ j : Int, 0 ≤ j → j < 3 → σ4 35 j = 0 := fun j y0 y1 => by rw [← e4, up_n (by omega), up_n (by omega), up_n (by omega), up_n (by omega), up_n (by omega), fil_in y0 (show j < ((3 : Nat) : Int) from y1)]
  have T4 := f4.pt4 T3
  have t3 := pt_32_3 T4
  have hpl : ∀ a j : Int, (a ≤ 31) → σ4 a j = σ3 a j := fun a j z9 => f4 a j (by omega)
  conv => whnf
  refine ⟨(by first | assumption | rfl), ?_⟩
  try simp (disch := omega) only [Int.cast_ofNat_Int, up_s, up_a, up_i, mp_a, mp_ge]
  try simp only [t3]
  try simp only [t4]
  try simp only [t5]
  conv => whnf
  refine ⟨Nat.le_of_ble_eq_true rfl, Nat.le_of_ble_eq_true rfl, (by first | assumption | rfl), ?_⟩
  refine c_Xbegin hw T4 (tx := tx) hn (fun j y0 y1 => by rw [hpl 1 j (by omega), f3 1 j (by unfold FPc; omega), up_n (by omega)]; exact ht j y0 y1) (fun σ5 f5 lx5 tk5 => ?_)
  conv => whnf
  refine ⟨rfl, ?_⟩
  have hpr : ∀ a : Int, a ≤ 31 → σ4 a = σ3 a := fun a z => funext fun j => hpl a j z
  have hi4 : pIni p σ4 := by
    refine ⟨?_, v2, v6, v7, v8, v9, v14, v35 1 (by decide) (by decide), v35 2 (by decide) (by decide)⟩
    unfold pClr
    rw [hpr p (by omega), hpr (p + 1) (by omega), hpr (p + 2) (by omega), hpr (p + 10) (by omega), hpr (p + 13) (by omega), hpr (p + 14) (by omega)]
    exact c3
  have hf5 : ∀ a j : Int, ¬ a = 33 → σ5 a j = σ4 a j := fun a j z => f5 a j z
  refine h _ (fun a j z9 => ?_) ⟨hp0, fr.ptxb f5 T4, ?_, lx5, by omega, tk5, ?_, ?_⟩ (pIni_of hp hi4 hf5) (fun f y0 y1 => ?_)
  · unfold FAb FPd at z9
    rw [hf5 a j (by omega), f4 a j (by omega), f3 a j (by unfold FPc; omega), up_n (by omega)]
  · rw [hf5 _ _ (by omega), f4b 4 rfl]; exact t4
  · rw [hf5 _ _ (by omega)]; exact v0
  · rw [hf5 _ _ (by omega)]; exact v1
  · rw [hf5 _ _ (by omega), hpl _ _ (by omega), f3 _ _ (by unfold FPc; omega), up_n (by omega)]; exact hb f y0 y1
set_option maxRecDepth 20000 in
theorem c_Tmore (hq : cQ p σ tx n9 i F) (h1 : σ 32 0 = 0 → ¬ kT tx n9 i = 36 → Q (some (.inl 1)) shM σ) (h0 : (¬ σ 32 0 = 0 ∨ kT tx n9 i = 36) → Q (some (.inl 0)) shM σ) : sx_Run X 100 [.inr (.inr 32)] shM σ Q := by
  have t3 := pt_32_3 hq.pt
  have e3 := hq.tk.2.1
  refine sx_rule0 (own := 10) (cd := kX10_hasMore) (nL := 1) (by decide +kernel) (by decide +kernel) kX10_hasMore_ok (by decide +kernel) (Nat.le_of_ble_eq_true rfl) 40 ?_
  conv => whnf
  refine ⟨(by first | assumption | rfl), ?_⟩
  try simp (disch := omega) only [Int.cast_ofNat_Int, up_s, up_a, up_i, mp_a, mp_ge]
  try simp only [t3]
  try simp only [e3]
  conv => whnf
  refine ⟨(by first | assumption | rfl), ?_⟩
  try simp (disch := omega) only [Int.cast_ofNat_Int, up_s, up_a, up_i, mp_a, mp_ge]
  try simp only [t3]
  try simp only [e3]
  conv => whnf
  refine ⟨fun g => ?_, fun g => ?_⟩
  · simp only [sx_cc, Classical.not_not] at g
    conv => whnf
    refine ⟨fun q9 => by first | (simp at q9; done) | omega, ?_⟩
    first | exact h1 (by omega) (by omega) | exact h0 (by omega)
  · simp only [sx_cc, Classical.not_not] at g
    conv => whnf
    refine ⟨(by first | assumption | rfl), ?_⟩
    try simp (disch := omega) only [Int.cast_ofNat_Int, up_s, up_a, up_i, mp_a, mp_ge]
    try simp only [t3]
    try simp only [e3]
    conv => whnf
    refine ⟨fun g => ?_, fun g => ?_⟩
    · simp only [sx_cc, Classical.not_not] at g
      conv => whnf
      refine ⟨fun q9 => by first | (simp at q9; done) | omega, ?_⟩
      first | exact h1 (by omega) (by omega) | exact h0 (by omega)
    · simp only [sx_cc, Classical.not_not] at g
      conv => whnf
      refine ⟨fun q9 => by first | (simp at q9; done) | omega, ?_⟩
      first | exact h1 (by omega) (by omega) | exact h0 (by omega)
theorem kI_le (h : 0 ≤ i ∧ i ≤ n9) : ∀ m : Nat, i ≤ kI tx n9 m i
  | 0 => Int.le_refl _
  | m + 1 => by
    have h1 := kI_le h m
    have h2 := kE_bd (tx := tx) (n9 := n9) (kI_bd (tx := tx) h m).2
    show i ≤ kE tx n9 (kI tx n9 m i)
    omega
theorem pLn_gt {e' : Int} (hi : 0 ≤ i ∧ i ≤ n9) (h : pLnS p tx n9 s s' i e') : i < e' ∧ e' ≤ n9 := by
  obtain ⟨s1, e, hl, h22, rfl, _, _⟩ := h
  have b1 := kE_bd (tx := tx) (n9 := n9) hi.2
  have b2 := kE_bd (tx := tx) (n9 := n9) b1.2.1
  have b3 := kE_bd (tx := tx) (n9 := n9) b2.2.1
  have b4 := kE_bd (tx := tx) (n9 := n9) b3.2.1
  have b5 := kE_bd (tx := tx) (n9 := n9) b4.2.1
  have b6 := kE_bd (tx := tx) (n9 := n9) b5.2.1
  have b7 := kE_bd (tx := tx) (n9 := n9) b6.2.1
  have he : i ≤ e ∧ e ≤ n9 := by
    rcases hl with ⟨_, _, rfl, _⟩ | ⟨_, _, rfl, _⟩ | ⟨_, _, _, rfl, _⟩ | ⟨_, _, _, rfl, _⟩ | ⟨_, _, m, _, _, _, rfl, _⟩ | ⟨_, _, rfl, _⟩ | ⟨_, hz, _⟩
    · omega
    · omega
    · omega
    · omega
    · have h1 := kI_le (tx := tx) (kE_in (tx := tx) hi) m.toNat
      have h2 := kI_bd (tx := tx) (kE_in (tx := tx) hi) m.toNat
      omega
    · omega
    · obtain ⟨_, _, s2, s3, _, _, ⟨E, m, _, _, rfl, _⟩, _⟩ := hz
      have h1 := kI_le (tx := tx) (kE_in (tx := tx) (kE_in (tx := tx) hi)) m
      have h2 := kI_bd (tx := tx) (kE_in (tx := tx) (kE_in (tx := tx) hi)) m
      omega
  have b9 := kE_bd (tx := tx) (n9 := n9) he.2
  have := b9.2.2.1 (by omega)
  omega
/-- the lines of a text, one behind another -/
def zRun (p : Int) (tx : Int → Int) (n9 : Int) (S : Nat → sx_S) (J : Nat → Int) (m : Nat) : Prop := pIni p (S 0) ∧ hHb p (S 0) ∧ J 0 = 0 ∧ ∀ c : Nat, c < m → ¬ kT tx n9 (J c) = 36 ∧ pLnS p tx n9 (S c) (S (c + 1)) (J c) (J (c + 1))
theorem zRun_s {S : Nat → sx_S} {J : Nat → Int} {m : Nat} {e' : Int} (h : zRun p tx n9 S J m) (h36 : ¬ kT tx n9 (J m) = 36) (hl : pLnS p tx n9 (S m) s' (J m) e') : ∃ (S' : Nat → sx_S) (J' : Nat → Int), zRun p tx n9 S' J' (m + 1) ∧ S' (m + 1) = s' ∧ J' (m + 1) = e' := by
  obtain ⟨h0, hb, hj, h⟩ := h
  refine ⟨fun c => if c ≤ m then S c else s', fun c => if c ≤ m then J c else e', ⟨?_, ?_, ?_, fun c hc => ?_⟩, if_neg (by omega), if_neg (by omega)⟩
  · show pIni p (if 0 ≤ m then S 0 else s'); rw [if_pos (Nat.zero_le _)]; exact h0
  · show hHb p (if 0 ≤ m then S 0 else s'); rw [if_pos (Nat.zero_le _)]; exact hb
  · show (if 0 ≤ m then J 0 else e') = 0; rw [if_pos (Nat.zero_le _)]; exact hj
  · show ¬ kT tx n9 (if c ≤ m then J c else e') = 36 ∧ pLnS p tx n9 (if c ≤ m then S c else s') (if c + 1 ≤ m then S (c + 1) else s') (if c ≤ m then J c else e') (if c + 1 ≤ m then J (c + 1) else e')
    by_cases e : c = m
    · subst e
      have c1 : ¬ c + 1 ≤ c := by omega
      rw [if_pos (Nat.le_refl c), if_pos (Nat.le_refl c), if_neg c1, if_neg c1]
      exact ⟨h36, hl⟩
    · rw [if_pos (by omega), if_pos (by omega), if_pos (by omega), if_pos (by omega)]
      exact h c (by omega)
def zRunF (p : Int) (tx : Int → Int) (n9 : Int) (k pl : Int) : Prop := ∃ (S : Nat → sx_S) (J : Nat → Int) (m : Nat), zRun p tx n9 S J m ∧ ¬ kT tx n9 (J m) = 36 ∧ pLnF p tx n9 (S m) (J m) k pl
abbrev FTx (p a j : Int) : Prop := FAb p a j ∨ (a = 0 ∧ j = 1)
abbrev FTy (p a j : Int) : Prop := FAb p a j ∨ (a = 0 ∧ (j = 1 ∨ j = 2 ∨ j = 3 ∨ j = 9)) ∨ FBg 40 a j ∨ (a = 85 ∧ j = 0) ∨ (a = 110 ∧ (j = 0 ∨ j = 1))
set_option maxRecDepth 20000 in
theorem c_Cclear (h : Q none shM (sx_up (sx_up σ 110 0 0) 110 1 (-1))) : sx_Run X 1 [.inr (.inr 110)] shM σ Q := by
  refine sx_rule0 (own := 0) (cd := kX0_clear) (nL := 1) (by decide +kernel) (by decide +kernel) kX0_clear_ok (by decide +kernel) (Nat.le_of_ble_eq_true rfl) 40 ?_
  conv => whnf
  refine ⟨(by first | assumption | rfl), ?_⟩
  try simp (disch := omega) only [Int.cast_ofNat_Int, up_s, up_a, up_i, mp_a, mp_ge]
  conv => whnf
  refine ⟨(by first | assumption | rfl), ?_⟩
  try simp (disch := omega) only [Int.cast_ofNat_Int, up_s, up_a, up_i, mp_a, mp_ge]
  conv => whnf
  refine ⟨rfl, ?_⟩
  exact h
theorem fPl_cg (hp : 2 ≤ p ∧ p ≤ 17) (h : ∀ a y : Int, 2 ≤ a → s' a y = s a y) : fPl p s' = fPl p s := by
  have h9 : ∀ a : Int, 2 ≤ a → s' a = s a := fun a z => funext fun y => h a y z
  unfold fPl
  rw [h9 p (by omega), h9 (p + 1) (by omega), h9 (p + 2) (by omega), h9 (p + 3) (by omega), h9 (p + 4) (by omega), h9 (p + 5) (by omega), h9 (p + 6) (by omega), h9 (p + 7) (by omega), h9 (p + 8) (by omega), h9 (p + 10) (by omega), h9 (p + 11) (by omega), h9 (p + 12) (by omega), h9 (p + 13) (by omega), h9 (p + 14) (by omega)]
theorem T09_pts : ptL.all (fun q => decide (¬ ((q.1 = 0 ∧ q.2.1 = 9) ∨ (q.1 = 85 ∧ q.2.1 = 0) ∨ (q.1 = 110 ∧ (q.2.1 = 0 ∨ q.2.1 = 1))))) = true := by decide +kernel
theorem c_text_e {σ4 σ5 : sx_S} {P : aP} {A : aM} {W : aW} (hp0 : isP p) (hp : 2 ≤ p ∧ p ≤ 17) (hfi : fr (FTx p) σ σ') (f4 : ∀ a j : Int, ¬ (a = 0 ∧ (j = 2 ∨ j = 3)) → σ4 a j = σ' a j) (x2 : σ4 0 2 = p) (x3 : σ4 0 3 = 19 - p) (f5 : fr (FBg 40) σ4 σ5) (g5 : GC 40 p P A σ5) (c5 : cW P 40 σ5 W) (h01 : σ' 0 1 = 0) (h9 : σ' 32 0 = 0) (h8 : σ' 32 1 = -1) : fr (FTy p) σ (sx_up (sx_up (sx_up (sx_up σ5 0 9 0) 85 0 0) 110 0 0) 110 1 (-1)) ∧ GC 40 p P A (sx_up (sx_up (sx_up (sx_up σ5 0 9 0) 85 0 0) 110 0 0) 110 1 (-1)) ∧ cW P 40 (sx_up (sx_up (sx_up (sx_up σ5 0 9 0) 85 0 0) 110 0 0) 110 1 (-1)) W ∧ (sx_up (sx_up (sx_up (sx_up σ5 0 9 0) 85 0 0) 110 0 0) 110 1 (-1)) 0 1 = 0 ∧ (sx_up (sx_up (sx_up (sx_up σ5 0 9 0) 85 0 0) 110 0 0) 110 1 (-1)) 0 2 = p ∧ (sx_up (sx_up (sx_up (sx_up σ5 0 9 0) 85 0 0) 110 0 0) 110 1 (-1)) 0 3 = 19 - p ∧ (sx_up (sx_up (sx_up (sx_up σ5 0 9 0) 85 0 0) 110 0 0) 110 1 (-1)) 0 9 = 0 ∧ (sx_up (sx_up (sx_up (sx_up σ5 0 9 0) 85 0 0) 110 0 0) 110 1 (-1)) 85 0 = 0 ∧ (sx_up (sx_up (sx_up (sx_up σ5 0 9 0) 85 0 0) 110 0 0) 110 1 (-1)) 110 0 = 0 ∧ (sx_up (sx_up (sx_up (sx_up σ5 0 9 0) 85 0 0) 110 0 0) 110 1 (-1)) 110 1 = -1 ∧ (sx_up (sx_up (sx_up (sx_up σ5 0 9 0) 85 0 0) 110 0 0) 110 1 (-1)) 32 0 = 0 ∧ (sx_up (sx_up (sx_up (sx_up σ5 0 9 0) 85 0 0) 110 0 0) 110 1 (-1)) 32 1 = -1 := by
  have u9 : ∀ a j : Int, ¬ ((a = 0 ∧ j = 9) ∨ (a = 85 ∧ j = 0) ∨ (a = 110 ∧ (j = 0 ∨ j = 1))) → (sx_up (sx_up (sx_up (sx_up σ5 0 9 0) 85 0 0) 110 0 0) 110 1 (-1)) a j = σ5 a j := fun a j z9 => by rw [up_n (by omega), up_n (by omega), up_n (by omega), up_n (by omega)]
  refine ⟨fun a y z9 => ?_, g5.of (Or.inl rfl) hp0 (g5.1.fr (fun q hq => u9 _ _ (by have h1 := of_decide_eq_true (List.all_eq_true.mp T09_pts q hq); omega))) (fun a y y0 y1 => u9 a y (by omega)), c5.of (fun a y z => u9 a y (by omega)), ?_, ?_, ?_, ?_, ?_, ?_, ?_, ?_, ?_⟩
  · rw [u9 a y (fun z => z9 (by rcases z with z | z | z; exact Or.inr (Or.inl ⟨z.1, Or.inr (Or.inr (Or.inr z.2))⟩); exact Or.inr (Or.inr (Or.inr (Or.inl z))); exact Or.inr (Or.inr (Or.inr (Or.inr z))))), f5 a y (fun z => z9 (Or.inr (Or.inr (Or.inl z)))), f4 a y (fun z => z9 (Or.inr (Or.inl ⟨z.1, by rcases z.2 with z | z; exact Or.inr (Or.inl z); exact Or.inr (Or.inr (Or.inl z))⟩)))]
    exact hfi a y (fun z => z9 (by unfold FTx at z; unfold FTy; rcases z with z | z; exact Or.inl z; exact Or.inr (Or.inl ⟨z.1, Or.inl z.2⟩)))
  · rw [u9 _ _ (by omega), f5 _ _ (by unfold FBg; omega), f4 _ _ (by omega)]; exact h01
  · rw [u9 _ _ (by omega), f5 _ _ (by unfold FBg; omega)]; exact x2
  · rw [u9 _ _ (by omega), f5 _ _ (by unfold FBg; omega)]; exact x3
  · rw [up_n (by omega), up_n (by omega), up_n (by omega), up_s]
  · rw [up_n (by omega), up_n (by omega), up_s]
  · rw [up_n (by omega), up_s]
  · rw [up_s]
  · rw [u9 _ _ (by omega), f5 _ _ (by unfold FBg; omega), f4 _ _ (by omega)]; exact h9
  · rw [u9 _ _ (by omega), f5 _ _ (by unfold FBg; omega), f4 _ _ (by omega)]; exact h8
theorem T02_pts : ptL.all (fun q => decide (¬ (q.1 = 0 ∧ (q.2.1 = 1 ∨ q.2.1 = 2 ∨ q.2.1 = 3)))) = true := by decide +kernel
theorem fr.pt01 {σ : sx_S} {v : Int} (hT : PT σ) : PT (sx_up σ 0 1 v) := hT.fr (fun q hq => up_n (by have h1 := of_decide_eq_true (List.all_eq_true.mp T02_pts q hq); omega))
theorem scc_of (h : SCC σ) (e : ∀ a j : Int, a = 39 ∨ a = 37 → σ' a j = σ a j) : SCC σ' := by
  unfold SCC
  rw [show σ' 39 = σ 39 from funext fun j => e 39 j (by omega), e 37 2 (by omega)]
  exact h
theorem pLn0_2 {e : Int} (hp : 2 ≤ p ∧ p ≤ 17) (h : pLn0 p tx n9 s s' i e) : s' 32 2 = s 32 2 := by
  rcases h with ⟨_, _, _, f, _⟩ | ⟨_, _, _, f, _⟩ | ⟨_, _, _, _, f, _⟩ | ⟨_, _, _, _, f, _⟩ | ⟨_, _, m, _, _, _, _, f, _⟩ | ⟨_, _, _, f, _⟩ | ⟨_, _, f⟩
  · exact f _ _ (by unfold FZf FNx; omega)
  · exact f _ _ (by unfold FZk FNx; omega)
  · exact f _ _ (by unfold FZm FNx; omega)
  · exact f _ _ (by unfold FZw FNx; omega)
  · exact f _ _ (by unfold FZc FNx; omega)
  · exact f _ _ (by unfold FZs FNx; omega)
  · exact f _ _ (by unfold FLa; omega)
set_option maxRecDepth 20000 in
theorem c_text (hw : sx_WT X) (hp0 : isP p) (hT : PT σ) (e2 : σ 0 2 = 19 - p) (e3 : σ 0 3 = p) {n0 : Int} (en : σ 0 1 = n0) (hn : 0 ≤ n0 ∧ n0 ≤ 700) (ht : ∀ j : Int, 0 ≤ j → j < n0 → sx_and (σ 1 j) 255 = tx j) (hb : hHb p σ) (hsc : SCC σ) (h0 : ¬ (0 ≤ nx ∧ nx ≤ n0) → Q (some (.inl (-2))) shM σ) (hF : (0 ≤ nx ∧ nx ≤ n0) → ∀ (σ' : sx_S) (k pl : Int), fr (FTx p) σ σ' → PT σ' → σ' 0 1 = 0 → σ' 32 0 = k → σ' 32 1 = pl → hHb p σ' → zRunF p tx nx k pl → Q (some (.inl (-1))) shM σ') (hS : (0 ≤ nx ∧ nx ≤ n0) → ∀ (σ' : sx_S) (S : Nat → sx_S) (J : Nat → Int) (m : Nat), zRun p tx nx S J m → kT tx nx (J m) = 36 → wT p (S m) → fr (FTy p) σ σ' → GC 40 p (fPl p (S m)) (aM0 (fPl p (S m))) σ' → cW (fPl p (S m)) 40 σ' (aW0 (fPl p (S m))) → σ' 0 1 = 0 → σ' 0 2 = p → σ' 0 3 = 19 - p → σ' 0 9 = 0 → σ' 85 0 = 0 → σ' 110 0 = 0 → σ' 110 1 = -1 → σ' 32 0 = 0 → σ' 32 1 = -1 → Q (some (.inl (m : Int))) shM σ') : sx_Run X 125 [.inr (.inr 0), .inl nx] shM σ Q := by
  have hp : 2 ≤ p ∧ p ≤ 17 := by rcases hp0 with rfl | rfl <;> decide
  have t04 := pt_0_4 hT
  have t00 := pt_0_0 hT
  refine sx_rule2 (own := 11) (cd := kX11_text) (nL := 3) (by decide +kernel) (by decide +kernel) kX11_text_ok (by decide +kernel) (Nat.le_of_ble_eq_true rfl) [38] 40 (fun n t L st _ σ' => (t = 38 ∧ ∃ c : Int, st = [] ∧ L = [some (.inr (.inr (0))), some (.inl (nx)), some (.inl (c))] ∧ ((∃ (j : Int) (F : Option (Int × Int)), cQ p σ' tx nx j F ∧ fr (FTx p) σ σ' ∧ hHb p σ' ∧ σ' 0 1 = 0 ∧ (0 ≤ c ∧ c ≤ nx) ∧ ((F = none ∧ c ≤ j ∧ wT p σ' ∧ σ' 32 2 = c ∧ ∃ (S : Nat → sx_S) (J : Nat → Int), zRun p tx nx S J c.toNat ∧ S c.toNat = σ' ∧ J c.toNat = j) ∨ (∃ k pl : Int, F = some (k, pl) ∧ zRunF p tx nx k pl))) ∧ (0 ≤ nx ∧ nx ≤ n0)) ∧ n = (nx - c).toNat)) ?_ ?_
  · skip
    conv => whnf
    refine ⟨fun g => ?_, fun g => ?_⟩
    · simp only [sx_cc, Classical.not_not] at g
      conv => whnf
      refine ⟨fun q9 => by first | (simp at q9; done) | omega, ?_⟩
      exact h0 (by omega)
    · simp only [sx_cc, Classical.not_not] at g
      conv => whnf
      refine ⟨(by first | assumption | rfl), ?_⟩
      try simp (disch := omega) only [Int.cast_ofNat_Int, up_s, up_a, up_i, mp_a, mp_ge]
      try simp only [t04]
      try simp only [t00]
      try simp only [t06]
      try simp only [t010]
      try simp only [t011]
      try simp only [en]
      try simp only [e3]
      try simp only [e2]
      try simp only [x2]
      try simp only [x3]
      try simp only [el0]
      try simp only [el2]
      conv => whnf
      refine ⟨fun g => ?_, fun g => ?_⟩
      · simp only [sx_cc, Classical.not_not] at g
        conv => whnf
        refine ⟨(by first | assumption | rfl), ?_⟩
        try simp (disch := omega) only [Int.cast_ofNat_Int, up_s, up_a, up_i, mp_a, mp_ge]
        try simp only [t04]
        try simp only [t00]
        try simp only [t06]
        try simp only [t010]
        try simp only [t011]
        try simp only [en]
        try simp only [e3]
        try simp only [e2]
        try simp only [x2]
        try simp only [x3]
        try simp only [el0]
        try simp only [el2]
        conv => whnf
        refine ⟨(by first | assumption | rfl), ?_⟩
        try simp (disch := omega) only [Int.cast_ofNat_Int, up_s, up_a, up_i, mp_a, mp_ge]
        try simp only [t04]
        try simp only [t00]
        try simp only [t06]
        try simp only [t010]
        try simp only [t011]
        try simp only [en]
        try simp only [e3]
        try simp only [e2]
        try simp only [x2]
        try simp only [x3]
        try simp only [el0]
        try simp only [el2]
        conv => whnf
        refine ⟨(by first | assumption | rfl), ?_⟩
        try simp (disch := omega) only [Int.cast_ofNat_Int, up_s, up_a, up_i, mp_a, mp_ge]
        try simp only [t04]
        try simp only [t00]
        try simp only [t06]
        try simp only [t010]
        try simp only [t011]
        try simp only [en]
        try simp only [e3]
        try simp only [e2]
        try simp only [x2]
        try simp only [x3]
        try simp only [el0]
        try simp only [el2]
        conv => whnf
        refine ⟨(by first | assumption | rfl), ?_⟩
        try simp (disch := omega) only [Int.cast_ofNat_Int, up_s, up_a, up_i, mp_a, mp_ge]
        try simp only [t04]
        try simp only [t00]
        try simp only [t06]
        try simp only [t010]
        try simp only [t011]
        try simp only [en]
        try simp only [e3]
        try simp only [e2]
        try simp only [x2]
        try simp only [x3]
        try simp only [el0]
        try simp only [el2]
        conv => whnf
        refine ⟨Nat.le_of_ble_eq_true rfl, Nat.le_of_ble_eq_true rfl, (by first | assumption | rfl), ?_⟩
        refine c_Tbegin hw hp0 (fr.pt01 hT) (n := nx) (tx := tx) (by omega) (fun j y0 y1 => by rw [up_n (by omega)]; exact ht j y0 (by omega)) (fun f y0 y1 => by rw [up_n (by omega)]; exact hb f y0 y1) (fun σ5 f5 hq5 hi5 hb5 => ?_)
        conv => whnf
        refine ⟨_, ⟨rfl, _, rfl, rfl, ?_, rfl⟩⟩
        refine ⟨⟨0, none, hq5, fun a j z9 => ?_, hb5, ?_, by omega, Or.inl ⟨rfl, by omega, wT_ini hp hi5 hb5, hi5.2.1, fun _ => σ5, fun _ => 0, ⟨hi5, hb5, rfl, fun c hc => by omega⟩, rfl, rfl⟩⟩, by omega⟩
        · unfold FTx FAb FPd at z9; rw [f5 a j (by unfold FAb FPd; omega), up_n (by omega)]
        · rw [f5 _ _ (by unfold FAb FPd; omega), up_s]
      · simp only [sx_cc, Classical.not_not] at g
        conv => whnf
        refine ⟨fun q9 => by first | (simp at q9; done) | omega, ?_⟩
        exact h0 (by omega)
  · intro n t L st σ' hk
    obtain ⟨rfl, c, rfl, rfl, hc, rfl⟩ := hk
    obtain ⟨⟨j, F, hqi, hfi, hbi, h01, hcn, hab⟩, hn9⟩ := hc
    have t04 := pt_0_4 hqi.pt
    have e3 : σ' 0 3 = p := (hfi _ _ (by unfold FTx FAb FPd; omega)).trans e3
    have e2 : σ' 0 2 = 19 - p := (hfi _ _ (by unfold FTx FAb FPd; omega)).trans e2
    conv => whnf
    refine ⟨fun g => ?_, fun g => ?_⟩
    · simp only [sx_cc, Classical.not_not] at g
      conv => whnf
      refine ⟨(by first | assumption | rfl), ?_⟩
      try simp (disch := omega) only [Int.cast_ofNat_Int, up_s, up_a, up_i, mp_a, mp_ge]
      try simp only [t04]
      try simp only [t00]
      try simp only [t06]
      try simp only [t010]
      try simp only [t011]
      try simp only [en]
      try simp only [e3]
      try simp only [e2]
      try simp only [x2]
      try simp only [x3]
      try simp only [el0]
      try simp only [el2]
      conv => whnf
      refine ⟨(by first | assumption | rfl), ?_⟩
      try simp (disch := omega) only [Int.cast_ofNat_Int, up_s, up_a, up_i, mp_a, mp_ge]
      try simp only [t04]
      try simp only [t00]
      try simp only [t06]
      try simp only [t010]
      try simp only [t011]
      try simp only [en]
      try simp only [e3]
      try simp only [e2]
      try simp only [x2]
      try simp only [x3]
      try simp only [el0]
      try simp only [el2]
      conv => whnf
      refine ⟨fun g => ?_, fun g => ?_⟩
      · simp only [sx_cc, Classical.not_not] at g
        have h9 : σ' 32 0 = 0 := g
        have eF := pFl_n hqi.fl h9
        obtain ⟨_, hcj, hwt, hl2, S, J, hR, hSc, hJc⟩ := hab.resolve_right (fun ⟨k9, pl9, e9, _⟩ => by rw [e9] at eF; exact absurd eF (by simp))
        subst eF
        have h36 : kT tx nx j = 36 := by
          first
          | (rcases hmo with z | z; exact absurd h9 z; exact z)
          | (have hj : j = nx := by have := hqi.bi; omega
             rw [hj]; exact kT_n9)
        conv => whnf
        refine ⟨(by first | assumption | rfl), ?_⟩
        try simp (disch := omega) only [Int.cast_ofNat_Int, up_s, up_a, up_i, mp_a, mp_ge]
        try simp only [t04]
        try simp only [t00]
        try simp only [t06]
        try simp only [t010]
        try simp only [t011]
        try simp only [en]
        try simp only [e3]
        try simp only [e2]
        try simp only [x2]
        try simp only [x3]
        try simp only [el0]
        try simp only [el2]
        conv => whnf
        refine ⟨(by first | assumption | rfl), ?_⟩
        try simp (disch := omega) only [Int.cast_ofNat_Int, up_s, up_a, up_i, mp_a, mp_ge]
        try simp only [t04]
        try simp only [t00]
        try simp only [t06]
        try simp only [t010]
        try simp only [t011]
        try simp only [en]
        try simp only [e3]
        try simp only [e2]
        try simp only [x2]
        try simp only [x3]
        try simp only [el0]
        try simp only [el2]
        conv => whnf
        refine ⟨(by first | assumption | rfl), ?_⟩
        try simp (disch := omega) only [Int.cast_ofNat_Int, up_s, up_a, up_i, mp_a, mp_ge]
        try simp only [t04]
        try simp only [t00]
        try simp only [t06]
        try simp only [t010]
        try simp only [t011]
        try simp only [en]
        try simp only [e3]
        try simp only [e2]
        try simp only [x2]
        try simp only [x3]
        try simp only [el0]
        try simp only [el2]
        conv => whnf
        refine ⟨(by first | assumption | rfl), ?_⟩
        try simp (disch := omega) only [Int.cast_ofNat_Int, up_s, up_a, up_i, mp_a, mp_ge]
        try simp only [t04]
        try simp only [t00]
        try simp only [t06]
        try simp only [t010]
        try simp only [t011]
        try simp only [en]
        try simp only [e3]
        try simp only [e2]
        try simp only [x2]
        try simp only [x3]
        try simp only [el0]
        try simp only [el2]
        generalize e4 : sx_up (sx_up σ' 0 3 (19 - p)) 0 2 p = σ4
        have f4 : ∀ a j : Int, ¬ (a = 0 ∧ (j = 2 ∨ j = 3)) → σ4 a j = σ' a j := fun a j z9 => by rw [← e4, up_n (by omega), up_n (by omega)]
        have x2 : σ4 0 2 = p := by rw [← e4, up_s]
        have x3 : σ4 0 3 = 19 - p := by rw [← e4, up_n (by omega), up_s]
        have T4 : PT σ4 := hqi.pt.fr (fun q hq => f4 _ _ (by have h1 := of_decide_eq_true (List.all_eq_true.mp T02_pts q hq); omega))
        have t06 := pt_0_6 T4
        have w4 : wT p σ4 := wT_fr hp hwt (fun a j z => f4 a j (by omega))
        have s4 : SCC σ4 := scc_of hsc (fun a j z => (f4 a j (by omega)).trans (hfi a j (by unfold FTx FAb FPd; omega)))
        conv => whnf
        refine ⟨(by first | assumption | rfl), ?_⟩
        try simp (disch := omega) only [Int.cast_ofNat_Int, up_s, up_a, up_i, mp_a, mp_ge]
        try simp only [t04]
        try simp only [t00]
        try simp only [t06]
        try simp only [t010]
        try simp only [t011]
        try simp only [en]
        try simp only [e3]
        try simp only [e2]
        try simp only [x2]
        try simp only [x3]
        try simp only [el0]
        try simp only [el2]
        conv => whnf
        refine ⟨(by first | assumption | rfl), ?_⟩
        try simp (disch := omega) only [Int.cast_ofNat_Int, up_s, up_a, up_i, mp_a, mp_ge]
        try simp only [t04]
        try simp only [t00]
        try simp only [t06]
        try simp only [t010]
        try simp only [t011]
        try simp only [en]
        try simp only [e3]
        try simp only [e2]
        try simp only [x2]
        try simp only [x3]
        try simp only [el0]
        try simp only [el2]
        conv => whnf
        refine ⟨Nat.le_of_ble_eq_true rfl, Nat.le_of_ble_eq_true rfl, (by first | assumption | rfl), ?_⟩
        refine c_Sbegin (s := 40) (P := fPl p σ4) (Or.inl rfl) hp0 (wP_F w4) T4 (cP_F w4) s4 (fun σ5 f5 g5 c5 => ?_)
        have t010 := pt_0_10 g5.1
        have t011 := pt_0_11 g5.1
        have t04 := pt_0_4 g5.1
        have el2 : σ5 32 2 = c := (f5 _ _ (by unfold FBg; omega)).trans ((f4 _ _ (by omega)).trans hl2)
        conv => whnf
        refine ⟨(by first | assumption | rfl), by omega, ?_⟩
        try simp (disch := omega) only [Int.cast_ofNat_Int, up_s, up_a, up_i, mp_a, mp_ge]
        try simp only [t04]
        try simp only [t00]
        try simp only [t06]
        try simp only [t010]
        try simp only [t011]
        try simp only [en]
        try simp only [e3]
        try simp only [e2]
        try simp only [x2]
        try simp only [x3]
        try simp only [el0]
        try simp only [el2]
        conv => whnf
        refine ⟨(by first | assumption | rfl), ?_⟩
        try simp (disch := omega) only [Int.cast_ofNat_Int, up_s, up_a, up_i, mp_a, mp_ge]
        try simp only [t04]
        try simp only [t00]
        try simp only [t06]
        try simp only [t010]
        try simp only [t011]
        try simp only [en]
        try simp only [e3]
        try simp only [e2]
        try simp only [x2]
        try simp only [x3]
        try simp only [el0]
        try simp only [el2]
        conv => whnf
        refine ⟨(by first | assumption | rfl), ?_⟩
        try simp (disch := omega) only [Int.cast_ofNat_Int, up_s, up_a, up_i, mp_a, mp_ge]
        try simp only [t04]
        try simp only [t00]
        try simp only [t06]
        try simp only [t010]
        try simp only [t011]
        try simp only [en]
        try simp only [e3]
        try simp only [e2]
        try simp only [x2]
        try simp only [x3]
        try simp only [el0]
        try simp only [el2]
        conv => whnf
        refine ⟨(by first | assumption | rfl), ?_⟩
        try simp (disch := omega) only [Int.cast_ofNat_Int, up_s, up_a, up_i, mp_a, mp_ge]
        try simp only [t04]
        try simp only [t00]
        try simp only [t06]
        try simp only [t010]
        try simp only [t011]
        try simp only [en]
        try simp only [e3]
        try simp only [e2]
        try simp only [x2]
        try simp only [x3]
        try simp only [el0]
        try simp only [el2]
        conv => whnf
        refine ⟨Nat.le_of_ble_eq_true rfl, Nat.le_of_ble_eq_true rfl, (by first | assumption | rfl), ?_⟩
        refine c_Cclear ?_
        conv => whnf
        refine ⟨(by first | assumption | rfl), ?_⟩
        try simp (disch := omega) only [Int.cast_ofNat_Int, up_s, up_a, up_i, mp_a, mp_ge]
        try simp only [t04]
        try simp only [t00]
        try simp only [t06]
        try simp only [t010]
        try simp only [t011]
        try simp only [en]
        try simp only [e3]
        try simp only [e2]
        try simp only [x2]
        try simp only [x3]
        try simp only [el0]
        try simp only [el2]
        conv => whnf
        refine ⟨(by first | assumption | rfl), ?_⟩
        try simp (disch := omega) only [Int.cast_ofNat_Int, up_s, up_a, up_i, mp_a, mp_ge]
        try simp only [t04]
        try simp only [t00]
        try simp only [t06]
        try simp only [t010]
        try simp only [t011]
        try simp only [en]
        try simp only [e3]
        try simp only [e2]
        try simp only [x2]
        try simp only [x3]
        try simp only [el0]
        try simp only [el2]
        conv => whnf
        refine ⟨fun q9 => by first | (simp at q9; done) | omega, ?_⟩
        have eP : fPl p σ4 = fPl p (S c.toNat) := by rw [hSc]; exact fPl_cg hp (fun a y z => f4 a y (by clear hab; omega))
        rw [eP] at g5 c5
        obtain ⟨d1, d2, d3, d4, d5, d6, d7, d8, d9, d10, d11, d12⟩ := c_text_e hp0 hp hfi f4 x2 x3 f5 g5 c5 h01 h9 hqi.fl.2
        have hs9 := hS hn9 _ S J c.toNat hR (by rw [hJc]; exact h36) (by rw [hSc]; exact hwt) d1 d2 d3 d4 d5 d6 d7 d8 d9 d10 d11 d12
        rw [show ((c.toNat : Nat) : Int) = c from Int.toNat_of_nonneg hcn.1] at hs9
        exact hs9
      · simp only [sx_cc, Classical.not_not] at g
        conv => whnf
        refine ⟨fun q9 => by first | (simp at q9; done) | omega, ?_⟩
        obtain ⟨q, eF⟩ := pFl_s hqi.fl g
        rcases hab with ⟨e9, _⟩ | ⟨k, pl, e9, hz⟩
        · rw [e9] at eF; exact absurd eF (by simp)
        · subst e9
          exact hF hn9 _ k pl hfi hqi.pt h01 hqi.fl.1 hqi.fl.2.1 hbi hz
    · simp only [sx_cc, Classical.not_not] at g
      conv => whnf
      refine ⟨(by first | assumption | rfl), ?_⟩
      try simp (disch := omega) only [Int.cast_ofNat_Int, up_s, up_a, up_i, mp_a, mp_ge]
      try simp only [t04]
      try simp only [t00]
      try simp only [t06]
      try simp only [t010]
      try simp only [t011]
      try simp only [en]
      try simp only [e3]
      try simp only [e2]
      try simp only [x2]
      try simp only [x3]
      try simp only [el0]
      try simp only [el2]
      conv => whnf
      refine ⟨Nat.le_of_ble_eq_true rfl, Nat.le_of_ble_eq_true rfl, (by first | assumption | rfl), ?_⟩
      refine c_Tmore hqi (fun h9 h36 => ?_) (fun hmo => ?_)
      · have eF := pFl_n hqi.fl h9
        obtain ⟨_, hcj, hwt, hl2, S, J, hR, hSc, hJc⟩ := hab.resolve_right (fun ⟨k9, pl9, e9, _⟩ => by rw [e9] at eF; exact absurd eF (by simp))
        subst eF
        conv => whnf
        refine ⟨fun g => ?_, fun g => ?_⟩
        · exact absurd g (by simp [sx_cc])
        · skip
          conv => whnf
          refine ⟨(by first | assumption | rfl), ?_⟩
          try simp (disch := omega) only [Int.cast_ofNat_Int, up_s, up_a, up_i, mp_a, mp_ge]
          try simp only [t04]
          try simp only [t00]
          try simp only [t06]
          try simp only [t010]
          try simp only [t011]
          try simp only [en]
          try simp only [e3]
          try simp only [e2]
          try simp only [x2]
          try simp only [x3]
          try simp only [el0]
          try simp only [el2]
          conv => whnf
          refine ⟨Nat.le_of_ble_eq_true rfl, Nat.le_of_ble_eq_true rfl, (by first | assumption | rfl), ?_⟩
          refine c_Tline hw hqi hwt.1 hwt.2.2.1 hwt.2.1 (by omega) (fun σ5 k pl j5 hw5 hq5 hz5 => ?_) (fun σ5 e5 hw5 hq5 hz5 => ?_)
          · skip
            conv => whnf
            refine ⟨⟨by omega, by omega⟩, ?_⟩
            conv => whnf
            refine ⟨_, ?_, ⟨rfl, _, rfl, rfl, ?_, rfl⟩⟩
            · omega
            · first
              | (refine ⟨⟨_, _, hq5, fun a y z9 => ?_, hw5.2 hbi, ?_, by omega, Or.inr ⟨k, pl, rfl, S, J, c.toNat, hR, by rw [hJc]; exact h36, by rw [hSc, hJc]; exact hz5⟩⟩, hn9⟩
                 · unfold FTx FAb FPd at z9; rw [hw5.1 a y (by unfold FAl FPd FNx; omega)]; exact hfi a y (by unfold FTx FAb FPd; omega)
                 · rw [hw5.1 _ _ (by unfold FAl FPd FNx; omega)]; exact h01)
              | (have hgt := pLn_gt (e' := e5) hqi.bi hz5
                 have hx := hqi.lx.2.2.1
                 have hz6 := hz5
                 rw [← hSc, ← hJc] at hz6
                 obtain ⟨S', J', hR', hS', hJ'⟩ := zRun_s hR (by rw [hJc]; exact h36) hz6
                 refine ⟨⟨_, _, hq5, fun a y z9 => ?_, hw5.2 hbi, ?_, by omega, Or.inl ⟨rfl, by omega, wT_line hp hx.2 hqi.bi hwt hz5, ?_, S', J', ?_, ?_, ?_⟩⟩, hn9⟩
                 · unfold FTx FAb FPd at z9; rw [hw5.1 a y (by unfold FAl FPd FNx; omega)]; exact hfi a y (by unfold FTx FAb FPd; omega)
                 · rw [hw5.1 _ _ (by unfold FAl FPd FNx; omega)]; exact h01
                 · obtain ⟨s1, e, hl9, _, _, _, hl8⟩ := hz5
                   rw [hl8, pLn0_2 hp hl9, hl2]
                 · rw [show (c + 1).toNat = c.toNat + 1 by omega]; exact hR'
                 · rw [show (c + 1).toNat = c.toNat + 1 by omega]; exact hS'
                 · rw [show (c + 1).toNat = c.toNat + 1 by omega]; exact hJ')
          · skip
            conv => whnf
            refine ⟨⟨by omega, by omega⟩, ?_⟩
            conv => whnf
            refine ⟨_, ?_, ⟨rfl, _, rfl, rfl, ?_, rfl⟩⟩
            · omega
            · first
              | (refine ⟨⟨_, _, hq5, fun a y z9 => ?_, hw5.2 hbi, ?_, by omega, Or.inr ⟨k, pl, rfl, S, J, c.toNat, hR, by rw [hJc]; exact h36, by rw [hSc, hJc]; exact hz5⟩⟩, hn9⟩
                 · unfold FTx FAb FPd at z9; rw [hw5.1 a y (by unfold FAl FPd FNx; omega)]; exact hfi a y (by unfold FTx FAb FPd; omega)
                 · rw [hw5.1 _ _ (by unfold FAl FPd FNx; omega)]; exact h01)
              | (have hgt := pLn_gt (e' := e5) hqi.bi hz5
                 have hx := hqi.lx.2.2.1
                 have hz6 := hz5
                 rw [← hSc, ← hJc] at hz6
                 obtain ⟨S', J', hR', hS', hJ'⟩ := zRun_s hR (by rw [hJc]; exact h36) hz6
                 refine ⟨⟨_, _, hq5, fun a y z9 => ?_, hw5.2 hbi, ?_, by omega, Or.inl ⟨rfl, by omega, wT_line hp hx.2 hqi.bi hwt hz5, ?_, S', J', ?_, ?_, ?_⟩⟩, hn9⟩
                 · unfold FTx FAb FPd at z9; rw [hw5.1 a y (by unfold FAl FPd FNx; omega)]; exact hfi a y (by unfold FTx FAb FPd; omega)
                 · rw [hw5.1 _ _ (by unfold FAl FPd FNx; omega)]; exact h01
                 · obtain ⟨s1, e, hl9, _, _, _, hl8⟩ := hz5
                   rw [hl8, pLn0_2 hp hl9, hl2]
                 · rw [show (c + 1).toNat = c.toNat + 1 by omega]; exact hR'
                 · rw [show (c + 1).toNat = c.toNat + 1 by omega]; exact hS'
                 · rw [show (c + 1).toNat = c.toNat + 1 by omega]; exact hJ')
      · skip
        conv => whnf
        refine ⟨fun g => ?_, fun g => ?_⟩
        · skip
          conv => whnf
          refine ⟨(by first | assumption | rfl), ?_⟩
          try simp (disch := omega) only [Int.cast_ofNat_Int, up_s, up_a, up_i, mp_a, mp_ge]
          try simp only [t04]
          try simp only [t00]
          try simp only [t06]
          try simp only [t010]
          try simp only [t011]
          try simp only [en]
          try simp only [e3]
          try simp only [e2]
          try simp only [x2]
          try simp only [x3]
          try simp only [el0]
          try simp only [el2]
          conv => whnf
          refine ⟨(by first | assumption | rfl), ?_⟩
          try simp (disch := omega) only [Int.cast_ofNat_Int, up_s, up_a, up_i, mp_a, mp_ge]
          try simp only [t04]
          try simp only [t00]
          try simp only [t06]
          try simp only [t010]
          try simp only [t011]
          try simp only [en]
          try simp only [e3]
          try simp only [e2]
          try simp only [x2]
          try simp only [x3]
          try simp only [el0]
          try simp only [el2]
          conv => whnf
          refine ⟨fun g => ?_, fun g => ?_⟩
          · simp only [sx_cc, Classical.not_not] at g
            have h9 : σ' 32 0 = 0 := g
            have eF := pFl_n hqi.fl h9
            obtain ⟨_, hcj, hwt, hl2, S, J, hR, hSc, hJc⟩ := hab.resolve_right (fun ⟨k9, pl9, e9, _⟩ => by rw [e9] at eF; exact absurd eF (by simp))
            subst eF
            have h36 : kT tx nx j = 36 := by
              first
              | (rcases hmo with z | z; exact absurd h9 z; exact z)
              | (have hj : j = nx := by have := hqi.bi; omega
                 rw [hj]; exact kT_n9)
            conv => whnf
            refine ⟨(by first | assumption | rfl), ?_⟩
            try simp (disch := omega) only [Int.cast_ofNat_Int, up_s, up_a, up_i, mp_a, mp_ge]
            try simp only [t04]
            try simp only [t00]
            try simp only [t06]
            try simp only [t010]
            try simp only [t011]
            try simp only [en]
            try simp only [e3]
            try simp only [e2]
            try simp only [x2]
            try simp only [x3]
            try simp only [el0]
            try simp only [el2]
            conv => whnf
            refine ⟨(by first | assumption | rfl), ?_⟩
            try simp (disch := omega) only [Int.cast_ofNat_Int, up_s, up_a, up_i, mp_a, mp_ge]
            try simp only [t04]
            try simp only [t00]
            try simp only [t06]
            try simp only [t010]
            try simp only [t011]
            try simp only [en]
            try simp only [e3]
            try simp only [e2]
            try simp only [x2]
            try simp only [x3]
            try simp only [el0]
            try simp only [el2]
            conv => whnf
            refine ⟨(by first | assumption | rfl), ?_⟩
            try simp (disch := omega) only [Int.cast_ofNat_Int, up_s, up_a, up_i, mp_a, mp_ge]
            try simp only [t04]
            try simp only [t00]
            try simp only [t06]
            try simp only [t010]
            try simp only [t011]
            try simp only [en]
            try simp only [e3]
            try simp only [e2]
            try simp only [x2]
            try simp only [x3]
            try simp only [el0]
            try simp only [el2]
            conv => whnf
            refine ⟨(by first | assumption | rfl), ?_⟩
            try simp (disch := omega) only [Int.cast_ofNat_Int, up_s, up_a, up_i, mp_a, mp_ge]
            try simp only [t04]
            try simp only [t00]
            try simp only [t06]
            try simp only [t010]
            try simp only [t011]
            try simp only [en]
            try simp only [e3]
            try simp only [e2]
            try simp only [x2]
            try simp only [x3]
            try simp only [el0]
            try simp only [el2]
            generalize e4 : sx_up (sx_up σ' 0 3 (19 - p)) 0 2 p = σ4
            have f4 : ∀ a j : Int, ¬ (a = 0 ∧ (j = 2 ∨ j = 3)) → σ4 a j = σ' a j := fun a j z9 => by rw [← e4, up_n (by omega), up_n (by omega)]
            have x2 : σ4 0 2 = p := by rw [← e4, up_s]
            have x3 : σ4 0 3 = 19 - p := by rw [← e4, up_n (by omega), up_s]
            have T4 : PT σ4 := hqi.pt.fr (fun q hq => f4 _ _ (by have h1 := of_decide_eq_true (List.all_eq_true.mp T02_pts q hq); omega))
            have t06 := pt_0_6 T4
            have w4 : wT p σ4 := wT_fr hp hwt (fun a j z => f4 a j (by omega))
            have s4 : SCC σ4 := scc_of hsc (fun a j z => (f4 a j (by omega)).trans (hfi a j (by unfold FTx FAb FPd; omega)))
            conv => whnf
            refine ⟨(by first | assumption | rfl), ?_⟩
            try simp (disch := omega) only [Int.cast_ofNat_Int, up_s, up_a, up_i, mp_a, mp_ge]
            try simp only [t04]
            try simp only [t00]
            try simp only [t06]
            try simp only [t010]
            try simp only [t011]
            try simp only [en]
            try simp only [e3]
            try simp only [e2]
            try simp only [x2]
            try simp only [x3]
            try simp only [el0]
            try simp only [el2]
            conv => whnf
            refine ⟨(by first | assumption | rfl), ?_⟩
            try simp (disch := omega) only [Int.cast_ofNat_Int, up_s, up_a, up_i, mp_a, mp_ge]
            try simp only [t04]
            try simp only [t00]
            try simp only [t06]
            try simp only [t010]
            try simp only [t011]
            try simp only [en]
            try simp only [e3]
            try simp only [e2]
            try simp only [x2]
            try simp only [x3]
            try simp only [el0]
            try simp only [el2]
            conv => whnf
            refine ⟨Nat.le_of_ble_eq_true rfl, Nat.le_of_ble_eq_true rfl, (by first | assumption | rfl), ?_⟩
            refine c_Sbegin (s := 40) (P := fPl p σ4) (Or.inl rfl) hp0 (wP_F w4) T4 (cP_F w4) s4 (fun σ5 f5 g5 c5 => ?_)
            have t010 := pt_0_10 g5.1
            have t011 := pt_0_11 g5.1
            have t04 := pt_0_4 g5.1
            have el2 : σ5 32 2 = c := (f5 _ _ (by unfold FBg; omega)).trans ((f4 _ _ (by omega)).trans hl2)
            conv => whnf
            refine ⟨(by first | assumption | rfl), by omega, ?_⟩
            try simp (disch := omega) only [Int.cast_ofNat_Int, up_s, up_a, up_i, mp_a, mp_ge]
            try simp only [t04]
            try simp only [t00]
            try simp only [t06]
            try simp only [t010]
            try simp only [t011]
            try simp only [en]
            try simp only [e3]
            try simp only [e2]
            try simp only [x2]
            try simp only [x3]
            try simp only [el0]
            try simp only [el2]
            conv => whnf
            refine ⟨(by first | assumption | rfl), ?_⟩
            try simp (disch := omega) only [Int.cast_ofNat_Int, up_s, up_a, up_i, mp_a, mp_ge]
            try simp only [t04]
            try simp only [t00]
            try simp only [t06]
            try simp only [t010]
            try simp only [t011]
            try simp only [en]
            try simp only [e3]
            try simp only [e2]
            try simp only [x2]
            try simp only [x3]
            try simp only [el0]
            try simp only [el2]
            conv => whnf
            refine ⟨(by first | assumption | rfl), ?_⟩
            try simp (disch := omega) only [Int.cast_ofNat_Int, up_s, up_a, up_i, mp_a, mp_ge]
            try simp only [t04]
            try simp only [t00]
            try simp only [t06]
            try simp only [t010]
            try simp only [t011]
            try simp only [en]
            try simp only [e3]
            try simp only [e2]
            try simp only [x2]
            try simp only [x3]
            try simp only [el0]
            try simp only [el2]
            conv => whnf
            refine ⟨(by first | assumption | rfl), ?_⟩
            try simp (disch := omega) only [Int.cast_ofNat_Int, up_s, up_a, up_i, mp_a, mp_ge]
            try simp only [t04]
            try simp only [t00]
            try simp only [t06]
            try simp only [t010]
            try simp only [t011]
            try simp only [en]
            try simp only [e3]
            try simp only [e2]
            try simp only [x2]
            try simp only [x3]
            try simp only [el0]
            try simp only [el2]
            conv => whnf
            refine ⟨Nat.le_of_ble_eq_true rfl, Nat.le_of_ble_eq_true rfl, (by first | assumption | rfl), ?_⟩
            refine c_Cclear ?_
            conv => whnf
            refine ⟨(by first | assumption | rfl), ?_⟩
            try simp (disch := omega) only [Int.cast_ofNat_Int, up_s, up_a, up_i, mp_a, mp_ge]
            try simp only [t04]
            try simp only [t00]
            try simp only [t06]
            try simp only [t010]
            try simp only [t011]
            try simp only [en]
            try simp only [e3]
            try simp only [e2]
            try simp only [x2]
            try simp only [x3]
            try simp only [el0]
            try simp only [el2]
            conv => whnf
            refine ⟨(by first | assumption | rfl), ?_⟩
            try simp (disch := omega) only [Int.cast_ofNat_Int, up_s, up_a, up_i, mp_a, mp_ge]
            try simp only [t04]
            try simp only [t00]
            try simp only [t06]
            try simp only [t010]
            try simp only [t011]
            try simp only [en]
            try simp only [e3]
            try simp only [e2]
            try simp only [x2]
            try simp only [x3]
            try simp only [el0]
            try simp only [el2]
            conv => whnf
            refine ⟨fun q9 => by first | (simp at q9; done) | omega, ?_⟩
            have eP : fPl p σ4 = fPl p (S c.toNat) := by rw [hSc]; exact fPl_cg hp (fun a y z => f4 a y (by clear hab; omega))
            rw [eP] at g5 c5
            obtain ⟨d1, d2, d3, d4, d5, d6, d7, d8, d9, d10, d11, d12⟩ := c_text_e hp0 hp hfi f4 x2 x3 f5 g5 c5 h01 h9 hqi.fl.2
            have hs9 := hS hn9 _ S J c.toNat hR (by rw [hJc]; exact h36) (by rw [hSc]; exact hwt) d1 d2 d3 d4 d5 d6 d7 d8 d9 d10 d11 d12
            rw [show ((c.toNat : Nat) : Int) = c from Int.toNat_of_nonneg hcn.1] at hs9
            exact hs9
          · simp only [sx_cc, Classical.not_not] at g
            conv => whnf
            refine ⟨fun q9 => by first | (simp at q9; done) | omega, ?_⟩
            obtain ⟨q, eF⟩ := pFl_s hqi.fl g
            rcases hab with ⟨e9, _⟩ | ⟨k, pl, e9, hz⟩
            · rw [e9] at eF; exact absurd eF (by simp)
            · subst e9
              exact hF hn9 _ k pl hfi hqi.pt h01 hqi.fl.1 hqi.fl.2.1 hbi hz
        · exact absurd g (by simp [sx_cc])
end SXQ6
