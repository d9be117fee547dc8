/-! LINES ARE TOLD, reference side (by wip/whole) -/
section SXR1
variable {X : sx_X} {Q : sx_R} {σ σ0 σ' σ1 σ2 s s' : sx_S} {tx : Int → Int} {n9 p i : Int}
/-- the reference stands at the token behind i -/
def rQ (σ : sx_S) (tx : Int → Int) (n9 i : Int) : Prop := PT σ ∧ rLx σ tx n9 ∧ rWd σ ∧ (0 ≤ i ∧ i ≤ n9) ∧ rTk σ tx n9 i
theorem rQ.pt (h : rQ σ tx n9 i) : PT σ := h.1
theorem rQ.lx (h : rQ σ tx n9 i) : rLx σ tx n9 := h.2.1
theorem rQ.wd (h : rQ σ tx n9 i) : rWd σ := h.2.2.1
theorem rQ.bi (h : rQ σ tx n9 i) : 0 ≤ i ∧ i ≤ n9 := h.2.2.2.1
theorem rQ.tk (h : rQ σ tx n9 i) : rTk σ tx n9 i := h.2.2.2.2
/-- what the reading of tokens changes -/
abbrev FRg (a j : Int) : Prop := a = 124 ∧ 7 ≤ j ∧ j ≤ 11
abbrev FRw (a j : Int) : Prop := a = 124 ∧ (j = 4 ∨ j = 5 ∨ (7 ≤ j ∧ j ≤ 11))
theorem frg_w {a j : Int} (z : FRg a j) : FRw a j := ⟨z.1, Or.inr (Or.inr z.2)⟩
/-- cells of the text being read -/
abbrev FRd (a j : Int) : Prop := (a = 124 ∧ (j = 4 ∨ j = 5 ∨ j = 11 ∨ (18 ≤ j ∧ j ≤ 29) ∨ (45 ≤ j ∧ j ≤ 53 ∧ ¬ j = 46 ∧ ¬ j = 47))) ∨ (127 ≤ a ∧ a ≤ 143)
theorem FRd_pts : ptL.all (fun q => decide (¬ FRd q.1 q.2.1 ∧ ¬ FRg q.1 q.2.1)) = true := by decide +kernel
theorem fr.ptrd {σ σ' : sx_S} (h : fr FRd σ σ') (hT : PT σ) : PT σ' := hT.fr (fun q hq => h _ _ (of_decide_eq_true (List.all_eq_true.mp FRd_pts q hq)).1)
theorem fr.ptrg {σ σ' : sx_S} (h : fr FRg σ σ') (hT : PT σ) : PT σ' := hT.fr (fun q hq => h _ _ (of_decide_eq_true (List.all_eq_true.mp FRd_pts q hq)).2)
theorem rQ_of (h : rQ σ tx n9 i) (hf : fr FRd σ σ') : rQ σ' tx n9 i := ⟨fr.ptrd hf h.pt, rLx_of h.lx (fun a j z => hf a j (by unfold FRd; omega)), fun j y0 y1 => (hf 126 j (by unfold FRd; omega)).trans (h.wd j y0 y1), h.bi, rTk_of h.tk (fun j y0 y1 => by
  by_cases e : j = 11
  · omega
  · exact hf 124 j (by unfold FRd; omega))⟩
theorem rQ_up {a j v : Int} (h : rQ σ tx n9 i) (z : FRd a j) : rQ (sx_up σ a j v) tx n9 i := rQ_of h (fun b k z9 => up_n (fun e => z9 (by rw [e.1, e.2]; exact z)))
theorem r_tok (hq : rQ σ tx n9 i) (h : ∀ σ', fr FRt σ σ' → rQ σ' tx n9 (kE tx n9 i) → Q none shM σ') : sx_Run X 183 [.inr (.inr 124)] shM σ Q :=
  c_Rtok hq.pt hq.lx hq.wd hq.tk.1 (kE_in hq.bi) (fun σ' hf hk => h σ' hf ⟨fr.ptrt hf hq.pt, rLx_of hq.lx (fun a j z => hf a j (by unfold FRt; omega)), fun j y0 y1 => (hf 126 j (by unfold FRt; omega)).trans (hq.wd j y0 y1), kE_in hq.bi, hk⟩)
theorem pKz_21 {t k w v : Int} (h : pKz t k w v) : (k = 3 ↔ t = 21) ∧ (k = 2 ↔ t = 20) ∧ (k = 0 ↔ t = 36) ∧ (k = 2 → w = v) ∧ (k = 3 → (w = v ∧ v ≤ 99999) ∨ (99999 < w ∧ v = 100000)) := by
  rcases h with h | h | h | h | h | h | h | h | h | h | h | h | h <;> omega
set_option maxRecDepth 20000 in
theorem r_wrong {k : Int} (h : Q (some (.inl 0)) shM (sx_up (sx_up σ 124 4 k) 124 5 (σ 124 10))) : sx_Run X 179 [.inr (.inr 124), .inl k] shM σ Q := by
  refine sx_rule0 (own := 12) (cd := kX12_wrong) (nL := 2) (by decide +kernel) (by decide +kernel) kX12_wrong_ok (by decide +kernel) (Nat.le_of_ble_eq_true rfl) 40 ?_
  conv => whnf
  refine ⟨(by first | assumption | rfl), ?_⟩
  try simp (disch := omega) only [Int.cast_ofNat_Int, up_s, up_a, up_i, mp_a, mp_ge]
  conv => whnf
  refine ⟨(by first | assumption | rfl), ?_⟩
  try simp (disch := omega) only [Int.cast_ofNat_Int, up_s, up_a, up_i, mp_a, mp_ge]
  conv => whnf
  refine ⟨(by first | assumption | rfl), ?_⟩
  try simp (disch := omega) only [Int.cast_ofNat_Int, up_s, up_a, up_i, mp_a, mp_ge]
  conv => whnf
  refine ⟨fun q9 => by first | (simp at q9; done) | omega, ?_⟩
  exact h
set_option maxRecDepth 20000 in
theorem r_isin {a b c : Int} (h1 : b ≤ a → a ≤ c → Q (some (.inl 1)) shM σ) (h0 : ¬ (b ≤ a ∧ a ≤ c) → Q (some (.inl 0)) shM σ) : sx_Run X 178 [.inl a, .inl b, .inl c] shM σ Q := by
  refine sx_rule0 (own := 12) (cd := kX12_isIn) (nL := 3) (by decide +kernel) (by decide +kernel) kX12_isIn_ok (by decide +kernel) (Nat.le_of_ble_eq_true rfl) 40 ?_
  conv => whnf
  refine ⟨fun g => ?_, fun g => ?_⟩
  · simp only [sx_cc, Classical.not_not] at g
    conv => whnf
    refine ⟨fun q9 => by first | (simp at q9; done) | omega, ?_⟩
    first | exact h1 (by omega) (by omega) | exact h0 (by omega)
  · simp only [sx_cc, Classical.not_not] at g
    conv => whnf
    refine ⟨fun g => ?_, fun g => ?_⟩
    · simp only [sx_cc, Classical.not_not] at g
      conv => whnf
      refine ⟨fun q9 => by first | (simp at q9; done) | omega, ?_⟩
      first | exact h1 (by omega) (by omega) | exact h0 (by omega)
    · simp only [sx_cc, Classical.not_not] at g
      conv => whnf
      refine ⟨fun q9 => by first | (simp at q9; done) | omega, ?_⟩
      first | exact h1 (by omega) (by omega) | exact h0 (by omega)
/-- the fault that the reference keeps -/
abbrev rFl (σ : sx_S) (k pl : Int) : Prop := σ 124 4 = k ∧ σ 124 5 = pl
set_option maxRecDepth 20000 in
theorem r_num (hq : rQ σ tx n9 i) {lo hi : Int} (hb : 0 ≤ lo ∧ hi ≤ 99999) (hF : ∀ (k pl : Int) (σ' : sx_S), nF tx n9 lo hi i = some (k, pl) → fr FRw σ σ' → rFl σ' k pl → Q (some (.inl 0)) shM σ') (hS : nF tx n9 lo hi i = none → ∀ σ', fr FRg σ σ' → rQ σ' tx n9 (kE tx n9 i) → σ' 124 11 = nV tx n9 lo hi i → Q (some (.inl 1)) shM σ') : sx_Run X 188 [.inr (.inr 124), .inl lo, .inl hi] shM σ Q := by
  have hk := pKz_21 hq.tk.2.2
  have ha := hq.tk.2.1
  obtain ⟨k3, _, _, _, kv⟩ := hk
  refine sx_rule0 (own := 12) (cd := kX12_number) (nL := 3) (by decide +kernel) (by decide +kernel) kX12_number_ok (by decide +kernel) (Nat.le_of_ble_eq_true rfl) 40 ?_
  conv => whnf
  refine ⟨(by first | assumption | rfl), ?_⟩
  try simp (disch := omega) only [Int.cast_ofNat_Int, up_s, up_a, up_i, mp_a, mp_ge]
  conv => whnf
  refine ⟨fun g => ?_, fun g => ?_⟩
  · simp only [sx_cc, Classical.not_not] at g
    have g3 := g
    have kv := kv g3
    have t21 := k3.mp g3
    conv => whnf
    refine ⟨(by first | assumption | rfl), ?_⟩
    try simp (disch := omega) only [Int.cast_ofNat_Int, up_s, up_a, up_i, mp_a, mp_ge]
    conv => whnf
    refine ⟨Nat.le_of_ble_eq_true rfl, Nat.le_of_ble_eq_true rfl, ?_⟩
    refine r_isin (fun y0 y1 => ?_) (fun y0 => ?_)
    · have n1 := nF_0 (lo := lo) (hi := hi) t21 (by omega)
      have n2 := nV_0 (lo := lo) (hi := hi) t21 (by omega)
      conv => whnf
      refine ⟨fun g => ?_, fun g => ?_⟩
      · skip
        conv => whnf
        refine ⟨(by first | assumption | rfl), ?_⟩
        try simp (disch := omega) only [Int.cast_ofNat_Int, up_s, up_a, up_i, mp_a, mp_ge]
        conv => whnf
        refine ⟨(by first | assumption | rfl), ?_⟩
        try simp (disch := omega) only [Int.cast_ofNat_Int, up_s, up_a, up_i, mp_a, mp_ge]
        conv => whnf
        refine ⟨Nat.le_of_ble_eq_true rfl, Nat.le_of_ble_eq_true rfl, (by first | assumption | rfl), ?_⟩
        refine r_tok (rQ_up hq (by unfold FRd; omega)) (fun σ3 hf3 hq3 => ?_)
        conv => whnf
        refine ⟨fun q9 => by first | (simp at q9; done) | omega, ?_⟩
        exact hS n1 _ (fun a j z9 => by unfold FRg at z9; rw [hf3 a j (by unfold FRt; omega), up_n (by omega)]) hq3 (by rw [n2, hf3 _ _ (by unfold FRt; omega)] ; first | (rw [up_s]; omega) | omega)
      · exact absurd g (by simp [sx_cc])
    · have n1 := nF_2 (lo := lo) (hi := hi) t21 (by omega)
      conv => whnf
      refine ⟨fun g => ?_, fun g => ?_⟩
      · exact absurd g (by simp [sx_cc])
      · skip
        conv => whnf
        refine ⟨Nat.le_of_ble_eq_true rfl, Nat.le_of_ble_eq_true rfl, (by first | assumption | rfl), ?_⟩
        refine r_wrong ?_
        conv => whnf
        refine ⟨fun q9 => by first | (simp at q9; done) | omega, ?_⟩
        exact hF _ _ _ n1 (fun a j z9 => by unfold FRw at z9; rw [up_n (by omega), up_n (by omega)]) ⟨by rw [up_n (by omega), up_s], by rw [up_s, ha]⟩
  · simp only [sx_cc, Classical.not_not] at g
    have n1 := nF_1 (lo := lo) (hi := hi) (fun z => g (k3.mpr z))
    conv => whnf
    refine ⟨Nat.le_of_ble_eq_true rfl, Nat.le_of_ble_eq_true rfl, (by first | assumption | rfl), ?_⟩
    refine r_wrong ?_
    conv => whnf
    refine ⟨fun q9 => by first | (simp at q9; done) | omega, ?_⟩
    exact hF _ _ _ n1 (fun a j z9 => by unfold FRw at z9; rw [up_n (by omega), up_n (by omega)]) ⟨by rw [up_n (by omega), up_s], by rw [up_s, ha]⟩
set_option maxRecDepth 20000 in
theorem r_find {a f c nn : Int} {m9 : Nat} (hk : sx_lk shM a = (1, m9)) (hn : 0 ≤ nn ∧ 0 ≤ f ∧ f + nn ≤ m9) (hm : m9 ≤ 1000) (h : Q (some (.inl (fFind (fun j => σ a (f + j)) c nn.toNat))) shM σ) : sx_Run X 192 [.inr (.inr a), .inl f, .inl nn, .inl c] shM σ Q := by
  refine sx_rule2 (own := 12) (cd := kX12_find) (nL := 5) (by decide +kernel) (by decide +kernel) kX12_find_ok (by decide +kernel) (Nat.le_of_ble_eq_true rfl) [3] 40 (fun n t L st _ σ' => (t = 3 ∧ ∃ k : Int, st = [] ∧ L = [some (.inr (.inr (a))), some (.inl (f)), some (.inl (nn)), some (.inl (c)), some (.inl (k))] ∧ (σ = σ' ∧ 0 ≤ k ∧ k ≤ nn ∧ fFind (fun j => σ a (f + j)) c k.toNat = -1) ∧ n = (nn - k).toNat)) ?_ ?_
  · skip
    conv => whnf
    refine ⟨_, ⟨rfl, _, rfl, rfl, ?_, rfl⟩⟩
    exact ⟨rfl, by decide, by omega, rfl⟩
  · intro n t L st σ' hk
    obtain ⟨rfl, k, rfl, rfl, hc, rfl⟩ := hk
    obtain ⟨rfl, hk0, hk1, hv⟩ := hc
    conv => whnf
    refine ⟨fun g => ?_, fun g => ?_⟩
    · simp only [sx_cc, Classical.not_not] at g
      conv => whnf
      refine ⟨fun q9 => by first | (simp at q9; done) | omega, ?_⟩
      first | (rw [show nn.toNat = k.toNat by omega, hv] at h; exact h) | (have e8 := fFind_hit (row := fun j => σ a (f + j)) (n := nn.toNat) hk0 (by omega) hv g; rw [e8] at h; exact h)
    · simp only [sx_cc, Classical.not_not] at g
      conv => whnf
      refine ⟨⟨by omega, by omega⟩, ?_⟩
      conv => whnf
      refine ⟨sx_ixI (by first | assumption | rfl) (by omega) (by omega), ?_⟩
      try simp (disch := omega) only [Int.cast_ofNat_Int, up_s, up_a, up_i, mp_a, mp_ge]
      conv => whnf
      refine ⟨fun g => ?_, fun g => ?_⟩
      · simp only [sx_cc, Classical.not_not] at g
        conv => whnf
        refine ⟨⟨by omega, by omega⟩, ?_⟩
        conv => whnf
        refine ⟨_, ?_, ⟨rfl, _, rfl, rfl, ?_, rfl⟩⟩
        · omega
        · refine ⟨rfl, by omega, by omega, ?_⟩
          rw [fFind_s hk0, if_pos hv, if_neg g]
      · simp only [sx_cc, Classical.not_not] at g
        conv => whnf
        refine ⟨fun q9 => by first | (simp at q9; done) | omega, ?_⟩
        first | (rw [show nn.toNat = k.toNat by omega, hv] at h; exact h) | (have e8 := fFind_hit (row := fun j => σ a (f + j)) (n := nn.toNat) hk0 (by omega) hv g; rw [e8] at h; exact h)
set_option maxRecDepth 20000 in
theorem r_name (hq : rQ σ tx n9 i) {a f nn : Int} {m9 : Nat} (ha : 127 ≤ a ∧ a ≤ 143) (hk : sx_lk shM a = (1, m9)) (hn : 0 ≤ nn ∧ 0 ≤ f ∧ f + nn < m9) (hm : m9 ≤ 1000) (hF : ∀ (k pl : Int) (σ' : sx_S), (aF tx n9 i).or (fBq (¬ fFind (fun j => σ a (f + j)) (aV tx n9 i) nn.toNat = -1) 3 (kS tx n9 i)) = some (k, pl) → fr FRw σ σ' → rFl σ' k pl → Q (some (.inl 0)) shM σ') (hS : (aF tx n9 i).or (fBq (¬ fFind (fun j => σ a (f + j)) (aV tx n9 i) nn.toNat = -1) 3 (kS tx n9 i)) = none → ∀ σ', fr (fun b j => FRg b j ∨ (b = a ∧ j = f + nn)) σ σ' → rQ σ' tx n9 (kE tx n9 i) → σ' a (f + nn) = aV tx n9 i → Q (some (.inl 1)) shM σ') : sx_Run X 193 [.inr (.inr 124), .inr (.inr a), .inl f, .inl nn] shM σ Q := by
  have hkz := pKz_21 hq.tk.2.2
  have hat := hq.tk.2.1
  obtain ⟨_, k2, _, kv, _⟩ := hkz
  refine sx_rule0 (own := 12) (cd := kX12_newName) (nL := 4) (by decide +kernel) (by decide +kernel) kX12_newName_ok (by decide +kernel) (Nat.le_of_ble_eq_true rfl) 40 ?_
  conv => whnf
  refine ⟨(by first | assumption | rfl), ?_⟩
  try simp (disch := omega) only [Int.cast_ofNat_Int, up_s, up_a, up_i, mp_a, mp_ge]
  try simp only [ev]
  conv => whnf
  refine ⟨fun g => ?_, fun g => ?_⟩
  · simp only [sx_cc, Classical.not_not] at g
    have t20 := k2.mp g
    have n1 : aF tx n9 i = none := if_pos t20
    have n2 : aV tx n9 i = kV tx n9 i := if_pos t20
    have ev : σ 124 9 = aV tx n9 i := (kv g).trans n2.symm
    conv => whnf
    refine ⟨(by first | assumption | rfl), ?_⟩
    try simp (disch := omega) only [Int.cast_ofNat_Int, up_s, up_a, up_i, mp_a, mp_ge]
    try simp only [ev]
    conv => whnf
    refine ⟨Nat.le_of_ble_eq_true rfl, Nat.le_of_ble_eq_true rfl, ?_⟩
    refine r_find hk (by omega) hm ?_
    have fl := fFind_lt (fun j => σ a (f + j)) (aV tx n9 i) nn.toNat
    conv => whnf
    refine ⟨fun g => ?_, fun g => ?_⟩
    · simp only [sx_cc, Classical.not_not] at g
      have n3 := fBq_0 (k := 3) (s := kS tx n9 i) (b := ¬ fFind (fun j => σ a (f + j)) (aV tx n9 i) nn.toNat = -1) (by omega)
      conv => whnf
      refine ⟨⟨by omega, by omega⟩, ?_⟩
      conv => whnf
      refine ⟨(by first | assumption | rfl), ?_⟩
      try simp (disch := omega) only [Int.cast_ofNat_Int, up_s, up_a, up_i, mp_a, mp_ge]
      try simp only [ev]
      conv => whnf
      refine ⟨sx_ixI (by first | assumption | rfl) (by omega) (by omega), ?_⟩
      conv => whnf
      refine ⟨Nat.le_of_ble_eq_true rfl, Nat.le_of_ble_eq_true rfl, (by first | assumption | rfl), ?_⟩
      refine r_tok (rQ_up hq (by unfold FRd; omega)) (fun σ3 hf3 hq3 => ?_)
      conv => whnf
      refine ⟨fun q9 => by first | (simp at q9; done) | omega, ?_⟩
      exact hS (by rw [n1, n3]; rfl) _ (fun b j z9 => by rw [hf3 b j (by unfold FRt; unfold FRg at z9; omega), up_n (fun z => z9 (Or.inr z))]) hq3 (by rw [hf3 _ _ (by unfold FRt; omega), up_s])
    · simp only [sx_cc, Classical.not_not] at g
      have n3 := fBq_1 (k := 3) (s := kS tx n9 i) (b := ¬ fFind (fun j => σ a (f + j)) (aV tx n9 i) nn.toNat = -1) (by omega)
      conv => whnf
      refine ⟨Nat.le_of_ble_eq_true rfl, Nat.le_of_ble_eq_true rfl, (by first | assumption | rfl), ?_⟩
      refine r_wrong ?_
      conv => whnf
      refine ⟨fun q9 => by first | (simp at q9; done) | omega, ?_⟩
      exact hF _ _ _ (by rw [n1, n3]; rfl) (fun a j z9 => by unfold FRw at z9; rw [up_n (by omega), up_n (by omega)]) ⟨by rw [up_n (by omega), up_s], by rw [up_s, hat]⟩
  · simp only [sx_cc, Classical.not_not] at g
    have n1 : aF tx n9 i = some (1, kS tx n9 i) := if_neg (fun z => g (k2.mpr z))
    conv => whnf
    refine ⟨Nat.le_of_ble_eq_true rfl, Nat.le_of_ble_eq_true rfl, (by first | assumption | rfl), ?_⟩
    refine r_wrong ?_
    conv => whnf
    refine ⟨fun q9 => by first | (simp at q9; done) | omega, ?_⟩
    exact hF _ _ _ (by rw [n1]; rfl) (fun a j z9 => by unfold FRw at z9; rw [up_n (by omega), up_n (by omega)]) ⟨by rw [up_n (by omega), up_s], by rw [up_s, hat]⟩
set_option maxRecDepth 20000 in
theorem r_cellr (hq : rQ σ tx n9 i) (hwh : (1 ≤ σ 124 18 ∧ σ 124 18 ≤ 8) ∧ (1 ≤ σ 124 19 ∧ σ 124 19 ≤ 6)) (hF : ∀ (k pl : Int) (σ' : sx_S), (nF tx n9 0 (σ 124 18 - 1) i).or (nF tx n9 0 (σ 124 19 - 1) (kE tx n9 i)) = some (k, pl) → fr (fun b j => FRw b j ∨ (b = 124 ∧ (j = 29 ∨ j = 45))) σ σ' → rFl σ' k pl → Q (some (.inl 0)) shM σ') (hS : (nF tx n9 0 (σ 124 18 - 1) i).or (nF tx n9 0 (σ 124 19 - 1) (kE tx n9 i)) = none → ∀ σ', fr (fun b j => FRg b j ∨ (b = 124 ∧ (j = 29 ∨ j = 45))) σ σ' → rQ σ' tx n9 (kE tx n9 (kE tx n9 i)) → σ' 124 29 = 1 → σ' 124 45 = kS tx n9 (kE tx n9 i) → σ' 124 11 = nV tx n9 0 (σ 124 19 - 1) (kE tx n9 i) * σ 124 18 + nV tx n9 0 (σ 124 18 - 1) i → Q (some (.inl 1)) shM σ') : sx_Run X 194 [.inr (.inr 124)] shM σ Q := by
  have zx := nV_bd (tx := tx) (n9 := n9) (i := i) (lo := 0) (hi := σ 124 18 - 1) (by omega)
  have zy := nV_bd (tx := tx) (n9 := n9) (i := kE tx n9 i) (lo := 0) (hi := σ 124 19 - 1) (by omega)
  have zc := cell_bd hwh.1 hwh.2 zx zy
  have zm : σ 124 18 * nV tx n9 0 (σ 124 19 - 1) (kE tx n9 i) = nV tx n9 0 (σ 124 19 - 1) (kE tx n9 i) * σ 124 18 := Int.mul_comm _ _
  refine sx_rule0 (own := 12) (cd := kX12_cellRead) (nL := 2) (by decide +kernel) (by decide +kernel) kX12_cellRead_ok (by decide +kernel) (Nat.le_of_ble_eq_true rfl) 40 ?_
  conv => whnf
  refine ⟨(by first | assumption | rfl), by omega, ?_⟩
  try simp (disch := omega) only [Int.cast_ofNat_Int, up_s, up_a, up_i, mp_a, mp_ge]
  try simp only [w18]
  try simp only [w19]
  try simp only [v11]
  try simp only [v11b]
  try simp only [a10]
  conv => whnf
  refine ⟨(by first | assumption | rfl), ?_⟩
  try simp (disch := omega) only [Int.cast_ofNat_Int, up_s, up_a, up_i, mp_a, mp_ge]
  try simp only [w18]
  try simp only [w19]
  try simp only [v11]
  try simp only [v11b]
  try simp only [a10]
  conv => whnf
  refine ⟨⟨by omega, by omega⟩, ?_⟩
  conv => whnf
  refine ⟨Nat.le_of_ble_eq_true rfl, Nat.le_of_ble_eq_true rfl, (by first | assumption | rfl), ?_⟩
  refine r_num (rQ_up hq (by unfold FRd; omega)) (by omega) (fun k pl σ3 hn3 hf3 hl3 => ?_) (fun hn3 σ3 hf3 hq3 hv3 => ?_)
  · skip
    conv => whnf
    refine ⟨fun g => ?_, fun g => ?_⟩
    · exact absurd g (by simp [sx_cc])
    · skip
      conv => whnf
      refine ⟨fun q9 => by first | (simp at q9; done) | omega, ?_⟩
      exact hF k pl _ (by rw [hn3]; rfl) (fun b j z9 => by rw [hf3 b j (fun z => z9 (Or.inl z)), up_n (fun z => z9 (Or.inr ⟨z.1, Or.inl z.2⟩))]) hl3
  · have w18 : σ3 124 18 = σ 124 18 := (hf3 _ _ (by unfold FRg; omega)).trans (up_n (by omega))
    have w19 : σ3 124 19 = σ 124 19 := (hf3 _ _ (by unfold FRg; omega)).trans (up_n (by omega))
    have v11 := hv3
    have a10 := hq3.tk.2.1
    conv => whnf
    refine ⟨fun g => ?_, fun g => ?_⟩
    · skip
      conv => whnf
      refine ⟨(by first | assumption | rfl), ?_⟩
      try simp (disch := omega) only [Int.cast_ofNat_Int, up_s, up_a, up_i, mp_a, mp_ge]
      try simp only [w18]
      try simp only [w19]
      try simp only [v11]
      try simp only [v11b]
      try simp only [a10]
      conv => whnf
      refine ⟨(by first | assumption | rfl), ?_⟩
      try simp (disch := omega) only [Int.cast_ofNat_Int, up_s, up_a, up_i, mp_a, mp_ge]
      try simp only [w18]
      try simp only [w19]
      try simp only [v11]
      try simp only [v11b]
      try simp only [a10]
      conv => whnf
      refine ⟨(by first | assumption | rfl), ?_⟩
      try simp (disch := omega) only [Int.cast_ofNat_Int, up_s, up_a, up_i, mp_a, mp_ge]
      try simp only [w18]
      try simp only [w19]
      try simp only [v11]
      try simp only [v11b]
      try simp only [a10]
      conv => whnf
      refine ⟨(by first | assumption | rfl), ?_⟩
      try simp (disch := omega) only [Int.cast_ofNat_Int, up_s, up_a, up_i, mp_a, mp_ge]
      try simp only [w18]
      try simp only [w19]
      try simp only [v11]
      try simp only [v11b]
      try simp only [a10]
      conv => whnf
      refine ⟨⟨by omega, by omega⟩, ?_⟩
      conv => whnf
      refine ⟨Nat.le_of_ble_eq_true rfl, Nat.le_of_ble_eq_true rfl, (by first | assumption | rfl), ?_⟩
      refine r_num (rQ_up hq3 (by unfold FRd; omega)) (by omega) (fun k pl σ4 hn4 hf4 hl4 => ?_) (fun hn4 σ4 hf4 hq4 hv4 => ?_)
      · skip
        conv => whnf
        refine ⟨fun g => ?_, fun g => ?_⟩
        · exact absurd g (by simp [sx_cc])
        · skip
          conv => whnf
          refine ⟨fun q9 => by first | (simp at q9; done) | omega, ?_⟩
          exact hF k pl _ (by rw [hn3, hn4]; rfl) (fun b j z9 => by rw [hf4 b j (fun z => z9 (Or.inl z)), up_n (fun z => z9 (Or.inr ⟨z.1, Or.inr z.2⟩)), hf3 b j (fun z => z9 (Or.inl (frg_w z))), up_n (fun z => z9 (Or.inr ⟨z.1, Or.inl z.2⟩))]) hl4
      · have w18 : σ4 124 18 = σ 124 18 := (hf4 _ _ (by unfold FRg; omega)).trans ((up_n (by omega)).trans w18)
        have v11b := hv4
        conv => whnf
        refine ⟨fun g => ?_, fun g => ?_⟩
        · skip
          conv => whnf
          refine ⟨(by first | assumption | rfl), ?_⟩
          try simp (disch := omega) only [Int.cast_ofNat_Int, up_s, up_a, up_i, mp_a, mp_ge]
          try simp only [w18]
          try simp only [w19]
          try simp only [v11]
          try simp only [v11b]
          try simp only [a10]
          conv => whnf
          refine ⟨(by first | assumption | rfl), ?_⟩
          try simp (disch := omega) only [Int.cast_ofNat_Int, up_s, up_a, up_i, mp_a, mp_ge]
          try simp only [w18]
          try simp only [w19]
          try simp only [v11]
          try simp only [v11b]
          try simp only [a10]
          conv => whnf
          refine ⟨⟨by omega, by omega⟩, ?_⟩
          conv => whnf
          refine ⟨⟨by omega, by omega⟩, ?_⟩
          conv => whnf
          refine ⟨(by first | assumption | rfl), ?_⟩
          try simp (disch := omega) only [Int.cast_ofNat_Int, up_s, up_a, up_i, mp_a, mp_ge]
          try simp only [w18]
          try simp only [w19]
          try simp only [v11]
          try simp only [v11b]
          try simp only [a10]
          conv => whnf
          refine ⟨fun q9 => by first | (simp at q9; done) | omega, ?_⟩
          refine hS (by rw [hn3, hn4]; rfl) _ (fun b j z9 => by rw [up_n (fun z => z9 (Or.inl (by unfold FRg; omega))), hf4 b j (fun z => z9 (Or.inl z)), up_n (fun z => z9 (Or.inr ⟨z.1, Or.inr z.2⟩)), hf3 b j (fun z => z9 (Or.inl z)), up_n (fun z => z9 (Or.inr ⟨z.1, Or.inl z.2⟩))]) (rQ_up hq4 (by unfold FRd; omega)) ?_ ?_ ?_
          · rw [up_n (by omega), hf4 _ _ (by unfold FRg; omega), up_n (by omega), hf3 _ _ (by unfold FRg; omega), up_s]
          · rw [up_n (by omega), hf4 _ _ (by unfold FRg; omega), up_s]
          · rw [up_s]; omega
        · exact absurd g (by simp [sx_cc])
    · exact absurd g (by simp [sx_cc])
end SXR1
