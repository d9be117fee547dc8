/-! THE TELLER: tokens (by wip/whole) -/
section SXP1
variable {X : sx_X} {Q : sx_R} {σ σ0 σ' σ1 σ2 : sx_S} {tx : Int → Int} {n9 p i : Int} {F : Option (Int × Int)}
/-- the fault that the class's teller holds -/
def pFl (σ : sx_S) (F : Option (Int × Int)) : Prop := match F with
  | none => σ 32 0 = 0 ∧ σ 32 1 = -1
  | some q => σ 32 0 = q.1 ∧ σ 32 1 = q.2 ∧ ¬ q.1 = 0
/-- the class's teller tells into p and stands at the token behind i with the fault F -/
def cQ (p : Int) (σ : sx_S) (tx : Int → Int) (n9 i : Int) (F : Option (Int × Int)) : Prop := isP p ∧ PT σ ∧ σ 32 4 = p ∧ pLx σ tx n9 ∧ (0 ≤ i ∧ i ≤ n9) ∧ cTk σ tx n9 i ∧ pFl σ F
theorem cQ.ip (h : cQ p σ tx n9 i F) : p = 2 ∨ p = 17 := h.1
theorem cQ.pt (h : cQ p σ tx n9 i F) : PT σ := h.2.1
theorem cQ.ep (h : cQ p σ tx n9 i F) : σ 32 4 = p := h.2.2.1
theorem cQ.lx (h : cQ p σ tx n9 i F) : pLx σ tx n9 := h.2.2.2.1
theorem cQ.bi (h : cQ p σ tx n9 i F) : 0 ≤ i ∧ i ≤ n9 := h.2.2.2.2.1
theorem cQ.tk (h : cQ p σ tx n9 i F) : cTk σ tx n9 i := h.2.2.2.2.2.1
theorem cQ.fl (h : cQ p σ tx n9 i F) : pFl σ F := h.2.2.2.2.2.2
abbrev FFl (a i : Int) : Prop := a = 32 ∧ (i = 0 ∨ i = 1)
abbrev FNx (a i : Int) : Prop := (a = 32 ∧ (i = 0 ∨ i = 1)) ∨ (a = 33 ∧ 2 ≤ i ∧ i ≤ 6)
abbrev FPd (p a i : Int) : Prop := (a = 32 ∧ (i = 2 ∨ (6 ≤ i ∧ i ≤ 9) ∨ 11 ≤ i)) ∨ a = 35 ∨ a = 36 ∨ (a = p ∧ (i = 0 ∨ i = 1 ∨ i = 4 ∨ i = 6 ∨ i = 13 ∨ i = 14)) ∨ (p + 1 ≤ a ∧ a ≤ p + 8) ∨ (p + 10 ≤ a ∧ a ≤ p + 14)
theorem FPd_pts : ptL.all (fun q => decide (¬ FPd 2 q.1 q.2.1 ∧ ¬ FPd 17 q.1 q.2.1 ∧ ¬ FNx q.1 q.2.1)) = true := by decide +kernel
theorem fr.ptpd {σ σ' : sx_S} {p : Int} (h : fr (FPd p) σ σ') (hp : isP p) (hT : PT σ) : PT σ' := hT.fr (fun q hq => h _ _ (by
  have h1 := of_decide_eq_true (List.all_eq_true.mp FPd_pts q hq)
  rcases hp with rfl | rfl
  · exact h1.1
  · exact h1.2.1))
theorem fr.ptnx {σ σ' : sx_S} (h : fr FNx σ σ') (hT : PT σ) : PT σ' := hT.fr (fun q hq => h _ _ (of_decide_eq_true (List.all_eq_true.mp FPd_pts q hq)).2.2)
theorem pFl_of {F : Option (Int × Int)} (h : pFl σ F) (e : ∀ j : Int, j = 0 ∨ j = 1 → σ' 32 j = σ 32 j) : pFl σ' F := by
  unfold pFl
  rw [e 0 (Or.inl rfl), e 1 (Or.inr rfl)]
  exact h
theorem cQ_of (h : cQ p σ tx n9 i F) (hf : fr (FPd p) σ σ') : cQ p σ' tx n9 i F := by
  have hp := h.ip
  exact ⟨h.1, fr.ptpd hf h.1 h.pt, (hf 32 4 (by unfold FPd; omega)).trans h.ep, pLx_of h.lx (fun a j z => hf a j (by unfold FPd; omega)), h.bi, cTk_of h.tk (fun j y0 y1 => hf 33 j (by unfold FPd; omega)), pFl_of h.fl (fun j z => hf 32 j (by unfold FPd; omega))⟩
theorem cQ_up {a j v : Int} (h : cQ p σ tx n9 i F) (z : FPd p a j) : cQ p (sx_up σ a j v) tx n9 i F := cQ_of h (fun b k z9 => up_n (fun e => z9 (by rw [e.1, e.2]; exact z)))
theorem pFl_s (h : pFl σ F) (h0 : ¬ σ 32 0 = 0) : ∃ q, F = some q := by
  cases F with
  | none => exact absurd h.1 h0
  | some q => exact ⟨q, rfl⟩
theorem pFl_n (h : pFl σ F) (h0 : σ 32 0 = 0) : F = none := by
  cases F with
  | none => rfl
  | some q => exact absurd (h.1.symm.trans h0) h.2.2
theorem cQ_fl {k s : Int} (h : cQ p σ tx n9 i none) (hk : ¬ k = 0) : cQ p (sx_up (sx_up σ 32 0 k) 32 1 s) tx n9 i (some (k, s)) := by
  have hf : fr FNx σ (sx_up (sx_up σ 32 0 k) 32 1 s) := fun a j z9 => by unfold FNx at z9; rw [up_n (by omega), up_n (by omega)]
  exact ⟨h.1, fr.ptnx hf h.pt, (hf 32 4 (by decide)).trans h.ep, pLx_of h.lx (fun a j z => hf a j (by unfold FNx; omega)), h.bi, cTk_of h.tk (fun j y0 y1 => by rw [up_a (by decide), up_a (by decide)]), by rw [up_i (by decide), up_s], up_s, hk⟩
/-- a number's fault and value within lo .. hi -/
def nF (tx : Int → Int) (n9 lo hi i : Int) : Option (Int × Int) := if ¬ kT tx n9 i = 21 then some (1, kS tx n9 i) else if kV tx n9 i < lo ∨ hi < kV tx n9 i then some (2, kS tx n9 i) else none
def nV (tx : Int → Int) (n9 lo hi i : Int) : Int := if kT tx n9 i = 21 ∧ lo ≤ kV tx n9 i ∧ kV tx n9 i ≤ hi then kV tx n9 i else lo
theorem nV_bd {lo hi : Int} (h : lo ≤ hi) : lo ≤ nV tx n9 lo hi i ∧ nV tx n9 lo hi i ≤ hi := by
  unfold nV
  split <;> omega
theorem nF_1 {lo hi : Int} (h : ¬ kT tx n9 i = 21) : nF tx n9 lo hi i = some (1, kS tx n9 i) := if_pos h
theorem nF_2 {lo hi : Int} (h : kT tx n9 i = 21) (h2 : kV tx n9 i < lo ∨ hi < kV tx n9 i) : nF tx n9 lo hi i = some (2, kS tx n9 i) := by
  unfold nF; rw [if_neg (fun z => z h), if_pos h2]
theorem nF_0 {lo hi : Int} (h : kT tx n9 i = 21) (h2 : lo ≤ kV tx n9 i ∧ kV tx n9 i ≤ hi) : nF tx n9 lo hi i = none := by
  unfold nF; rw [if_neg (fun z => z h), if_neg (by omega)]
theorem nF_n {lo hi : Int} (h : nF tx n9 lo hi i = none) : kT tx n9 i = 21 ∧ lo ≤ kV tx n9 i ∧ kV tx n9 i ≤ hi := by
  unfold nF at h
  split at h
  · exact absurd h (by simp)
  · split at h
    · exact absurd h (by simp)
    · omega
theorem nV_0 {lo hi : Int} (h : kT tx n9 i = 21) (h2 : lo ≤ kV tx n9 i ∧ kV tx n9 i ≤ hi) : nV tx n9 lo hi i = kV tx n9 i := if_pos ⟨h, h2⟩
theorem nV_x {lo hi : Int} (h : ¬ (kT tx n9 i = 21 ∧ lo ≤ kV tx n9 i ∧ kV tx n9 i ≤ hi)) : nV tx n9 lo hi i = lo := if_neg h
def aF (tx : Int → Int) (n9 i : Int) : Option (Int × Int) := if kT tx n9 i = 20 then none else some (1, kS tx n9 i)
def aV (tx : Int → Int) (n9 i : Int) : Int := if kT tx n9 i = 20 then kV tx n9 i else 0
theorem kE_in (h : 0 ≤ i ∧ i ≤ n9) : 0 ≤ kE tx n9 i ∧ kE tx n9 i ≤ n9 := by have := kE_bd (tx := tx) h.2; omega
set_option maxRecDepth 20000 in
theorem c_Tfail (hq : cQ p σ tx n9 i F) {k : Int} (hk : ¬ k = 0) (h : ∀ σ', fr FFl σ σ' → cQ p σ' tx n9 i (F.or (some (k, kS tx n9 i))) → Q none shM σ') : sx_Run X 101 [.inr (.inr 32), .inl k] shM σ Q := by
  have t3 := pt_32_3 hq.pt
  have e4 := hq.tk.2.2.1
  refine sx_rule0 (own := 10) (cd := kX10_fail) (nL := 2) (by decide +kernel) (by decide +kernel) kX10_fail_ok (by decide +kernel) (Nat.le_of_ble_eq_true rfl) 40 ?_
  conv => whnf
  refine ⟨(by first | assumption | rfl), ?_⟩
  try simp (disch := omega) only [Int.cast_ofNat_Int, up_s, up_a, up_i, mp_a, mp_ge]
  try simp only [t3]
  try simp only [e4]
  conv => whnf
  refine ⟨fun g => ?_, fun g => ?_⟩
  · simp only [sx_cc, Classical.not_not] at g
    conv => whnf
    refine ⟨rfl, ?_⟩
    first
    | (obtain ⟨q, rfl⟩ := pFl_s hq.fl g; exact h _ (fun _ _ _ => rfl) hq)
    | (have e0 := pFl_n hq.fl g; subst e0; exact h _ (fun a j z9 => by unfold FFl at z9; rw [up_n (by omega), up_n (by omega)]) (cQ_fl hq hk))
  · simp only [sx_cc, Classical.not_not] at g
    conv => whnf
    refine ⟨(by first | assumption | rfl), ?_⟩
    try simp (disch := omega) only [Int.cast_ofNat_Int, up_s, up_a, up_i, mp_a, mp_ge]
    try simp only [t3]
    try simp only [e4]
    conv => whnf
    refine ⟨(by first | assumption | rfl), ?_⟩
    try simp (disch := omega) only [Int.cast_ofNat_Int, up_s, up_a, up_i, mp_a, mp_ge]
    try simp only [t3]
    try simp only [e4]
    conv => whnf
    refine ⟨(by first | assumption | rfl), ?_⟩
    try simp (disch := omega) only [Int.cast_ofNat_Int, up_s, up_a, up_i, mp_a, mp_ge]
    try simp only [t3]
    try simp only [e4]
    conv => whnf
    refine ⟨(by first | assumption | rfl), ?_⟩
    try simp (disch := omega) only [Int.cast_ofNat_Int, up_s, up_a, up_i, mp_a, mp_ge]
    try simp only [t3]
    try simp only [e4]
    conv => whnf
    refine ⟨rfl, ?_⟩
    first
    | (obtain ⟨q, rfl⟩ := pFl_s hq.fl g; exact h _ (fun _ _ _ => rfl) hq)
    | (have e0 := pFl_n hq.fl g; subst e0; exact h _ (fun a j z9 => by unfold FFl at z9; rw [up_n (by omega), up_n (by omega)]) (cQ_fl hq hk))
theorem c_Tadv (hw : sx_WT X) (hq : cQ p σ tx n9 i F) (h : ∀ σ', fr FXa σ σ' → cQ p σ' tx n9 (kE tx n9 i) F → Q none shM σ') : sx_Run X 16 [.inr (.inr 33)] shM σ Q :=
  c_Xadv hw hq.pt hq.lx hq.tk.1 (kE_in hq.bi) (fun σ' hf hk => h σ' hf ⟨hq.1, fr.ptxa hf hq.pt, (hf 32 4 (by decide)).trans hq.ep, pLx_of hq.lx (fun a j z => hf a j (by unfold FXa; omega)), kE_in hq.bi, hk, pFl_of hq.fl (fun j z => hf 32 j (by unfold FXa; omega))⟩)
set_option maxRecDepth 20000 in
theorem c_Tnum (hq : cQ p σ tx n9 i F) {lo hi : Int} (hb : 0 ≤ lo ∧ hi ≤ 99999) (h : ∀ σ', fr FFl σ σ' → cQ p σ' tx n9 i (F.or (nF tx n9 lo hi i)) → Q (some (.inl (nV tx n9 lo hi i))) shM σ') : sx_Run X 103 [.inr (.inr 32), .inl lo, .inl hi] shM σ Q := by
  have t3 := pt_32_3 hq.pt
  have e3 := hq.tk.2.1
  have e5 := hq.tk.2.2.2.2
  refine sx_rule0 (own := 10) (cd := kX10_numberHere) (nL := 3) (by decide +kernel) (by decide +kernel) kX10_numberHere_ok (by decide +kernel) (Nat.le_of_ble_eq_true rfl) 40 ?_
  conv => whnf
  refine ⟨(by first | assumption | rfl), ?_⟩
  try simp (disch := omega) only [Int.cast_ofNat_Int, up_s, up_a, up_i, mp_a, mp_ge]
  try simp only [t3]
  try simp only [e3]
  conv => whnf
  refine ⟨(by first | assumption | rfl), ?_⟩
  try simp (disch := omega) only [Int.cast_ofNat_Int, up_s, up_a, up_i, mp_a, mp_ge]
  try simp only [t3]
  try simp only [e3]
  conv => whnf
  refine ⟨fun g => ?_, fun g => ?_⟩
  · simp only [sx_cc, Classical.not_not] at g
    have e5 := e5 g
    have g0 := g
    conv => whnf
    refine ⟨(by first | assumption | rfl), ?_⟩
    try simp (disch := omega) only [Int.cast_ofNat_Int, up_s, up_a, up_i, mp_a, mp_ge]
    try simp only [t3]
    try simp only [e3]
    conv => whnf
    refine ⟨(by first | assumption | rfl), ?_⟩
    try simp (disch := omega) only [Int.cast_ofNat_Int, up_s, up_a, up_i, mp_a, mp_ge]
    try simp only [t3]
    try simp only [e3]
    conv => whnf
    refine ⟨fun g => ?_, fun g => ?_⟩
    · simp only [sx_cc, Classical.not_not] at g
      have n1 := nF_2 (lo := lo) (hi := hi) g0 (by omega)
      have n2 : nV tx n9 lo hi i = lo := nV_x (fun z => by omega)
      conv => whnf
      refine ⟨Nat.le_of_ble_eq_true rfl, Nat.le_of_ble_eq_true rfl, (by first | assumption | rfl), ?_⟩
      refine c_Tfail hq (by decide) (fun σ3 hf3 hq3 => ?_)
      conv => whnf
      refine ⟨fun q9 => by first | (simp at q9; done) | omega, ?_⟩
      first
      | (rw [n1, n2] at h; exact h _ hf3 hq3)
      | (rw [n1] at h; rw [n2]; exact h _ (fun _ _ _ => rfl) (by rw [Option.or_none]; exact hq))
    · simp only [sx_cc, Classical.not_not] at g
      conv => whnf
      refine ⟨(by first | assumption | rfl), ?_⟩
      try simp (disch := omega) only [Int.cast_ofNat_Int, up_s, up_a, up_i, mp_a, mp_ge]
      try simp only [t3]
      try simp only [e3]
      conv => whnf
      refine ⟨(by first | assumption | rfl), ?_⟩
      try simp (disch := omega) only [Int.cast_ofNat_Int, up_s, up_a, up_i, mp_a, mp_ge]
      try simp only [t3]
      try simp only [e3]
      conv => whnf
      refine ⟨fun g => ?_, fun g => ?_⟩
      · simp only [sx_cc, Classical.not_not] at g
        have n1 := nF_0 (lo := lo) (hi := hi) g0 (by omega)
        have n2 : σ 33 5 = nV tx n9 lo hi i := by rw [nV_0 g0 (by omega)]; omega
        skip
        conv => whnf
        refine ⟨(by first | assumption | rfl), ?_⟩
        try simp (disch := omega) only [Int.cast_ofNat_Int, up_s, up_a, up_i, mp_a, mp_ge]
        try simp only [t3]
        try simp only [e3]
        conv => whnf
        refine ⟨(by first | assumption | rfl), ?_⟩
        try simp (disch := omega) only [Int.cast_ofNat_Int, up_s, up_a, up_i, mp_a, mp_ge]
        try simp only [t3]
        try simp only [e3]
        conv => whnf
        refine ⟨fun q9 => by first | (simp at q9; done) | omega, ?_⟩
        first
        | (rw [n1, n2] at h; exact h _ hf3 hq3)
        | (rw [n1] at h; rw [n2]; exact h _ (fun _ _ _ => rfl) (by rw [Option.or_none]; exact hq))
      · simp only [sx_cc, Classical.not_not] at g
        have n1 := nF_2 (lo := lo) (hi := hi) g0 (by omega)
        have n2 : nV tx n9 lo hi i = lo := nV_x (fun z => by omega)
        conv => whnf
        refine ⟨Nat.le_of_ble_eq_true rfl, Nat.le_of_ble_eq_true rfl, (by first | assumption | rfl), ?_⟩
        refine c_Tfail hq (by decide) (fun σ3 hf3 hq3 => ?_)
        conv => whnf
        refine ⟨fun q9 => by first | (simp at q9; done) | omega, ?_⟩
        first
        | (rw [n1, n2] at h; exact h _ hf3 hq3)
        | (rw [n1] at h; rw [n2]; exact h _ (fun _ _ _ => rfl) (by rw [Option.or_none]; exact hq))
  · simp only [sx_cc, Classical.not_not] at g
    have n1 := nF_1 (lo := lo) (hi := hi) g
    have n2 : nV tx n9 lo hi i = lo := nV_x (fun z => g z.1)
    conv => whnf
    refine ⟨Nat.le_of_ble_eq_true rfl, Nat.le_of_ble_eq_true rfl, (by first | assumption | rfl), ?_⟩
    refine c_Tfail hq (by decide) (fun σ3 hf3 hq3 => ?_)
    conv => whnf
    refine ⟨fun q9 => by first | (simp at q9; done) | omega, ?_⟩
    first
    | (rw [n1, n2] at h; exact h _ hf3 hq3)
    | (rw [n1] at h; rw [n2]; exact h _ (fun _ _ _ => rfl) (by rw [Option.or_none]; exact hq))
set_option maxRecDepth 20000 in
theorem c_Tnxt (hw : sx_WT X) (hq : cQ p σ tx n9 i F) {lo hi : Int} (hb : 0 ≤ lo ∧ hi ≤ 99999) (h : ∀ σ', fr FNx σ σ' → cQ p σ' tx n9 (kE tx n9 i) (F.or (nF tx n9 lo hi (kE tx n9 i))) → Q (some (.inl (nV tx n9 lo hi (kE tx n9 i)))) shM σ') : sx_Run X 104 [.inr (.inr 32), .inl lo, .inl hi] shM σ Q := by
  have t3 := pt_32_3 hq.pt
  refine sx_rule0 (own := 10) (cd := kX10_nextNumber) (nL := 3) (by decide +kernel) (by decide +kernel) kX10_nextNumber_ok (by decide +kernel) (Nat.le_of_ble_eq_true rfl) 40 ?_
  conv => whnf
  refine ⟨(by first | assumption | rfl), ?_⟩
  try simp (disch := omega) only [Int.cast_ofNat_Int, up_s, up_a, up_i, mp_a, mp_ge]
  try simp only [t3]
  conv => whnf
  refine ⟨Nat.le_of_ble_eq_true rfl, Nat.le_of_ble_eq_true rfl, (by first | assumption | rfl), ?_⟩
  refine c_Tadv hw hq (fun σ3 hf3 hq3 => ?_)
  conv => whnf
  refine ⟨Nat.le_of_ble_eq_true rfl, Nat.le_of_ble_eq_true rfl, (by first | assumption | rfl), ?_⟩
  refine c_Tnum hq3 hb (fun σ4 hf4 hq4 => ?_)
  conv => whnf
  refine ⟨fun q9 => by first | (simp at q9; done) | omega, ?_⟩
  exact h _ (fun a j z9 => (hf4 a j (by unfold FNx at z9; unfold FFl; omega)).trans (hf3 a j (by unfold FNx at z9; unfold FXa; omega))) hq4
set_option maxRecDepth 20000 in
theorem c_Tname (hw : sx_WT X) (hq : cQ p σ tx n9 i F) (h : ∀ σ', fr FNx σ σ' → cQ p σ' tx n9 (kE tx n9 i) (F.or (aF tx n9 (kE tx n9 i))) → Q (some (.inl (aV tx n9 (kE tx n9 i)))) shM σ') : sx_Run X 105 [.inr (.inr 32)] shM σ Q := by
  have t3 := pt_32_3 hq.pt
  refine sx_rule0 (own := 10) (cd := kX10_nextName) (nL := 1) (by decide +kernel) (by decide +kernel) kX10_nextName_ok (by decide +kernel) (Nat.le_of_ble_eq_true rfl) 40 ?_
  conv => whnf
  refine ⟨(by first | assumption | rfl), ?_⟩
  try simp (disch := omega) only [Int.cast_ofNat_Int, up_s, up_a, up_i, mp_a, mp_ge]
  try simp only [t3]
  try simp only [e3]
  conv => whnf
  refine ⟨Nat.le_of_ble_eq_true rfl, Nat.le_of_ble_eq_true rfl, (by first | assumption | rfl), ?_⟩
  refine c_Tadv hw hq (fun σ3 hf3 hq3 => ?_)
  have t3 := pt_32_3 hq3.pt
  have e3 := hq3.tk.2.1
  conv => whnf
  refine ⟨(by first | assumption | rfl), ?_⟩
  try simp (disch := omega) only [Int.cast_ofNat_Int, up_s, up_a, up_i, mp_a, mp_ge]
  try simp only [t3]
  try simp only [e3]
  conv => whnf
  refine ⟨(by first | assumption | rfl), ?_⟩
  try simp (disch := omega) only [Int.cast_ofNat_Int, up_s, up_a, up_i, mp_a, mp_ge]
  try simp only [t3]
  try simp only [e3]
  conv => whnf
  refine ⟨fun g => ?_, fun g => ?_⟩
  · simp only [sx_cc, Classical.not_not] at g
    have n1 : aF tx n9 (kE tx n9 i) = none := if_pos g
    have n2 : aV tx n9 (kE tx n9 i) = kV tx n9 (kE tx n9 i) := if_pos g
    conv => whnf
    refine ⟨(by first | assumption | rfl), ?_⟩
    try simp (disch := omega) only [Int.cast_ofNat_Int, up_s, up_a, up_i, mp_a, mp_ge]
    try simp only [t3]
    try simp only [e3]
    conv => whnf
    refine ⟨(by first | assumption | rfl), ?_⟩
    try simp (disch := omega) only [Int.cast_ofNat_Int, up_s, up_a, up_i, mp_a, mp_ge]
    try simp only [t3]
    try simp only [e3]
    conv => whnf
    refine ⟨fun q9 => by first | (simp at q9; done) | omega, ?_⟩
    first
    | (rw [n1, n2] at h; exact h _ (fun a j z9 => (hf4 a j (by unfold FNx at z9; unfold FFl; omega)).trans (hf3 a j (by unfold FNx at z9; unfold FXa; omega))) hq4)
    | (rw [n1, n2, ← hq3.tk.2.2.2.1 g] at h; exact h _ (fun a j z9 => hf3 a j (by unfold FNx at z9; unfold FXa; omega)) (by rw [Option.or_none]; exact hq3))
  · simp only [sx_cc, Classical.not_not] at g
    have n1 : aF tx n9 (kE tx n9 i) = some (1, kS tx n9 (kE tx n9 i)) := if_neg g
    have n2 : aV tx n9 (kE tx n9 i) = 0 := if_neg g
    conv => whnf
    refine ⟨Nat.le_of_ble_eq_true rfl, Nat.le_of_ble_eq_true rfl, (by first | assumption | rfl), ?_⟩
    refine c_Tfail hq3 (by decide) (fun σ4 hf4 hq4 => ?_)
    conv => whnf
    refine ⟨fun q9 => by first | (simp at q9; done) | omega, ?_⟩
    first
    | (rw [n1, n2] at h; exact h _ (fun a j z9 => (hf4 a j (by unfold FNx at z9; unfold FFl; omega)).trans (hf3 a j (by unfold FNx at z9; unfold FXa; omega))) hq4)
    | (rw [n1, n2, ← hq3.tk.2.2.2.1 g] at h; exact h _ (fun a j z9 => hf3 a j (by unfold FNx at z9; unfold FXa; omega)) (by rw [Option.or_none]; exact hq3))
end SXP1
