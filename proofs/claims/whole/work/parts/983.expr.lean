/-! A LAW IS TOLD: its signs, class side (by wip/whole) -/
section SXP6
variable {X : sx_X} {Q : sx_R} {σ σ0 σ' σ1 σ2 : sx_S} {tx : Int → Int} {n9 p i : Int} {F : Option (Int × Int)}
/-- the rank of a sign -/
def fRk (t : Int) : Int := if t = 17 then 1 else if t = 18 then 2 else if t = 19 then 3 else if 25 ≤ t ∧ t ≤ 30 then 4 else if t = 31 ∨ t = 32 then 5 else if t = 33 ∨ t = 34 then 6 else 0
def fHdr (s : sx_S) : Int := if 0 < s 32 11 ∧ s 32 11 ≤ 72 then fRk (s 36 (s 32 11 - 1)) else 0
theorem fRk_v {t r : Int} (h : (t = 17 ∧ r = 1) ∨ (t = 18 ∧ r = 2) ∨ (t = 19 ∧ r = 3) ∨ (25 ≤ t ∧ t ≤ 30 ∧ r = 4) ∨ ((t = 31 ∨ t = 32) ∧ r = 5) ∨ ((t = 33 ∨ t = 34) ∧ r = 6) ∨ ((t < 17 ∨ 34 < t ∨ (20 ≤ t ∧ t ≤ 24)) ∧ r = 0)) : fRk t = r := by
  unfold fRk
  repeat' split
  all_goals omega
theorem fRk_bd (t : Int) : 0 ≤ fRk t ∧ fRk t ≤ 6 := by
  unfold fRk
  repeat' split
  all_goals omega
set_option maxRecDepth 20000 in
theorem c_Trank {t : Int} (h : Q (some (.inl (fRk t))) shM σ) : sx_Run X 116 [.inl t] shM σ Q := by
  refine sx_rule0 (own := 10) (cd := kX10_rank) (nL := 1) (by decide +kernel) (by decide +kernel) kX10_rank_ok (by decide +kernel) (Nat.le_of_ble_eq_true rfl) 40 ?_
  conv => whnf
  refine ⟨fun g => ?_, ?_⟩
  · skip
    conv => whnf
    refine ⟨fun q9 => by first | (simp at q9; done) | omega, ?_⟩
    rw [fRk_v (t := t) (r := 0) (Or.inr (Or.inr (Or.inr (Or.inr (Or.inr (Or.inr ⟨by omega, rfl⟩))))))] at h; exact h
  conv => whnf
  refine ⟨fun g => ?_, ?_⟩
  · skip
    conv => whnf
    refine ⟨fun q9 => by first | (simp at q9; done) | omega, ?_⟩
    rw [fRk_v (t := t) (r := 1) (Or.inl ⟨by omega, rfl⟩)] at h; exact h
  conv => whnf
  refine ⟨fun g => ?_, ?_⟩
  · skip
    conv => whnf
    refine ⟨fun q9 => by first | (simp at q9; done) | omega, ?_⟩
    rw [fRk_v (t := t) (r := 2) (Or.inr (Or.inl ⟨by omega, rfl⟩))] at h; exact h
  conv => whnf
  refine ⟨fun g => ?_, ?_⟩
  · skip
    conv => whnf
    refine ⟨fun q9 => by first | (simp at q9; done) | omega, ?_⟩
    rw [fRk_v (t := t) (r := 3) (Or.inr (Or.inr (Or.inl ⟨by omega, rfl⟩)))] at h; exact h
  conv => whnf
  refine ⟨fun g => ?_, ?_⟩
  · skip
    conv => whnf
    refine ⟨fun q9 => by first | (simp at q9; done) | omega, ?_⟩
    rw [fRk_v (t := t) (r := 0) (Or.inr (Or.inr (Or.inr (Or.inr (Or.inr (Or.inr ⟨by omega, rfl⟩))))))] at h; exact h
  conv => whnf
  refine ⟨fun g => ?_, ?_⟩
  · skip
    conv => whnf
    refine ⟨fun q9 => by first | (simp at q9; done) | omega, ?_⟩
    rw [fRk_v (t := t) (r := 0) (Or.inr (Or.inr (Or.inr (Or.inr (Or.inr (Or.inr ⟨by omega, rfl⟩))))))] at h; exact h
  conv => whnf
  refine ⟨fun g => ?_, ?_⟩
  · skip
    conv => whnf
    refine ⟨fun q9 => by first | (simp at q9; done) | omega, ?_⟩
    rw [fRk_v (t := t) (r := 0) (Or.inr (Or.inr (Or.inr (Or.inr (Or.inr (Or.inr ⟨by omega, rfl⟩))))))] at h; exact h
  conv => whnf
  refine ⟨fun g => ?_, ?_⟩
  · skip
    conv => whnf
    refine ⟨fun q9 => by first | (simp at q9; done) | omega, ?_⟩
    rw [fRk_v (t := t) (r := 0) (Or.inr (Or.inr (Or.inr (Or.inr (Or.inr (Or.inr ⟨by omega, rfl⟩))))))] at h; exact h
  conv => whnf
  refine ⟨fun g => ?_, ?_⟩
  · skip
    conv => whnf
    refine ⟨fun q9 => by first | (simp at q9; done) | omega, ?_⟩
    rw [fRk_v (t := t) (r := 0) (Or.inr (Or.inr (Or.inr (Or.inr (Or.inr (Or.inr ⟨by omega, rfl⟩))))))] at h; exact h
  conv => whnf
  refine ⟨fun g => ?_, ?_⟩
  · skip
    conv => whnf
    refine ⟨fun q9 => by first | (simp at q9; done) | omega, ?_⟩
    rw [fRk_v (t := t) (r := 4) (Or.inr (Or.inr (Or.inr (Or.inl ⟨by omega, by omega, rfl⟩))))] at h; exact h
  conv => whnf
  refine ⟨fun g => ?_, ?_⟩
  · skip
    conv => whnf
    refine ⟨fun q9 => by first | (simp at q9; done) | omega, ?_⟩
    rw [fRk_v (t := t) (r := 4) (Or.inr (Or.inr (Or.inr (Or.inl ⟨by omega, by omega, rfl⟩))))] at h; exact h
  conv => whnf
  refine ⟨fun g => ?_, ?_⟩
  · skip
    conv => whnf
    refine ⟨fun q9 => by first | (simp at q9; done) | omega, ?_⟩
    rw [fRk_v (t := t) (r := 4) (Or.inr (Or.inr (Or.inr (Or.inl ⟨by omega, by omega, rfl⟩))))] at h; exact h
  conv => whnf
  refine ⟨fun g => ?_, ?_⟩
  · skip
    conv => whnf
    refine ⟨fun q9 => by first | (simp at q9; done) | omega, ?_⟩
    rw [fRk_v (t := t) (r := 4) (Or.inr (Or.inr (Or.inr (Or.inl ⟨by omega, by omega, rfl⟩))))] at h; exact h
  conv => whnf
  refine ⟨fun g => ?_, ?_⟩
  · skip
    conv => whnf
    refine ⟨fun q9 => by first | (simp at q9; done) | omega, ?_⟩
    rw [fRk_v (t := t) (r := 4) (Or.inr (Or.inr (Or.inr (Or.inl ⟨by omega, by omega, rfl⟩))))] at h; exact h
  conv => whnf
  refine ⟨fun g => ?_, ?_⟩
  · skip
    conv => whnf
    refine ⟨fun q9 => by first | (simp at q9; done) | omega, ?_⟩
    rw [fRk_v (t := t) (r := 4) (Or.inr (Or.inr (Or.inr (Or.inl ⟨by omega, by omega, rfl⟩))))] at h; exact h
  conv => whnf
  refine ⟨fun g => ?_, ?_⟩
  · skip
    conv => whnf
    refine ⟨fun q9 => by first | (simp at q9; done) | omega, ?_⟩
    rw [fRk_v (t := t) (r := 5) (Or.inr (Or.inr (Or.inr (Or.inr (Or.inl ⟨by omega, rfl⟩)))))] at h; exact h
  conv => whnf
  refine ⟨fun g => ?_, ?_⟩
  · skip
    conv => whnf
    refine ⟨fun q9 => by first | (simp at q9; done) | omega, ?_⟩
    rw [fRk_v (t := t) (r := 5) (Or.inr (Or.inr (Or.inr (Or.inr (Or.inl ⟨by omega, rfl⟩)))))] at h; exact h
  conv => whnf
  refine ⟨fun g => ?_, ?_⟩
  · skip
    conv => whnf
    refine ⟨fun q9 => by first | (simp at q9; done) | omega, ?_⟩
    rw [fRk_v (t := t) (r := 6) (Or.inr (Or.inr (Or.inr (Or.inr (Or.inr (Or.inl ⟨by omega, rfl⟩))))))] at h; exact h
  conv => whnf
  refine ⟨fun g => ?_, ?_⟩
  · skip
    conv => whnf
    refine ⟨fun q9 => by first | (simp at q9; done) | omega, ?_⟩
    rw [fRk_v (t := t) (r := 6) (Or.inr (Or.inr (Or.inr (Or.inr (Or.inr (Or.inl ⟨by omega, rfl⟩))))))] at h; exact h
  exact trivial
set_option maxRecDepth 20000 in
theorem c_Taddk (hq : cQ p σ tx n9 i F) (hn : 0 ≤ σ p 14) (h1 : σ p 14 < 64 → Q none shM (sx_up σ p 14 (σ p 14 + 1))) (h0 : 64 ≤ σ p 14 → ∀ σ', fr FFl σ σ' → cQ p σ' tx n9 i (F.or (some (2, kS tx n9 i))) → Q none shM σ') : sx_Run X 117 [.inr (.inr 32)] shM σ Q := by
  have hp : 2 ≤ p ∧ p ≤ 17 := by rcases hq.ip with rfl | rfl <;> decide
  have k0 := lkP0 hq.1
  have k11 := lkP11 hq.1
  have k12 := lkP12 hq.1
  have t3 := pt_32_3 hq.pt
  have t4 := hq.ep
  have t10 := pt_32_10 hq.pt
  have m15 := ptP_15 hq.pt hq.1
  have m16 := ptP_16 hq.pt hq.1
  refine sx_rule0 (own := 10) (cd := kX10_addKnot) (nL := 1) (by decide +kernel) (by decide +kernel) kX10_addKnot_ok (by decide +kernel) (Nat.le_of_ble_eq_true rfl) 40 ?_
  conv => whnf
  refine ⟨(by first | assumption | rfl), ?_⟩
  try simp (disch := omega) only [Int.cast_ofNat_Int, up_s, up_a, up_i, mp_a, mp_ge]
  try simp only [t3]
  try simp only [t4]
  try simp only [t10]
  try simp only [m15]
  try simp only [m16]
  try simp only [lk_36]
  try simp only [en]
  try simp only [ew]
  conv => whnf
  refine ⟨(by first | assumption | rfl), ?_⟩
  try simp (disch := omega) only [Int.cast_ofNat_Int, up_s, up_a, up_i, mp_a, mp_ge]
  try simp only [t3]
  try simp only [t4]
  try simp only [t10]
  try simp only [m15]
  try simp only [m16]
  try simp only [lk_36]
  try simp only [en]
  try simp only [ew]
  conv => whnf
  refine ⟨fun g => ?_, fun g => ?_⟩
  · simp only [sx_cc, Classical.not_not] at g
    conv => whnf
    refine ⟨(by first | assumption | rfl), ?_⟩
    try simp (disch := omega) only [Int.cast_ofNat_Int, up_s, up_a, up_i, mp_a, mp_ge]
    try simp only [t3]
    try simp only [t4]
    try simp only [t10]
    try simp only [m15]
    try simp only [m16]
    try simp only [lk_36]
    try simp only [en]
    try simp only [ew]
    conv => whnf
    refine ⟨(by first | assumption | rfl), ?_⟩
    try simp (disch := omega) only [Int.cast_ofNat_Int, up_s, up_a, up_i, mp_a, mp_ge]
    try simp only [t3]
    try simp only [t4]
    try simp only [t10]
    try simp only [m15]
    try simp only [m16]
    try simp only [lk_36]
    try simp only [en]
    try simp only [ew]
    conv => whnf
    refine ⟨⟨by omega, by omega⟩, ?_⟩
    conv => whnf
    refine ⟨(by first | assumption | rfl), ?_⟩
    try simp (disch := omega) only [Int.cast_ofNat_Int, up_s, up_a, up_i, mp_a, mp_ge]
    try simp only [t3]
    try simp only [t4]
    try simp only [t10]
    try simp only [m15]
    try simp only [m16]
    try simp only [lk_36]
    try simp only [en]
    try simp only [ew]
    conv => whnf
    refine ⟨rfl, ?_⟩
    first | exact h1 (by omega) | exact h0 (by omega) _ hf3 hq3
  · simp only [sx_cc, Classical.not_not] at g
    conv => whnf
    refine ⟨Nat.le_of_ble_eq_true rfl, Nat.le_of_ble_eq_true rfl, (by first | assumption | rfl), ?_⟩
    refine c_Tfail hq (by decide) (fun σ3 hf3 hq3 => ?_)
    conv => whnf
    refine ⟨rfl, ?_⟩
    first | exact h1 (by omega) | exact h0 (by omega) _ hf3 hq3
set_option maxRecDepth 20000 in
theorem c_Thold (hq : cQ p σ tx n9 i F) {n t : Int} (en : σ 32 11 = n) (hn : 0 ≤ n) (h1 : n < 72 → Q none shM (sx_up (sx_up σ 36 n t) 32 11 (n + 1))) (h0 : 72 ≤ n → Q none shM σ) : sx_Run X 118 [.inr (.inr 32), .inl t] shM σ Q := by
  have hp : 2 ≤ p ∧ p ≤ 17 := by rcases hq.ip with rfl | rfl <;> decide
  have k0 := lkP0 hq.1
  have k11 := lkP11 hq.1
  have k12 := lkP12 hq.1
  have t3 := pt_32_3 hq.pt
  have t4 := hq.ep
  have t10 := pt_32_10 hq.pt
  have m15 := ptP_15 hq.pt hq.1
  have m16 := ptP_16 hq.pt hq.1
  refine sx_rule0 (own := 10) (cd := kX10_hold) (nL := 2) (by decide +kernel) (by decide +kernel) kX10_hold_ok (by decide +kernel) (Nat.le_of_ble_eq_true rfl) 40 ?_
  conv => whnf
  refine ⟨(by first | assumption | rfl), ?_⟩
  try simp (disch := omega) only [Int.cast_ofNat_Int, up_s, up_a, up_i, mp_a, mp_ge]
  try simp only [t3]
  try simp only [t4]
  try simp only [t10]
  try simp only [m15]
  try simp only [m16]
  try simp only [lk_36]
  try simp only [en]
  try simp only [ew]
  conv => whnf
  refine ⟨(by first | assumption | rfl), ?_⟩
  try simp (disch := omega) only [Int.cast_ofNat_Int, up_s, up_a, up_i, mp_a, mp_ge]
  try simp only [t3]
  try simp only [t4]
  try simp only [t10]
  try simp only [m15]
  try simp only [m16]
  try simp only [lk_36]
  try simp only [en]
  try simp only [ew]
  conv => whnf
  refine ⟨by first | decide | (simp only [t10, lk_36]; decide), ?_⟩
  try simp (disch := omega) only [Int.cast_ofNat_Int, up_s, up_a, up_i, mp_a, mp_ge]
  try simp only [t3]
  try simp only [t4]
  try simp only [t10]
  try simp only [m15]
  try simp only [m16]
  try simp only [lk_36]
  try simp only [en]
  try simp only [ew]
  conv => whnf
  refine ⟨fun g => ?_, fun g => ?_⟩
  · simp only [sx_cc, Classical.not_not] at g
    conv => whnf
    refine ⟨rfl, ?_⟩
    first | exact h1 (by omega) | exact h0 (by omega)
  · simp only [sx_cc, Classical.not_not] at g
    conv => whnf
    refine ⟨(by first | assumption | rfl), ?_⟩
    try simp (disch := omega) only [Int.cast_ofNat_Int, up_s, up_a, up_i, mp_a, mp_ge]
    try simp only [t3]
    try simp only [t4]
    try simp only [t10]
    try simp only [m15]
    try simp only [m16]
    try simp only [lk_36]
    try simp only [en]
    try simp only [ew]
    conv => whnf
    refine ⟨(by first | assumption | rfl), ?_⟩
    try simp (disch := omega) only [Int.cast_ofNat_Int, up_s, up_a, up_i, mp_a, mp_ge]
    try simp only [t3]
    try simp only [t4]
    try simp only [t10]
    try simp only [m15]
    try simp only [m16]
    try simp only [lk_36]
    try simp only [en]
    try simp only [ew]
    conv => whnf
    refine ⟨sx_ixI (by first | assumption | rfl) (by omega) (by omega), ?_⟩
    conv => whnf
    refine ⟨(by first | assumption | rfl), ?_⟩
    try simp (disch := omega) only [Int.cast_ofNat_Int, up_s, up_a, up_i, mp_a, mp_ge]
    try simp only [t3]
    try simp only [t4]
    try simp only [t10]
    try simp only [m15]
    try simp only [m16]
    try simp only [lk_36]
    try simp only [en]
    try simp only [ew]
    conv => whnf
    refine ⟨⟨by omega, by omega⟩, ?_⟩
    conv => whnf
    refine ⟨(by first | assumption | rfl), ?_⟩
    try simp (disch := omega) only [Int.cast_ofNat_Int, up_s, up_a, up_i, mp_a, mp_ge]
    try simp only [t3]
    try simp only [t4]
    try simp only [t10]
    try simp only [m15]
    try simp only [m16]
    try simp only [lk_36]
    try simp only [en]
    try simp only [ew]
    conv => whnf
    refine ⟨rfl, ?_⟩
    first | exact h1 (by omega) | exact h0 (by omega)
set_option maxRecDepth 20000 in
theorem c_Thrank (hq : cQ p σ tx n9 i F) (h : Q (some (.inl (fHdr σ))) shM σ) : sx_Run X 119 [.inr (.inr 32)] shM σ Q := by
  have hp : 2 ≤ p ∧ p ≤ 17 := by rcases hq.ip with rfl | rfl <;> decide
  have k0 := lkP0 hq.1
  have k11 := lkP11 hq.1
  have k12 := lkP12 hq.1
  have t3 := pt_32_3 hq.pt
  have t4 := hq.ep
  have t10 := pt_32_10 hq.pt
  have m15 := ptP_15 hq.pt hq.1
  have m16 := ptP_16 hq.pt hq.1
  refine sx_rule0 (own := 10) (cd := kX10_heldRank) (nL := 1) (by decide +kernel) (by decide +kernel) kX10_heldRank_ok (by decide +kernel) (Nat.le_of_ble_eq_true rfl) 40 ?_
  conv => whnf
  refine ⟨(by first | assumption | rfl), ?_⟩
  try simp (disch := omega) only [Int.cast_ofNat_Int, up_s, up_a, up_i, mp_a, mp_ge]
  try simp only [t3]
  try simp only [t4]
  try simp only [t10]
  try simp only [m15]
  try simp only [m16]
  try simp only [lk_36]
  try simp only [en]
  try simp only [ew]
  conv => whnf
  refine ⟨fun g => ?_, fun g => ?_⟩
  · simp only [sx_cc, Classical.not_not] at g
    conv => whnf
    refine ⟨fun q9 => by first | (simp at q9; done) | omega, ?_⟩
    first | (rw [show fHdr σ = fRk (σ 36 (σ 32 11 - 1)) from if_pos (by omega)] at h; exact h) | (rw [show fHdr σ = 0 from if_neg (by omega)] at h; exact h)
  · simp only [sx_cc, Classical.not_not] at g
    conv => whnf
    refine ⟨(by first | assumption | rfl), ?_⟩
    try simp (disch := omega) only [Int.cast_ofNat_Int, up_s, up_a, up_i, mp_a, mp_ge]
    try simp only [t3]
    try simp only [t4]
    try simp only [t10]
    try simp only [m15]
    try simp only [m16]
    try simp only [lk_36]
    try simp only [en]
    try simp only [ew]
    conv => whnf
    refine ⟨(by first | assumption | rfl), ?_⟩
    try simp (disch := omega) only [Int.cast_ofNat_Int, up_s, up_a, up_i, mp_a, mp_ge]
    try simp only [t3]
    try simp only [t4]
    try simp only [t10]
    try simp only [m15]
    try simp only [m16]
    try simp only [lk_36]
    try simp only [en]
    try simp only [ew]
    conv => whnf
    refine ⟨by first | decide | (simp only [t10, lk_36]; decide), ?_⟩
    try simp (disch := omega) only [Int.cast_ofNat_Int, up_s, up_a, up_i, mp_a, mp_ge]
    try simp only [t3]
    try simp only [t4]
    try simp only [t10]
    try simp only [m15]
    try simp only [m16]
    try simp only [lk_36]
    try simp only [en]
    try simp only [ew]
    conv => whnf
    refine ⟨fun g => ?_, fun g => ?_⟩
    · simp only [sx_cc, Classical.not_not] at g
      conv => whnf
      refine ⟨fun q9 => by first | (simp at q9; done) | omega, ?_⟩
      first | (rw [show fHdr σ = fRk (σ 36 (σ 32 11 - 1)) from if_pos (by omega)] at h; exact h) | (rw [show fHdr σ = 0 from if_neg (by omega)] at h; exact h)
    · simp only [sx_cc, Classical.not_not] at g
      conv => whnf
      refine ⟨(by first | assumption | rfl), ?_⟩
      try simp (disch := omega) only [Int.cast_ofNat_Int, up_s, up_a, up_i, mp_a, mp_ge]
      try simp only [t3]
      try simp only [t4]
      try simp only [t10]
      try simp only [m15]
      try simp only [m16]
      try simp only [lk_36]
      try simp only [en]
      try simp only [ew]
      conv => whnf
      refine ⟨(by first | assumption | rfl), ?_⟩
      try simp (disch := omega) only [Int.cast_ofNat_Int, up_s, up_a, up_i, mp_a, mp_ge]
      try simp only [t3]
      try simp only [t4]
      try simp only [t10]
      try simp only [m15]
      try simp only [m16]
      try simp only [lk_36]
      try simp only [en]
      try simp only [ew]
      conv => whnf
      refine ⟨⟨by omega, by omega⟩, ?_⟩
      conv => whnf
      refine ⟨sx_ixI (by first | assumption | rfl) (by omega) (by omega), ?_⟩
      try simp (disch := omega) only [Int.cast_ofNat_Int, up_s, up_a, up_i, mp_a, mp_ge]
      try simp only [t3]
      try simp only [t4]
      try simp only [t10]
      try simp only [m15]
      try simp only [m16]
      try simp only [lk_36]
      try simp only [en]
      try simp only [ew]
      conv => whnf
      refine ⟨Nat.le_of_ble_eq_true rfl, Nat.le_of_ble_eq_true rfl, ?_⟩
      refine c_Trank ?_
      conv => whnf
      refine ⟨fun q9 => by first | (simp at q9; done) | omega, ?_⟩
      first | (rw [show fHdr σ = fRk (σ 36 (σ 32 11 - 1)) from if_pos (by omega)] at h; exact h) | (rw [show fHdr σ = 0 from if_neg (by omega)] at h; exact h)
set_option maxRecDepth 20000 in
theorem c_Twrite (hq : cQ p σ tx n9 i F) {m c v : Int} (ew : σ 32 14 = m) (hm : 0 ≤ m) (h1 : m < 64 → Q none shM (sx_up (sx_up (sx_up σ (p + 11) m c) (p + 12) m v) 32 14 (m + 1))) (h0 : 64 ≤ m → Q none shM σ) : sx_Run X 121 [.inr (.inr 32), .inl c, .inl v] shM σ Q := by
  have hp : 2 ≤ p ∧ p ≤ 17 := by rcases hq.ip with rfl | rfl <;> decide
  have k0 := lkP0 hq.1
  have k11 := lkP11 hq.1
  have k12 := lkP12 hq.1
  have t3 := pt_32_3 hq.pt
  have t4 := hq.ep
  have t10 := pt_32_10 hq.pt
  have m15 := ptP_15 hq.pt hq.1
  have m16 := ptP_16 hq.pt hq.1
  refine sx_rule0 (own := 10) (cd := kX10_write) (nL := 3) (by decide +kernel) (by decide +kernel) kX10_write_ok (by decide +kernel) (Nat.le_of_ble_eq_true rfl) 40 ?_
  conv => whnf
  refine ⟨(by first | assumption | rfl), ?_⟩
  try simp (disch := omega) only [Int.cast_ofNat_Int, up_s, up_a, up_i, mp_a, mp_ge]
  try simp only [t3]
  try simp only [t4]
  try simp only [t10]
  try simp only [m15]
  try simp only [m16]
  try simp only [lk_36]
  try simp only [en]
  try simp only [ew]
  conv => whnf
  refine ⟨fun g => ?_, fun g => ?_⟩
  · simp only [sx_cc, Classical.not_not] at g
    conv => whnf
    refine ⟨rfl, ?_⟩
    first | exact h1 (by omega) | exact h0 (by omega)
  · simp only [sx_cc, Classical.not_not] at g
    conv => whnf
    refine ⟨(by first | assumption | rfl), ?_⟩
    try simp (disch := omega) only [Int.cast_ofNat_Int, up_s, up_a, up_i, mp_a, mp_ge]
    try simp only [t3]
    try simp only [t4]
    try simp only [t10]
    try simp only [m15]
    try simp only [m16]
    try simp only [lk_36]
    try simp only [en]
    try simp only [ew]
    conv => whnf
    refine ⟨(by first | assumption | rfl), ?_⟩
    try simp (disch := omega) only [Int.cast_ofNat_Int, up_s, up_a, up_i, mp_a, mp_ge]
    try simp only [t3]
    try simp only [t4]
    try simp only [t10]
    try simp only [m15]
    try simp only [m16]
    try simp only [lk_36]
    try simp only [en]
    try simp only [ew]
    conv => whnf
    refine ⟨(by first | assumption | rfl), ?_⟩
    try simp (disch := omega) only [Int.cast_ofNat_Int, up_s, up_a, up_i, mp_a, mp_ge]
    try simp only [t3]
    try simp only [t4]
    try simp only [t10]
    try simp only [m15]
    try simp only [m16]
    try simp only [lk_36]
    try simp only [en]
    try simp only [ew]
    conv => whnf
    refine ⟨sx_ixI (by first | assumption | rfl) (by omega) (by omega), ?_⟩
    conv => whnf
    refine ⟨(by first | assumption | rfl), ?_⟩
    try simp (disch := omega) only [Int.cast_ofNat_Int, up_s, up_a, up_i, mp_a, mp_ge]
    try simp only [t3]
    try simp only [t4]
    try simp only [t10]
    try simp only [m15]
    try simp only [m16]
    try simp only [lk_36]
    try simp only [en]
    try simp only [ew]
    conv => whnf
    refine ⟨(by first | assumption | rfl), ?_⟩
    try simp (disch := omega) only [Int.cast_ofNat_Int, up_s, up_a, up_i, mp_a, mp_ge]
    try simp only [t3]
    try simp only [t4]
    try simp only [t10]
    try simp only [m15]
    try simp only [m16]
    try simp only [lk_36]
    try simp only [en]
    try simp only [ew]
    conv => whnf
    refine ⟨(by first | assumption | rfl), ?_⟩
    try simp (disch := omega) only [Int.cast_ofNat_Int, up_s, up_a, up_i, mp_a, mp_ge]
    try simp only [t3]
    try simp only [t4]
    try simp only [t10]
    try simp only [m15]
    try simp only [m16]
    try simp only [lk_36]
    try simp only [en]
    try simp only [ew]
    conv => whnf
    refine ⟨sx_ixI (by first | assumption | rfl) (by omega) (by omega), ?_⟩
    conv => whnf
    refine ⟨(by first | assumption | rfl), ?_⟩
    try simp (disch := omega) only [Int.cast_ofNat_Int, up_s, up_a, up_i, mp_a, mp_ge]
    try simp only [t3]
    try simp only [t4]
    try simp only [t10]
    try simp only [m15]
    try simp only [m16]
    try simp only [lk_36]
    try simp only [en]
    try simp only [ew]
    conv => whnf
    refine ⟨⟨by omega, by omega⟩, ?_⟩
    conv => whnf
    refine ⟨(by first | assumption | rfl), ?_⟩
    try simp (disch := omega) only [Int.cast_ofNat_Int, up_s, up_a, up_i, mp_a, mp_ge]
    try simp only [t3]
    try simp only [t4]
    try simp only [t10]
    try simp only [m15]
    try simp only [m16]
    try simp only [lk_36]
    try simp only [en]
    try simp only [ew]
    conv => whnf
    refine ⟨rfl, ?_⟩
    first | exact h1 (by omega) | exact h0 (by omega)
abbrev FRl (p w a j : Int) : Prop := (a = 32 ∧ (j = 11 ∨ j = 14)) ∨ (a = p + 11 ∧ w ≤ j) ∨ (a = p + 12 ∧ w ≤ j)
/-- m signs of rank k or more are let go -/
def pRel (p k : Int) (s s' : sx_S) (m : Int) : Prop := (0 ≤ m ∧ m ≤ s 32 11) ∧ fr (FRl p (s 32 14)) s s' ∧ s' 32 11 = s 32 11 - m ∧ (∀ j : Int, s 32 11 - m ≤ j → j < s 32 11 → k ≤ fRk (s 36 j)) ∧ (s 32 11 - m = 0 ∨ fRk (s 36 (s 32 11 - m - 1)) < k) ∧ (0 ≤ s' 32 14 ∧ s' 32 14 ≤ 64) ∧ (s 32 14 + m ≤ 64 → s' 32 14 = s 32 14 + m ∧ ∀ j : Int, 0 ≤ j → j < m → s' (p + 11) (s 32 14 + j) = s 36 (s 32 11 - 1 - j) ∧ s' (p + 12) (s 32 14 + j) = 0)
set_option maxRecDepth 20000 in
theorem c_Trel (hq : cQ p σ tx n9 i F) {k : Int} (hk : 1 ≤ k) (hn : 0 ≤ σ 32 11 ∧ σ 32 11 ≤ 72) (hwr : 0 ≤ σ 32 14 ∧ σ 32 14 ≤ 64) (h : ∀ (σ' : sx_S) (m : Int), pRel p k σ σ' m → Q none shM σ') : sx_Run X 120 [.inr (.inr 32), .inl k] shM σ Q := by
  have hp : 2 ≤ p ∧ p ≤ 17 := by rcases hq.ip with rfl | rfl <;> decide
  have k0 := lkP0 hq.1
  have k11 := lkP11 hq.1
  have k12 := lkP12 hq.1
  have t3 := pt_32_3 hq.pt
  have t4 := hq.ep
  have t10 := pt_32_10 hq.pt
  have m15 := ptP_15 hq.pt hq.1
  have m16 := ptP_16 hq.pt hq.1
  refine sx_rule2 (own := 10) (cd := kX10_release) (nL := 3) (by decide +kernel) (by decide +kernel) kX10_release_ok (by decide +kernel) (Nat.le_of_ble_eq_true rfl) [5] 40 (fun n t L st _ σ' => (t = 5 ∧ ∃ y : Int, st = [] ∧ L = [some (.inr (.inr (32))), some (.inl (k)), some (.inl (y))] ∧ (fr (FRl p (σ 32 14)) σ σ' ∧ σ' 32 11 = y ∧ (0 ≤ y ∧ y ≤ σ 32 11) ∧ (∀ j : Int, y ≤ j → j < σ 32 11 → k ≤ fRk (σ 36 j)) ∧ (σ 32 14 ≤ σ' 32 14 ∧ σ' 32 14 ≤ 64) ∧ (σ 32 14 + (σ 32 11 - y) ≤ 64 → σ' 32 14 = σ 32 14 + (σ 32 11 - y) ∧ ∀ j : Int, 0 ≤ j → j < σ 32 11 - y → σ' (p + 11) (σ 32 14 + j) = σ 36 (σ 32 11 - 1 - j) ∧ σ' (p + 12) (σ 32 14 + j) = 0)) ∧ n = y.toNat)) ?_ ?_
  · skip
    conv => whnf
    refine ⟨(by first | assumption | rfl), ?_⟩
    try simp (disch := omega) only [Int.cast_ofNat_Int, up_s, up_a, up_i, mp_a, mp_ge]
    try simp only [t3]
    try simp only [t4]
    try simp only [t10]
    try simp only [m15]
    try simp only [m16]
    try simp only [lk_36]
    try simp only [ey]
    try simp only [e36]
    conv => whnf
    refine ⟨_, ⟨rfl, _, rfl, rfl, ?_, rfl⟩⟩
    exact ⟨fun _ _ _ => rfl, rfl, by omega, fun j y0 y1 => by omega, by omega, fun _ => ⟨by omega, fun j j0 j1 => by omega⟩⟩
  · intro n t L st σ' hk
    obtain ⟨rfl, y, rfl, rfl, hc, rfl⟩ := hk
    obtain ⟨hf, ey, hy, hr, hw0, hv⟩ := hc
    have hqi : cQ p σ' tx n9 i F := cQ_of hq (fun a j z9 => hf a j (by unfold FPd at z9; unfold FRl; omega))
    clear t3 t4 t10 m15 m16
    have t3 := pt_32_3 hqi.pt
    have t4 := hqi.ep
    have t10 := pt_32_10 hqi.pt
    have m15 := ptP_15 hqi.pt hqi.1
    have m16 := ptP_16 hqi.pt hqi.1
    conv => whnf
    refine ⟨fun g => ?_, fun g => ?_⟩
    · simp only [sx_cc, Classical.not_not] at g
      conv => whnf
      refine ⟨rfl, ?_⟩
      refine h σ' (σ 32 11 - y) ⟨⟨by omega, by omega⟩, hf, by omega, fun j y0 y1 => hr j (by omega) y1, ?_, ⟨by omega, by omega⟩, hv⟩
      by_cases e9 : y = 0
      · left; omega
      · right
        rw [show σ 32 11 - (σ 32 11 - y) - 1 = y - 1 by omega]
        first | (rw [if_pos (by omega)] at g; omega) | omega
    · simp only [sx_cc, Classical.not_not] at g
      conv => whnf
      refine ⟨Nat.le_of_ble_eq_true rfl, Nat.le_of_ble_eq_true rfl, (by first | assumption | rfl), ?_⟩
      refine c_Thrank hqi ?_
      have er : fHdr σ' = if 0 < y then fRk (σ 36 (y - 1)) else 0 := by
        unfold fHdr
        rw [ey, hf 36 _ (by unfold FRl; omega)]
        by_cases e9 : 0 < y
        · rw [if_pos e9, if_pos (by omega)]
        · rw [if_neg e9, if_neg (by omega)]
      conv => whnf
      refine ⟨fun g => ?_, fun g => ?_⟩
      · simp only [sx_cc, Classical.not_not] at g
        rw [er] at g
        conv => whnf
        refine ⟨rfl, ?_⟩
        refine h σ' (σ 32 11 - y) ⟨⟨by omega, by omega⟩, hf, by omega, fun j y0 y1 => hr j (by omega) y1, ?_, ⟨by omega, by omega⟩, hv⟩
        by_cases e9 : y = 0
        · left; omega
        · right
          rw [show σ 32 11 - (σ 32 11 - y) - 1 = y - 1 by omega]
          first | (rw [if_pos (by omega)] at g; omega) | omega
      · simp only [sx_cc, Classical.not_not] at g
        rw [er, if_pos (by omega)] at g
        have e36 : σ' 36 (y - 1) = σ 36 (y - 1) := hf 36 _ (by unfold FRl; omega)
        have g9 := g
        conv => whnf
        refine ⟨(by first | assumption | rfl), ?_⟩
        try simp (disch := omega) only [Int.cast_ofNat_Int, up_s, up_a, up_i, mp_a, mp_ge]
        try simp only [t3]
        try simp only [t4]
        try simp only [t10]
        try simp only [m15]
        try simp only [m16]
        try simp only [lk_36]
        try simp only [ey]
        try simp only [e36]
        conv => whnf
        refine ⟨⟨by omega, by omega⟩, ?_⟩
        conv => whnf
        refine ⟨(by first | assumption | rfl), ?_⟩
        try simp (disch := omega) only [Int.cast_ofNat_Int, up_s, up_a, up_i, mp_a, mp_ge]
        try simp only [t3]
        try simp only [t4]
        try simp only [t10]
        try simp only [m15]
        try simp only [m16]
        try simp only [lk_36]
        try simp only [ey]
        try simp only [e36]
        conv => whnf
        refine ⟨(by first | assumption | rfl), ?_⟩
        try simp (disch := omega) only [Int.cast_ofNat_Int, up_s, up_a, up_i, mp_a, mp_ge]
        try simp only [t3]
        try simp only [t4]
        try simp only [t10]
        try simp only [m15]
        try simp only [m16]
        try simp only [lk_36]
        try simp only [ey]
        try simp only [e36]
        conv => whnf
        refine ⟨(by first | assumption | rfl), ?_⟩
        try simp (disch := omega) only [Int.cast_ofNat_Int, up_s, up_a, up_i, mp_a, mp_ge]
        try simp only [t3]
        try simp only [t4]
        try simp only [t10]
        try simp only [m15]
        try simp only [m16]
        try simp only [lk_36]
        try simp only [ey]
        try simp only [e36]
        conv => whnf
        refine ⟨sx_ixI (by first | assumption | rfl) (by omega) (by omega), ?_⟩
        try simp (disch := omega) only [Int.cast_ofNat_Int, up_s, up_a, up_i, mp_a, mp_ge]
        try simp only [t3]
        try simp only [t4]
        try simp only [t10]
        try simp only [m15]
        try simp only [m16]
        try simp only [lk_36]
        try simp only [ey]
        try simp only [e36]
        conv => whnf
        refine ⟨Nat.le_of_ble_eq_true rfl, Nat.le_of_ble_eq_true rfl, (by first | assumption | rfl), ?_⟩
        refine c_Twrite (cQ_up hqi (by unfold FPd; omega)) (m := σ' 32 14) (by rw [up_i (by decide)]) (by omega) (fun hw9 => ?_) (fun hw9 => ?_)
        · skip
          conv => whnf
          refine ⟨⟨by omega, by omega⟩, ?_⟩
          conv => whnf
          refine ⟨_, ?_, ⟨rfl, _, rfl, rfl, ?_, rfl⟩⟩
          · omega
          · first
            | (refine ⟨fun a j z9 => ?_, ?_, by omega, fun j y0 y1 => ?_, ?_, fun hh => ?_⟩
               · unfold FRl at z9
                 rw [up_n (by omega), up_n (by omega), up_n (by omega), up_n (by omega)]
                 exact hf a j (by unfold FRl; omega)
               · rw [up_n (by omega), up_n (by omega), up_n (by omega), up_s]; try omega
               · by_cases e9 : j = y - 1
                 · rw [e9]; omega
                 · exact hr j (by omega) y1
               · rw [up_s]; omega
               · have hv9 := hv (by omega)
                 refine ⟨by rw [up_s]; omega, fun j j0 j1 => ?_⟩
                 by_cases e9 : j = σ 32 11 - y
                 · constructor
                   · rw [show σ 32 14 + j = σ' 32 14 by omega, up_n (by omega), up_n (by omega), up_s, show σ 32 11 - 1 - j = y - 1 by omega]
                   · rw [show σ 32 14 + j = σ' 32 14 by omega, up_n (by omega), up_s]
                 · have hv8 := hv9.2 j j0 (by omega)
                   constructor
                   · rw [up_n (by omega), up_n (by omega), up_n (by omega), up_n (by omega)]
                     exact hv8.1
                   · rw [up_n (by omega), up_n (by omega), up_n (by omega), up_n (by omega)]
                     exact hv8.2)
            | (refine ⟨fun a j z9 => ?_, ?_, by omega, fun j y0 y1 => ?_, ?_, fun hh => ?_⟩
               · unfold FRl at z9
                 rw [up_n (by omega)]
                 exact hf a j (by unfold FRl; omega)
               · rw [up_s]; try omega
               · by_cases e9 : j = y - 1
                 · rw [e9]; omega
                 · exact hr j (by omega) y1
               · rw [up_n (by omega)]; omega
               · have hv9 := hv (by omega)
                 omega)
        · skip
          conv => whnf
          refine ⟨⟨by omega, by omega⟩, ?_⟩
          conv => whnf
          refine ⟨_, ?_, ⟨rfl, _, rfl, rfl, ?_, rfl⟩⟩
          · omega
          · first
            | (refine ⟨fun a j z9 => ?_, ?_, by omega, fun j y0 y1 => ?_, ?_, fun hh => ?_⟩
               · unfold FRl at z9
                 rw [up_n (by omega), up_n (by omega), up_n (by omega), up_n (by omega)]
                 exact hf a j (by unfold FRl; omega)
               · rw [up_n (by omega), up_n (by omega), up_n (by omega), up_s]; try omega
               · by_cases e9 : j = y - 1
                 · rw [e9]; omega
                 · exact hr j (by omega) y1
               · rw [up_s]; omega
               · have hv9 := hv (by omega)
                 refine ⟨by rw [up_s]; omega, fun j j0 j1 => ?_⟩
                 by_cases e9 : j = σ 32 11 - y
                 · constructor
                   · rw [show σ 32 14 + j = σ' 32 14 by omega, up_n (by omega), up_n (by omega), up_s, show σ 32 11 - 1 - j = y - 1 by omega]
                   · rw [show σ 32 14 + j = σ' 32 14 by omega, up_n (by omega), up_s]
                 · have hv8 := hv9.2 j j0 (by omega)
                   constructor
                   · rw [up_n (by omega), up_n (by omega), up_n (by omega), up_n (by omega)]
                     exact hv8.1
                   · rw [up_n (by omega), up_n (by omega), up_n (by omega), up_n (by omega)]
                     exact hv8.2)
            | (refine ⟨fun a j z9 => ?_, ?_, by omega, fun j y0 y1 => ?_, ?_, fun hh => ?_⟩
               · unfold FRl at z9
                 rw [up_n (by omega)]
                 exact hf a j (by unfold FRl; omega)
               · rw [up_s]; try omega
               · by_cases e9 : j = y - 1
                 · rw [e9]; omega
                 · exact hr j (by omega) y1
               · rw [up_n (by omega)]; omega
               · have hv9 := hv (by omega)
                 omega)
end SXP6
