/-! PLAN and FORECAST: contracts (by wip/whole) -/
section SXP
variable {X : sx_X} {σ : sx_S} {p : Int} {Q : sx_R}
def sx_fil (σ : sx_S) (a n v : Int) : sx_S := fun a' i => if a' = a ∧ 0 ≤ i ∧ i < n then v else σ a' i
theorem sx_fil_0 (σ : sx_S) (a v : Int) : sx_fil σ a 0 v = σ := by
  funext a' i
  unfold sx_fil
  rw [if_neg (by omega)]
theorem sx_fil_s {σ : sx_S} {a i v : Int} (h : 0 ≤ i) : sx_up (sx_fil σ a i v) a i v = sx_fil σ a (i + 1) v := by
  funext a' j
  unfold sx_up sx_fil
  by_cases e : a' = a
  · by_cases e2 : j = i
    · rw [if_pos ⟨e, e2⟩, if_pos ⟨e, by omega, by omega⟩]
    · rw [if_neg (fun z => e2 z.2)]
      by_cases e3 : 0 ≤ j ∧ j < i
      · rw [if_pos ⟨e, e3⟩, if_pos ⟨e, by omega, by omega⟩]
      · rw [if_neg (fun z => e3 z.2), if_neg (fun z => e3 ⟨by omega, by omega⟩)]
  · rw [if_neg (fun z => e z.1), if_neg (fun z => e z.1), if_neg (fun z => e z.1)]
set_option maxRecDepth 20000 in
theorem c_Pcells (hp : isP p) (hd : PD σ p) (h : Q (some (.inl (σ p 0 * σ p 1))) shM σ) : sx_Run X 45 [.inr (.inr p)] shM σ Q := by
  have k0 := lkP0 hp
  have hw := hd.mul
  refine sx_rule0 (own := 5) (cd := kX5_cellCount) (nL := 1) (by decide +kernel) (by decide +kernel) kX5_cellCount_ok (by decide +kernel) (Nat.le_of_ble_eq_true rfl) 40 ?_
  conv => whnf
  refine ⟨(by first | assumption | rfl), ?_⟩
  try simp (disch := omega) only [Int.cast_ofNat_Int, up_s, up_a, up_i, mp_a, mp_ge, cp_a]
  conv => whnf
  refine ⟨(by first | assumption | rfl), ?_⟩
  try simp (disch := omega) only [Int.cast_ofNat_Int, up_s, up_a, up_i, mp_a, mp_ge, cp_a]
  conv => whnf
  refine ⟨⟨by omega, by omega⟩, ?_⟩
  conv => whnf
  refine ⟨fun q9 => by first | (simp at q9; done) | omega, ?_⟩
  exact h
set_option maxRecDepth 20000 in
theorem c_Phascell (hp : isP p) (hd : PD σ p) {c : Int} (h1 : 0 ≤ c → c < σ p 0 * σ p 1 → Q (some (.inl 1)) shM σ) (h0 : ¬ (0 ≤ c ∧ c < σ p 0 * σ p 1) → Q (some (.inl 0)) shM σ) : sx_Run X 46 [.inr (.inr p), .inl c] shM σ Q := by
  have k0 := lkP0 hp
  refine sx_rule0 (own := 5) (cd := kX5_hasCell) (nL := 2) (by decide +kernel) (by decide +kernel) kX5_hasCell_ok (by decide +kernel) (Nat.le_of_ble_eq_true rfl) 40 ?_
  conv => whnf
  refine ⟨fun g => ?_, fun g => ?_⟩
  · simp only [sx_cc, Classical.not_not] at g
    conv => whnf
    refine ⟨fun q9 => by first | (simp at q9; done) | omega, ?_⟩
    first | exact h1 (by omega) (by omega) | exact h0 (by omega)
  · simp only [sx_cc, Classical.not_not] at g
    conv => whnf
    refine ⟨Nat.le_of_ble_eq_true rfl, Nat.le_of_ble_eq_true rfl, (by first | assumption | rfl), ?_⟩
    refine c_Pcells hp hd ?_
    conv => whnf
    refine ⟨fun g => ?_, fun g => ?_⟩
    · simp only [sx_cc, Classical.not_not] at g
      conv => whnf
      refine ⟨fun q9 => by first | (simp at q9; done) | omega, ?_⟩
      first | exact h1 (by omega) (by omega) | exact h0 (by omega)
    · simp only [sx_cc, Classical.not_not] at g
      conv => whnf
      refine ⟨fun q9 => by first | (simp at q9; done) | omega, ?_⟩
      first | exact h1 (by omega) (by omega) | exact h0 (by omega)
set_option maxRecDepth 20000 in
theorem c_Phasfarm (hp : isP p) {c : Int} (h1 : 0 ≤ c → c < σ p 4 → Q (some (.inl 1)) shM σ) (h0 : ¬ (0 ≤ c ∧ c < σ p 4) → Q (some (.inl 0)) shM σ) : sx_Run X 47 [.inr (.inr p), .inl c] shM σ Q := by
  have k0 := lkP0 hp
  refine sx_rule0 (own := 5) (cd := kX5_hasFarm) (nL := 2) (by decide +kernel) (by decide +kernel) kX5_hasFarm_ok (by decide +kernel) (Nat.le_of_ble_eq_true rfl) 40 ?_
  conv => whnf
  refine ⟨fun g => ?_, fun g => ?_⟩
  · simp only [sx_cc, Classical.not_not] at g
    conv => whnf
    refine ⟨fun q9 => by first | (simp at q9; done) | omega, ?_⟩
    first | exact h1 (by omega) (by omega) | exact h0 (by omega)
  · simp only [sx_cc, Classical.not_not] at g
    conv => whnf
    refine ⟨(by first | assumption | rfl), ?_⟩
    try simp (disch := omega) only [Int.cast_ofNat_Int, up_s, up_a, up_i, mp_a, mp_ge, cp_a]
    conv => whnf
    refine ⟨fun g => ?_, fun g => ?_⟩
    · simp only [sx_cc, Classical.not_not] at g
      conv => whnf
      refine ⟨fun q9 => by first | (simp at q9; done) | omega, ?_⟩
      first | exact h1 (by omega) (by omega) | exact h0 (by omega)
    · simp only [sx_cc, Classical.not_not] at g
      conv => whnf
      refine ⟨fun q9 => by first | (simp at q9; done) | omega, ?_⟩
      first | exact h1 (by omega) (by omega) | exact h0 (by omega)
set_option maxRecDepth 20000 in
theorem c_Phaswalker (hp : isP p) {c : Int} (h1 : 0 ≤ c → c < σ p 6 → Q (some (.inl 1)) shM σ) (h0 : ¬ (0 ≤ c ∧ c < σ p 6) → Q (some (.inl 0)) shM σ) : sx_Run X 48 [.inr (.inr p), .inl c] shM σ Q := by
  have k0 := lkP0 hp
  refine sx_rule0 (own := 5) (cd := kX5_hasWalker) (nL := 2) (by decide +kernel) (by decide +kernel) kX5_hasWalker_ok (by decide +kernel) (Nat.le_of_ble_eq_true rfl) 40 ?_
  conv => whnf
  refine ⟨fun g => ?_, fun g => ?_⟩
  · simp only [sx_cc, Classical.not_not] at g
    conv => whnf
    refine ⟨fun q9 => by first | (simp at q9; done) | omega, ?_⟩
    first | exact h1 (by omega) (by omega) | exact h0 (by omega)
  · simp only [sx_cc, Classical.not_not] at g
    conv => whnf
    refine ⟨(by first | assumption | rfl), ?_⟩
    try simp (disch := omega) only [Int.cast_ofNat_Int, up_s, up_a, up_i, mp_a, mp_ge, cp_a]
    conv => whnf
    refine ⟨fun g => ?_, fun g => ?_⟩
    · simp only [sx_cc, Classical.not_not] at g
      conv => whnf
      refine ⟨fun q9 => by first | (simp at q9; done) | omega, ?_⟩
      first | exact h1 (by omega) (by omega) | exact h0 (by omega)
    · simp only [sx_cc, Classical.not_not] at g
      conv => whnf
      refine ⟨fun q9 => by first | (simp at q9; done) | omega, ?_⟩
      first | exact h1 (by omega) (by omega) | exact h0 (by omega)
set_option maxRecDepth 20000 in
theorem c_Pfarmby (hT : PT σ) (hp : isP p) (hn : 0 ≤ σ p 4 ∧ σ p 4 ≤ 3) {c : Int} (h : Q (some (.inl (fFind (σ (p + 3)) c (σ p 4).toNat))) shM σ) : sx_Run X 49 [.inr (.inr p), .inl c] shM σ Q := by
  have k0 := lkP0 hp
  have k1 := lkP1 hp
  have k2 := lkP2 hp
  have k3 := lkP3 hp
  have k4 := lkP4 hp
  have k5 := lkP5 hp
  have k6 := lkP6 hp
  have k7 := lkP7 hp
  have k8 := lkP8 hp
  have k9 := lkP9 hp
  have k10 := lkP10 hp
  have k11 := lkP11 hp
  have k12 := lkP12 hp
  have k13 := lkP13 hp
  have k14 := lkP14 hp
  have m2 := ptP_2 hT hp
  have m3 := ptP_3 hT hp
  have m5 := ptP_5 hT hp
  have m7 := ptP_7 hT hp
  have m8 := ptP_8 hT hp
  have m9 := ptP_9 hT hp
  have m10 := ptP_10 hT hp
  have m11 := ptP_11 hT hp
  have m12 := ptP_12 hT hp
  have m15 := ptP_15 hT hp
  have m16 := ptP_16 hT hp
  have m17 := ptP_17 hT hp
  have m18 := ptP_18 hT hp
  refine sx_rule2 (own := 5) (cd := kX5_farmBy) (nL := 3) (by decide +kernel) (by decide +kernel) kX5_farmBy_ok (by decide +kernel) (Nat.le_of_ble_eq_true rfl) [2] 40 (fun n t L st _ σ' => (t = 2 ∧ ∃ i : Int, st = [] ∧ L = [some (.inr (.inr (p))), some (.inl (c)), some (.inl (i))] ∧ (σ = σ' ∧ 0 ≤ i ∧ i ≤ σ p 4 ∧ fFind (σ (p + 3)) c i.toNat = -1) ∧ n = (σ p 4 - i).toNat)) ?_ ?_
  · skip
    conv => whnf
    refine ⟨_, ⟨rfl, _, rfl, rfl, ?_, rfl⟩⟩
    refine ⟨rfl, by omega, by omega, rfl⟩
  · intro n t L st σ' hk
    obtain ⟨rfl, i, rfl, rfl, hc, rfl⟩ := hk
    obtain ⟨rfl, hi0, hi1, hv⟩ := hc
    conv => whnf
    refine ⟨(by first | assumption | rfl), ?_⟩
    try simp (disch := omega) only [Int.cast_ofNat_Int, up_s, up_a, up_i, mp_a, mp_ge, cp_a, m2, m3, m5, m7, m8, m9, m10, m11, m12, m15, m16, m17, m18]
    conv => whnf
    refine ⟨fun g => ?_, fun g => ?_⟩
    · simp only [sx_cc, Classical.not_not] at g
      conv => whnf
      refine ⟨fun q9 => by first | (simp at q9; done) | omega, ?_⟩
      have e9 : i = σ p 4 := by omega
      rw [e9] at hv
      rw [hv] at h
      exact h
    · simp only [sx_cc, Classical.not_not] at g
      conv => whnf
      refine ⟨(by first | assumption | rfl), ?_⟩
      try simp (disch := omega) only [Int.cast_ofNat_Int, up_s, up_a, up_i, mp_a, mp_ge, cp_a, m2, m3, m5, m7, m8, m9, m10, m11, m12, m15, m16, m17, m18]
      conv => whnf
      refine ⟨sx_ixI (by first | assumption | rfl) (by omega) (by omega), ?_⟩
      try simp (disch := omega) only [Int.cast_ofNat_Int, up_s, up_a, up_i, mp_a, mp_ge, cp_a, m2, m3, m5, m7, m8, m9, m10, m11, m12, m15, m16, m17, m18]
      conv => whnf
      refine ⟨fun g => ?_, fun g => ?_⟩
      · simp only [sx_cc, Classical.not_not] at g
        conv => whnf
        refine ⟨⟨by omega, by omega⟩, ?_⟩
        conv => whnf
        refine ⟨_, ?_, ⟨rfl, _, rfl, rfl, ?_, rfl⟩⟩
        · omega
        · refine ⟨rfl, by omega, by omega, ?_⟩
          rw [fFind_s hi0, if_pos hv, if_neg g]
      · simp only [sx_cc, Classical.not_not] at g
        conv => whnf
        refine ⟨fun q9 => by first | (simp at q9; done) | omega, ?_⟩
        have e8 := fFind_hit (n := (σ p 4).toNat) hi0 (by omega) hv g
        rw [e8] at h
        exact h
set_option maxRecDepth 20000 in
theorem c_Pwalkerby (hT : PT σ) (hp : isP p) (hn : 0 ≤ σ p 6 ∧ σ p 6 ≤ 5) {c : Int} (h : Q (some (.inl (fFind (σ (p + 4)) c (σ p 6).toNat))) shM σ) : sx_Run X 50 [.inr (.inr p), .inl c] shM σ Q := by
  have k0 := lkP0 hp
  have k1 := lkP1 hp
  have k2 := lkP2 hp
  have k3 := lkP3 hp
  have k4 := lkP4 hp
  have k5 := lkP5 hp
  have k6 := lkP6 hp
  have k7 := lkP7 hp
  have k8 := lkP8 hp
  have k9 := lkP9 hp
  have k10 := lkP10 hp
  have k11 := lkP11 hp
  have k12 := lkP12 hp
  have k13 := lkP13 hp
  have k14 := lkP14 hp
  have m2 := ptP_2 hT hp
  have m3 := ptP_3 hT hp
  have m5 := ptP_5 hT hp
  have m7 := ptP_7 hT hp
  have m8 := ptP_8 hT hp
  have m9 := ptP_9 hT hp
  have m10 := ptP_10 hT hp
  have m11 := ptP_11 hT hp
  have m12 := ptP_12 hT hp
  have m15 := ptP_15 hT hp
  have m16 := ptP_16 hT hp
  have m17 := ptP_17 hT hp
  have m18 := ptP_18 hT hp
  refine sx_rule2 (own := 5) (cd := kX5_walkerBy) (nL := 3) (by decide +kernel) (by decide +kernel) kX5_walkerBy_ok (by decide +kernel) (Nat.le_of_ble_eq_true rfl) [2] 40 (fun n t L st _ σ' => (t = 2 ∧ ∃ i : Int, st = [] ∧ L = [some (.inr (.inr (p))), some (.inl (c)), some (.inl (i))] ∧ (σ = σ' ∧ 0 ≤ i ∧ i ≤ σ p 6 ∧ fFind (σ (p + 4)) c i.toNat = -1) ∧ n = (σ p 6 - i).toNat)) ?_ ?_
  · skip
    conv => whnf
    refine ⟨_, ⟨rfl, _, rfl, rfl, ?_, rfl⟩⟩
    refine ⟨rfl, by omega, by omega, rfl⟩
  · intro n t L st σ' hk
    obtain ⟨rfl, i, rfl, rfl, hc, rfl⟩ := hk
    obtain ⟨rfl, hi0, hi1, hv⟩ := hc
    conv => whnf
    refine ⟨(by first | assumption | rfl), ?_⟩
    try simp (disch := omega) only [Int.cast_ofNat_Int, up_s, up_a, up_i, mp_a, mp_ge, cp_a, m2, m3, m5, m7, m8, m9, m10, m11, m12, m15, m16, m17, m18]
    conv => whnf
    refine ⟨fun g => ?_, fun g => ?_⟩
    · simp only [sx_cc, Classical.not_not] at g
      conv => whnf
      refine ⟨fun q9 => by first | (simp at q9; done) | omega, ?_⟩
      have e9 : i = σ p 6 := by omega
      rw [e9] at hv
      rw [hv] at h
      exact h
    · simp only [sx_cc, Classical.not_not] at g
      conv => whnf
      refine ⟨(by first | assumption | rfl), ?_⟩
      try simp (disch := omega) only [Int.cast_ofNat_Int, up_s, up_a, up_i, mp_a, mp_ge, cp_a, m2, m3, m5, m7, m8, m9, m10, m11, m12, m15, m16, m17, m18]
      conv => whnf
      refine ⟨sx_ixI (by first | assumption | rfl) (by omega) (by omega), ?_⟩
      try simp (disch := omega) only [Int.cast_ofNat_Int, up_s, up_a, up_i, mp_a, mp_ge, cp_a, m2, m3, m5, m7, m8, m9, m10, m11, m12, m15, m16, m17, m18]
      conv => whnf
      refine ⟨fun g => ?_, fun g => ?_⟩
      · simp only [sx_cc, Classical.not_not] at g
        conv => whnf
        refine ⟨⟨by omega, by omega⟩, ?_⟩
        conv => whnf
        refine ⟨_, ?_, ⟨rfl, _, rfl, rfl, ?_, rfl⟩⟩
        · omega
        · refine ⟨rfl, by omega, by omega, ?_⟩
          rw [fFind_s hi0, if_pos hv, if_neg g]
      · simp only [sx_cc, Classical.not_not] at g
        conv => whnf
        refine ⟨fun q9 => by first | (simp at q9; done) | omega, ?_⟩
        have e8 := fFind_hit (n := (σ p 6).toNat) hi0 (by omega) hv g
        rw [e8] at h
        exact h
set_option maxRecDepth 20000 in
theorem c_Pcol (hp : isP p) (hd : PD σ p) {c : Int} (hc0 : 0 ≤ c) (hcr : c ≤ 2147483647) (h : Q (some (.inl (c.tmod (σ p 0)))) shM σ) : sx_Run X 51 [.inr (.inr p), .inl c] shM σ Q := by
  have k0 := lkP0 hp
  have hb := tm_bd hc0 (show 0 < σ p 0 from hd.1)
  refine sx_rule0 (own := 5) (cd := kX5_column) (nL := 2) (by decide +kernel) (by decide +kernel) kX5_column_ok (by decide +kernel) (Nat.le_of_ble_eq_true rfl) 40 ?_
  conv => whnf
  refine ⟨(by first | assumption | rfl), ?_⟩
  try simp (disch := omega) only [Int.cast_ofNat_Int, up_s, up_a, up_i, mp_a, mp_ge, cp_a]
  conv => whnf
  refine ⟨fun g => ?_, fun g => ?_⟩
  · simp only [sx_cc, Classical.not_not] at g
    conv => whnf
    refine ⟨fun q9 => by first | (simp at q9; done) | omega, ?_⟩
    first | exact h | (exfalso; have := hd.1; omega)
  · simp only [sx_cc, Classical.not_not] at g
    conv => whnf
    refine ⟨(by first | assumption | rfl), ?_⟩
    try simp (disch := omega) only [Int.cast_ofNat_Int, up_s, up_a, up_i, mp_a, mp_ge, cp_a]
    conv => whnf
    refine ⟨by omega, (show sx_r32 _ from ⟨by omega, by omega⟩), ?_⟩
    conv => whnf
    refine ⟨fun q9 => by first | (simp at q9; done) | omega, ?_⟩
    first | exact h | (exfalso; have := hd.1; omega)
set_option maxRecDepth 20000 in
theorem c_Prow (hp : isP p) (hd : PD σ p) {c : Int} (hc0 : 0 ≤ c) (hcr : c ≤ 2147483647) (h : Q (some (.inl (c.tdiv (σ p 0)))) shM σ) : sx_Run X 52 [.inr (.inr p), .inl c] shM σ Q := by
  have k0 := lkP0 hp
  have hb := tm_bd hc0 (show 0 < σ p 0 from hd.1)
  refine sx_rule0 (own := 5) (cd := kX5_row) (nL := 2) (by decide +kernel) (by decide +kernel) kX5_row_ok (by decide +kernel) (Nat.le_of_ble_eq_true rfl) 40 ?_
  conv => whnf
  refine ⟨(by first | assumption | rfl), ?_⟩
  try simp (disch := omega) only [Int.cast_ofNat_Int, up_s, up_a, up_i, mp_a, mp_ge, cp_a]
  conv => whnf
  refine ⟨fun g => ?_, fun g => ?_⟩
  · simp only [sx_cc, Classical.not_not] at g
    conv => whnf
    refine ⟨fun q9 => by first | (simp at q9; done) | omega, ?_⟩
    first | exact h | (exfalso; have := hd.1; omega)
  · simp only [sx_cc, Classical.not_not] at g
    conv => whnf
    refine ⟨(by first | assumption | rfl), ?_⟩
    try simp (disch := omega) only [Int.cast_ofNat_Int, up_s, up_a, up_i, mp_a, mp_ge, cp_a]
    conv => whnf
    refine ⟨by omega, (show sx_r32 _ from ⟨by omega, by omega⟩), ?_⟩
    conv => whnf
    refine ⟨fun q9 => by first | (simp at q9; done) | omega, ?_⟩
    first | exact h | (exfalso; have := hd.1; omega)
set_option maxRecDepth 20000 in
theorem c_Pbeside (hp : isP p) (hd : PD σ p) {c : Int} (hc0 : 0 ≤ c) (hc1 : c < σ p 0 * σ p 1) {way : Int} (h : Q (some (.inl (fBes (σ p 0) (σ p 1) c way))) shM σ) : sx_Run X 53 [.inr (.inr p), .inl c, .inl way] shM σ Q := by
  have k0 := lkP0 hp
  have hb := tm_bd hc0 (show 0 < σ p 0 from hd.1)
  have hb2 := td_bd hc0 (show 0 < σ p 0 from hd.1) hc1
  have hw := hd.mul
  obtain ⟨d1, d2, d3, d4⟩ := id hd
  refine sx_rule2 (own := 5) (cd := kX5_beside) (nL := 6) (by decide +kernel) (by decide +kernel) kX5_beside_ok (by decide +kernel) (Nat.le_of_ble_eq_true rfl) [24, 49] 40 (fun n t L st _ σ' => (t = 24 ∧ ∃ d : Int, st = [.inl d, .inl (c.tmod (σ p 0))] ∧ L = [some (.inr (.inr (p))), some (.inl (c)), some (.inl (way)), none, none, none] ∧ (σ = σ' ∧ d = fDx way) ∧ n = 2) ∨ (t = 49 ∧ ∃ d : Int, st = [.inl d, .inl (c.tdiv (σ p 0))] ∧ L = [some (.inr (.inr (p))), some (.inl (c)), some (.inl (way)), some (.inl (c.tmod (σ p 0) + fDx way)), none, none] ∧ (σ = σ' ∧ d = fDy way) ∧ n = 1)) ?_ ?_
  · skip
    conv => whnf
    refine ⟨Nat.le_of_ble_eq_true rfl, Nat.le_of_ble_eq_true rfl, (by first | assumption | rfl), ?_⟩
    refine c_Pcol hp hd (by omega) (by omega) ?_
    conv => whnf
    refine ⟨fun g => ?_, fun g => ?_⟩
    · simp only [sx_cc, Classical.not_not] at g
      conv => whnf
      refine ⟨fun g => ?_, fun g => ?_⟩
      · simp only [sx_cc, Classical.not_not] at g
        conv => whnf
        refine ⟨_, Or.inl ⟨rfl, _, rfl, rfl, ?_, rfl⟩⟩
        refine ⟨rfl, ?_⟩
        unfold fDx
        first | (rw [if_pos (by omega)]; done) | (rw [if_neg (by omega), if_pos (by omega)]; done) | (rw [if_neg (by omega), if_neg (by omega)]; done)
      · simp only [sx_cc, Classical.not_not] at g
        conv => whnf
        refine ⟨_, Or.inl ⟨rfl, _, rfl, rfl, ?_, rfl⟩⟩
        refine ⟨rfl, ?_⟩
        unfold fDx
        first | (rw [if_pos (by omega)]; done) | (rw [if_neg (by omega), if_pos (by omega)]; done) | (rw [if_neg (by omega), if_neg (by omega)]; done)
    · simp only [sx_cc, Classical.not_not] at g
      conv => whnf
      refine ⟨_, Or.inl ⟨rfl, _, rfl, rfl, ?_, rfl⟩⟩
      refine ⟨rfl, ?_⟩
      unfold fDx
      first | (rw [if_pos (by omega)]; done) | (rw [if_neg (by omega), if_pos (by omega)]; done) | (rw [if_neg (by omega), if_neg (by omega)]; done)
  · intro n t L st σ' hk
    rcases hk with hk | hk
    · obtain ⟨rfl, d, rfl, rfl, hc, rfl⟩ := hk
      obtain ⟨rfl, rfl⟩ := hc
      have hx : -1 ≤ fDx way ∧ fDx way ≤ 1 := by unfold fDx; repeat (first | omega | split)
      conv => whnf
      refine ⟨(by first | exact ⟨by omega, by omega⟩ | exact r32_yw (h := σ p 1) (by omega) (by omega) hw.2 (by omega) | exact r32_yx (h := σ p 1) (by omega) (by omega) hw.2 (by omega) (by omega)), ?_⟩
      conv => whnf
      refine ⟨Nat.le_of_ble_eq_true rfl, Nat.le_of_ble_eq_true rfl, (by first | assumption | rfl), ?_⟩
      refine c_Prow hp hd (by omega) (by omega) ?_
      conv => whnf
      refine ⟨fun g => ?_, fun g => ?_⟩
      · simp only [sx_cc, Classical.not_not] at g
        conv => whnf
        refine ⟨fun g => ?_, fun g => ?_⟩
        · simp only [sx_cc, Classical.not_not] at g
          conv => whnf
          refine ⟨_, ?_, Or.inr (⟨rfl, _, rfl, rfl, ?_, rfl⟩)⟩
          · omega
          · refine ⟨rfl, ?_⟩
            unfold fDy
            first | (rw [if_pos (by omega)]; done) | (rw [if_neg (by omega), if_pos (by omega)]; done) | (rw [if_neg (by omega), if_neg (by omega)]; done)
        · simp only [sx_cc, Classical.not_not] at g
          conv => whnf
          refine ⟨_, ?_, Or.inr (⟨rfl, _, rfl, rfl, ?_, rfl⟩)⟩
          · omega
          · refine ⟨rfl, ?_⟩
            unfold fDy
            first | (rw [if_pos (by omega)]; done) | (rw [if_neg (by omega), if_pos (by omega)]; done) | (rw [if_neg (by omega), if_neg (by omega)]; done)
      · simp only [sx_cc, Classical.not_not] at g
        conv => whnf
        refine ⟨_, ?_, Or.inr (⟨rfl, _, rfl, rfl, ?_, rfl⟩)⟩
        · omega
        · refine ⟨rfl, ?_⟩
          unfold fDy
          first | (rw [if_pos (by omega)]; done) | (rw [if_neg (by omega), if_pos (by omega)]; done) | (rw [if_neg (by omega), if_neg (by omega)]; done)
    · obtain ⟨rfl, d, rfl, rfl, hc, rfl⟩ := hk
      obtain ⟨rfl, rfl⟩ := hc
      have hx : -1 ≤ fDx way ∧ fDx way ≤ 1 := by unfold fDx; repeat (first | omega | split)
      have hy : -1 ≤ fDy way ∧ fDy way ≤ 1 := by unfold fDy; repeat (first | omega | split)
      conv => whnf
      refine ⟨(by first | exact ⟨by omega, by omega⟩ | exact r32_yw (h := σ p 1) (by omega) (by omega) hw.2 (by omega) | exact r32_yx (h := σ p 1) (by omega) (by omega) hw.2 (by omega) (by omega)), ?_⟩
      conv => whnf
      refine ⟨fun g => ?_, fun g => ?_⟩
      · simp only [sx_cc, Classical.not_not] at g
        conv => whnf
        refine ⟨fun g => ?_, fun g => ?_⟩
        · skip
          conv => whnf
          refine ⟨fun q9 => by first | (simp at q9; done) | omega, ?_⟩
          exact q_to h (by unfold fBes; rw [if_neg (by omega)])
        · exact absurd g (by simp [sx_cc])
      · simp only [sx_cc, Classical.not_not] at g
        conv => whnf
        refine ⟨(by first | assumption | rfl), ?_⟩
        try simp (disch := omega) only [Int.cast_ofNat_Int, up_s, up_a, up_i, mp_a, mp_ge, cp_a]
        conv => whnf
        refine ⟨fun g => ?_, fun g => ?_⟩
        · simp only [sx_cc, Classical.not_not] at g
          conv => whnf
          refine ⟨fun g => ?_, fun g => ?_⟩
          · skip
            conv => whnf
            refine ⟨fun q9 => by first | (simp at q9; done) | omega, ?_⟩
            exact q_to h (by unfold fBes; rw [if_neg (by omega)])
          · exact absurd g (by simp [sx_cc])
        · simp only [sx_cc, Classical.not_not] at g
          conv => whnf
          refine ⟨fun g => ?_, fun g => ?_⟩
          · simp only [sx_cc, Classical.not_not] at g
            conv => whnf
            refine ⟨fun g => ?_, fun g => ?_⟩
            · skip
              conv => whnf
              refine ⟨fun q9 => by first | (simp at q9; done) | omega, ?_⟩
              exact q_to h (by unfold fBes; rw [if_neg (by omega)])
            · exact absurd g (by simp [sx_cc])
          · simp only [sx_cc, Classical.not_not] at g
            conv => whnf
            refine ⟨(by first | assumption | rfl), ?_⟩
            try simp (disch := omega) only [Int.cast_ofNat_Int, up_s, up_a, up_i, mp_a, mp_ge, cp_a]
            conv => whnf
            refine ⟨fun g => ?_, fun g => ?_⟩
            · simp only [sx_cc, Classical.not_not] at g
              conv => whnf
              refine ⟨fun g => ?_, fun g => ?_⟩
              · skip
                conv => whnf
                refine ⟨fun q9 => by first | (simp at q9; done) | omega, ?_⟩
                exact q_to h (by unfold fBes; rw [if_neg (by omega)])
              · exact absurd g (by simp [sx_cc])
            · simp only [sx_cc, Classical.not_not] at g
              conv => whnf
              refine ⟨fun g => ?_, fun g => ?_⟩
              · exact absurd g (by simp [sx_cc])
              · skip
                conv => whnf
                refine ⟨(by first | assumption | rfl), ?_⟩
                try simp (disch := omega) only [Int.cast_ofNat_Int, up_s, up_a, up_i, mp_a, mp_ge, cp_a]
                conv => whnf
                refine ⟨(by first | exact ⟨by omega, by omega⟩ | exact r32_yw (h := σ p 1) (by omega) (by omega) hw.2 (by omega) | exact r32_yx (h := σ p 1) (by omega) (by omega) hw.2 (by omega) (by omega)), ?_⟩
                conv => whnf
                refine ⟨(by first | exact ⟨by omega, by omega⟩ | exact r32_yw (h := σ p 1) (by omega) (by omega) hw.2 (by omega) | exact r32_yx (h := σ p 1) (by omega) (by omega) hw.2 (by omega) (by omega)), ?_⟩
                conv => whnf
                refine ⟨fun q9 => by first | (simp at q9; done) | omega, ?_⟩
                exact q_to h (by unfold fBes; rw [if_pos ⟨by omega, by omega, by omega, by omega⟩])
set_option maxRecDepth 20000 in
theorem c_Papart (hp : isP p) (hd : PD σ p) {a b : Int} (ha : 0 ≤ a ∧ a < 48) (hb : 0 ≤ b ∧ b < 48) (h : Q (some (.inl (fFar (σ p 0) a b))) shM σ) : sx_Run X 54 [.inr (.inr p), .inl a, .inl b] shM σ Q := by
  have k0 := lkP0 hp
  have e1 := tm_bd ha.1 (show 0 < σ p 0 from hd.1)
  have e2 := tm_bd hb.1 (show 0 < σ p 0 from hd.1)
  have d0 : σ p 0 ≤ 8 := hd.2.1
  refine sx_rule0 (own := 5) (cd := kX5_apart) (nL := 3) (by decide +kernel) (by decide +kernel) kX5_apart_ok (by decide +kernel) (Nat.le_of_ble_eq_true rfl) 40 ?_
  conv => whnf
  refine ⟨Nat.le_of_ble_eq_true rfl, Nat.le_of_ble_eq_true rfl, (by first | assumption | rfl), ?_⟩
  refine c_Pcol hp hd (by omega) (by omega) ?_
  conv => whnf
  refine ⟨Nat.le_of_ble_eq_true rfl, Nat.le_of_ble_eq_true rfl, (by first | assumption | rfl), ?_⟩
  refine c_Pcol hp hd (by omega) (by omega) ?_
  conv => whnf
  refine ⟨(by first | exact ⟨by omega, by omega⟩ | (constructor <;> (repeat (first | omega | split)))), ?_⟩
  conv => whnf
  refine ⟨Nat.le_of_ble_eq_true rfl, ((by first | exact ⟨by omega, by omega⟩ | (constructor <;> (repeat (first | omega | split))))), ?_⟩
  conv => whnf
  refine ⟨Nat.le_of_ble_eq_true rfl, Nat.le_of_ble_eq_true rfl, (by first | assumption | rfl), ?_⟩
  refine c_Prow hp hd (by omega) (by omega) ?_
  conv => whnf
  refine ⟨Nat.le_of_ble_eq_true rfl, Nat.le_of_ble_eq_true rfl, (by first | assumption | rfl), ?_⟩
  refine c_Prow hp hd (by omega) (by omega) ?_
  conv => whnf
  refine ⟨(by first | exact ⟨by omega, by omega⟩ | (constructor <;> (repeat (first | omega | split)))), ?_⟩
  conv => whnf
  refine ⟨Nat.le_of_ble_eq_true rfl, ((by first | exact ⟨by omega, by omega⟩ | (constructor <;> (repeat (first | omega | split))))), ?_⟩
  conv => whnf
  refine ⟨(by first | exact ⟨by omega, by omega⟩ | (constructor <;> (repeat (first | omega | split)))), ?_⟩
  conv => whnf
  refine ⟨fun q9 => by first | (simp at q9; done) | omega, ?_⟩
  exact h
set_option maxRecDepth 20000 in
theorem c_fill {a v : Int} {m : Nat} (ha : sx_lk shM a = (1, m)) (hm : m ≤ 100000) (h : Q none shM (sx_fil σ a m v)) : sx_Run X 308 [.inr (.inr a), .inl v] shM σ Q := by
  refine sx_rule2 (own := 13) (cd := kJ7_fill_53178) (nL := 4) (by decide +kernel) (by decide +kernel) kJ7_fill_53178_ok (by decide +kernel) (Nat.le_of_ble_eq_true rfl) [5] 40 (fun n t L st _ σ' => (t = 5 ∧ ∃ i : Int, st = [] ∧ L = [some (.inr (.inr (a))), some (.inl (v)), some (.inl (i)), some (.inl (m))] ∧ (σ' = sx_fil σ a i v ∧ 0 ≤ i ∧ i ≤ m) ∧ n = ((m : Int) - i).toNat)) ?_ ?_
  · skip
    conv => whnf
    refine ⟨by first | decide | (simp only [ha]; decide), ?_⟩
    try simp (disch := omega) only [Int.cast_ofNat_Int, up_s, up_a, up_i, mp_a, mp_ge, cp_a, ha]
    conv => whnf
    refine ⟨_, ⟨rfl, _, rfl, rfl, ?_, rfl⟩⟩
    refine ⟨?_, by omega, by omega⟩
    exact (sx_fil_0 σ a v).symm
  · intro n t L st σ' hk
    obtain ⟨rfl, i, rfl, rfl, hc, rfl⟩ := hk
    obtain ⟨rfl, hi0, hi1⟩ := hc
    conv => whnf
    refine ⟨fun g => ?_, fun g => ?_⟩
    · simp only [sx_cc, Classical.not_not] at g
      conv => whnf
      refine ⟨rfl, ?_⟩
      have e9 : i = m := by omega
      subst e9
      exact h
    · simp only [sx_cc, Classical.not_not] at g
      conv => whnf
      refine ⟨sx_ixI (by first | assumption | rfl) (by omega) (by omega), ?_⟩
      conv => whnf
      refine ⟨⟨by omega, by omega⟩, ?_⟩
      conv => whnf
      refine ⟨_, ?_, ⟨rfl, _, rfl, rfl, ?_, rfl⟩⟩
      · omega
      · refine ⟨?_, by omega, by omega⟩
        exact sx_fil_s hi0
end SXP
