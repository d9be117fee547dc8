/-! WEATHER, both sides: draws, field cleared (by wip/whole) -/
section SXW7
variable {X : sx_X} {σ σ0 : sx_S} {s p : Int} {Q : sx_R}
/-- the next number of the row: 31 bits -/
def fDr (x : Int) : Int := sx_andL (x * 1103515245 + 12345) 2147483647
theorem i64_r {x : Int} (h : -9223372036854775808 ≤ x ∧ x ≤ 9223372036854775807) : (Int64.ofInt x).toInt = x := by
  rw [Int64.toInt_ofInt]
  exact Int.bmod_eq_of_le (by simp; omega) (by simp; omega)
theorem fDr_bd (x : Int) : 0 ≤ fDr x ∧ fDr x ≤ 2147483647 := by
  unfold fDr sx_andL
  have h : ∀ a : Int64, 0 ≤ (a &&& 2147483647).toInt ∧ (a &&& 2147483647).toInt ≤ 2147483647 := by
    intro a
    rw [← Int64.toInt_toBitVec, Int64.toBitVec_and]
    have h1 : (a.toBitVec &&& (2147483647 : Int64).toBitVec).toNat ≤ 2147483647 := by
      rw [BitVec.toNat_and]
      exact Nat.and_le_right
    rw [BitVec.toInt_eq_toNat_of_lt (by omega)]
    omega
  exact h _
set_option maxRecDepth 20000 in
theorem c_Sdraw (hs : isS s) (hx : 0 ≤ σ s 10 ∧ σ s 10 ≤ 2147483647) (h : Q (some (.inl ((fDr (σ s 10)).tdiv 65536))) shM (sx_up σ s 10 (fDr (σ s 10)))) : sx_Run X 89 [.inr (.inr s)] shM σ Q := by
  have k0 := lkS0 hs
  have hb := fDr_bd (σ s 10)
  have hq := tm_bd hb.1 (show (0 : Int) < 65536 by omega)
  refine sx_rule0 (own := 9) (cd := kX9_drawNumber) (nL := 1) (by decide +kernel) (by decide +kernel) kX9_drawNumber_ok (by decide +kernel) (Nat.le_of_ble_eq_true rfl) 40 ?_
  conv => whnf
  refine ⟨(by first | assumption | rfl), ?_⟩
  try simp (disch := omega) only [Int.cast_ofNat_Int, up_s, up_a, up_i, mp_a, mp_ge, mq_a, mq_ge, cp_a]
  conv => whnf
  refine ⟨(by first | exact ⟨by omega, by omega⟩ | (simp only [Int.cast_ofNat_Int]; exact ⟨by omega, by omega⟩)), ?_⟩
  conv => whnf
  refine ⟨(by first | exact ⟨by omega, by omega⟩ | (simp only [Int.cast_ofNat_Int]; exact ⟨by omega, by omega⟩)), ?_⟩
  conv => whnf
  refine ⟨(by first | assumption | rfl), ?_⟩
  try simp (disch := omega) only [Int.cast_ofNat_Int, up_s, up_a, up_i, mp_a, mp_ge, mq_a, mq_ge, cp_a]
  rw [show sx_andL (σ s 10 * 1103515245 + 12345) 2147483647 = fDr (σ s 10) from rfl]
  conv => whnf
  refine ⟨(by first | assumption | rfl), ?_⟩
  try simp (disch := omega) only [Int.cast_ofNat_Int, up_s, up_a, up_i, mp_a, mp_ge, mq_a, mq_ge, cp_a]
  conv => whnf
  refine ⟨by omega, (show sx_r64 _ from (by first | exact ⟨by omega, by omega⟩ | (simp only [Int.cast_ofNat_Int]; exact ⟨by omega, by omega⟩))), ?_⟩
  conv => whnf
  refine ⟨(by first | exact ⟨by omega, by omega⟩ | (simp only [Int.cast_ofNat_Int]; exact ⟨by omega, by omega⟩)), ?_⟩
  conv => whnf
  refine ⟨fun q9 => by first | (simp at q9; done) | omega, ?_⟩
  exact h
set_option maxRecDepth 20000 in
theorem c_Rnumber {k : Int} (hk : 1 ≤ k ∧ k ≤ 100) (hx : 0 ≤ σ 124 73 ∧ σ 124 73 ≤ 2147483647) (h : Q (some (.inl (((fDr (σ 124 73)).tdiv 65536).tmod k))) shM (sx_up σ 124 73 (fDr (σ 124 73)))) : sx_Run X 249 [.inr (.inr 124), .inl k] shM σ Q := by
  have hb := fDr_bd (σ 124 73)
  have hq := tm_bd hb.1 (show (0 : Int) < 65536 by omega)
  have hm := tm_bd hq.2.2.1 (show 0 < k by omega)
  refine sx_rule0 (own := 12) (cd := kX12_number1) (nL := 2) (by decide +kernel) (by decide +kernel) kX12_number1_ok (by decide +kernel) (Nat.le_of_ble_eq_true rfl) 40 ?_
  conv => whnf
  refine ⟨(by first | assumption | rfl), ?_⟩
  try simp (disch := omega) only [Int.cast_ofNat_Int, up_s, up_a, up_i, mp_a, mp_ge, mq_a, mq_ge, cp_a]
  conv => whnf
  refine ⟨(by first | exact ⟨by omega, by omega⟩ | (simp only [Int.cast_ofNat_Int]; exact ⟨by omega, by omega⟩)), ?_⟩
  conv => whnf
  refine ⟨(by first | exact ⟨by omega, by omega⟩ | (simp only [Int.cast_ofNat_Int]; exact ⟨by omega, by omega⟩)), ?_⟩
  conv => whnf
  refine ⟨(by first | assumption | rfl), ?_⟩
  try simp (disch := omega) only [Int.cast_ofNat_Int, up_s, up_a, up_i, mp_a, mp_ge, mq_a, mq_ge, cp_a]
  rw [show sx_andL (σ 124 73 * 1103515245 + 12345) 2147483647 = fDr (σ 124 73) from rfl]
  conv => whnf
  refine ⟨(by first | assumption | rfl), ?_⟩
  try simp (disch := omega) only [Int.cast_ofNat_Int, up_s, up_a, up_i, mp_a, mp_ge, mq_a, mq_ge, cp_a]
  conv => whnf
  refine ⟨by omega, (show sx_r64 _ from (by first | exact ⟨by omega, by omega⟩ | (simp only [Int.cast_ofNat_Int]; exact ⟨by omega, by omega⟩))), ?_⟩
  conv => whnf
  refine ⟨by omega, (show sx_r64 _ from (by first | exact ⟨by omega, by omega⟩ | (simp only [Int.cast_ofNat_Int]; exact ⟨by omega, by omega⟩))), ?_⟩
  conv => whnf
  refine ⟨(by first | exact ⟨by omega, by omega⟩ | (simp only [Int.cast_ofNat_Int]; exact ⟨by omega, by omega⟩)), ?_⟩
  conv => whnf
  refine ⟨fun q9 => by first | (simp at q9; done) | omega, ?_⟩
  exact h
theorem ps_lt (hp : isP p) (hs : isS s) : p + 20 < s := by rcases hs with h | h | h <;> rcases hp with g | g <;> omega
/-- three rows of five anew -/
def sx_m3 (σ : sx_S) (A B D n : Int) (f : Int → Int) : sx_S := sx_mp (sx_mp (sx_mp σ A n f) B n (fun _ => 0)) D n (fun j => j)
theorem m3_0 (σ : sx_S) (A B D : Int) (f : Int → Int) : sx_m3 σ A B D 0 f = σ := by unfold sx_m3; rw [mp_0, mp_0, mp_0]
theorem m3_s {σ : sx_S} {A B D i v : Int} {f : Int → Int} (h1 : ¬ A = B) (h2 : ¬ A = D) (h3 : ¬ B = D) (h : 0 ≤ i) (hv : v = f i) : sx_up (sx_up (sx_up (sx_m3 σ A B D i f) A i v) B i 0) D i i = sx_m3 σ A B D (i + 1) f := by
  unfold sx_m3
  rw [up_mp h2, up_mp h1, mp_s h hv, up_mp h3, mp_s h rfl, mp_s h rfl]
theorem m3_a {σ : sx_S} {A B D n b j : Int} {f : Int → Int} (h1 : ¬ b = A) (h2 : ¬ b = B) (h3 : ¬ b = D) : sx_m3 σ A B D n f b j = σ b j := by unfold sx_m3; rw [mp_a h3, mp_a h2, mp_a h1]
theorem PT_m3 {σ : sx_S} {A B D m : Int} {f : Int → Int} {t n t1 n1 t2 n2 : Nat} (hT : PT σ) (h1 : sx_lk shM A = (t, n)) (ht : 1 ≤ t ∧ t ≤ 4) (h2 : sx_lk shM B = (t1, n1)) (ht1 : 1 ≤ t1 ∧ t1 ≤ 4) (h3 : sx_lk shM D = (t2, n2)) (ht2 : 1 ≤ t2 ∧ t2 ≤ 4) : PT (sx_m3 σ A B D m f) := PT_mp (PT_mp (PT_mp hT h1 ht) h2 ht1) h3 ht2
set_option maxRecDepth 20000 in
theorem c_Sclear (hT : PT σ) (hs : isS s) (hp : isP p) (ep : σ s 1 = p) (h : Q none shM (sx_m3 (sx_up (sx_up σ (s + 4) 0 0) s 8 0) (s + 1) (s + 2) (s + 3) 5 (fun j => if j < σ p 6 then σ (p + 8) j else 0))) : sx_Run X 77 [.inr (.inr s)] shM σ Q := by
  have k0 := lkS0 hs
  have k1 := lkS1 hs
  have k2 := lkS2 hs
  have k3 := lkS3 hs
  have k4 := lkS4 hs
  have s2 := ptS_2 hT hs
  have s3 := ptS_3 hT hs
  have s4 := ptS_4 hT hs
  have s5 := ptS_5 hT hs
  have q0 := lkP0 hp
  have q8 := lkP8 hp
  have t11 := ptP_11 hT hp
  refine sx_rule2 (own := 9) (cd := kX9_clearField) (nL := 2) (by decide +kernel) (by decide +kernel) kX9_clearField_ok (by decide +kernel) (Nat.le_of_ble_eq_true rfl) [15] 40 (fun n t L st _ σ' => (t = 15 ∧ ∃ i : Int, st = [] ∧ L = [some (.inr (.inr (s))), some (.inl (i))] ∧ (σ' = sx_m3 (sx_up (sx_up σ (s + 4) 0 0) s 8 0) (s + 1) (s + 2) (s + 3) i (fun j => if j < σ p 6 then σ (p + 8) j else 0) ∧ 0 ≤ i ∧ i ≤ 5) ∧ n = (5 - i).toNat)) ?_ ?_
  · skip
    conv => whnf
    refine ⟨(by first | assumption | rfl), ?_⟩
    try simp (disch := omega) only [Int.cast_ofNat_Int, up_s, up_a, up_i, mp_a, mp_ge, mq_a, mq_ge, m3_a, cp_a, s2, s3, s4, s5, ep, t11]
    conv => whnf
    refine ⟨(by first | assumption | rfl), ?_⟩
    try simp (disch := omega) only [Int.cast_ofNat_Int, up_s, up_a, up_i, mp_a, mp_ge, mq_a, mq_ge, m3_a, cp_a, s2, s3, s4, s5, ep, t11]
    conv => whnf
    refine ⟨(by first | assumption | rfl), ?_⟩
    try simp (disch := omega) only [Int.cast_ofNat_Int, up_s, up_a, up_i, mp_a, mp_ge, mq_a, mq_ge, m3_a, cp_a, s2, s3, s4, s5, ep, t11]
    conv => whnf
    refine ⟨_, ⟨rfl, _, rfl, rfl, ?_, rfl⟩⟩
    exact ⟨(m3_0 _ _ _ _ _).symm, by omega, by omega⟩
  · intro n t L st σ' hk
    obtain ⟨rfl, i, rfl, rfl, hc, rfl⟩ := hk
    obtain ⟨rfl, hi0, hi1⟩ := hc
    have hps := ps_lt hp hs
    conv => whnf
    refine ⟨fun g => ?_, fun g => ?_⟩
    · simp only [sx_cc, Classical.not_not] at g
      conv => whnf
      refine ⟨rfl, ?_⟩
      have e9 : i = 5 := by omega
      rw [e9]
      exact h
    · simp only [sx_cc, Classical.not_not] at g
      conv => whnf
      refine ⟨(by first | assumption | rfl), ?_⟩
      try simp (disch := omega) only [Int.cast_ofNat_Int, up_s, up_a, up_i, mp_a, mp_ge, mq_a, mq_ge, m3_a, cp_a, s2, s3, s4, s5, ep, t11]
      conv => whnf
      refine ⟨(by first | assumption | rfl), ?_⟩
      try simp (disch := omega) only [Int.cast_ofNat_Int, up_s, up_a, up_i, mp_a, mp_ge, mq_a, mq_ge, m3_a, cp_a, s2, s3, s4, s5, ep, t11]
      conv => whnf
      refine ⟨(by first | assumption | rfl), ?_⟩
      try simp (disch := omega) only [Int.cast_ofNat_Int, up_s, up_a, up_i, mp_a, mp_ge, mq_a, mq_ge, m3_a, cp_a, s2, s3, s4, s5, ep, t11]
      conv => whnf
      refine ⟨fun g => ?_, fun g => ?_⟩
      · simp only [sx_cc, Classical.not_not] at g
        conv => whnf
        refine ⟨sx_ixI (by first | assumption | rfl) (by omega) (by omega), ?_⟩
        conv => whnf
        refine ⟨(by first | assumption | rfl), ?_⟩
        try simp (disch := omega) only [Int.cast_ofNat_Int, up_s, up_a, up_i, mp_a, mp_ge, mq_a, mq_ge, m3_a, cp_a, s2, s3, s4, s5, ep, t11]
        conv => whnf
        refine ⟨sx_ixI (by first | assumption | rfl) (by omega) (by omega), ?_⟩
        conv => whnf
        refine ⟨(by first | assumption | rfl), ?_⟩
        try simp (disch := omega) only [Int.cast_ofNat_Int, up_s, up_a, up_i, mp_a, mp_ge, mq_a, mq_ge, m3_a, cp_a, s2, s3, s4, s5, ep, t11]
        conv => whnf
        refine ⟨sx_ixI (by first | assumption | rfl) (by omega) (by omega), ?_⟩
        conv => whnf
        refine ⟨⟨by omega, by omega⟩, ?_⟩
        conv => whnf
        refine ⟨_, ?_, ⟨rfl, _, rfl, rfl, ?_, rfl⟩⟩
        · omega
        · exact ⟨m3_s (by omega) (by omega) (by omega) hi0 (by first | (rw [if_pos (by omega)]; done) | (rw [if_neg (by omega)]; done)), by omega, by omega⟩
      · simp only [sx_cc, Classical.not_not] at g
        conv => whnf
        refine ⟨(by first | assumption | rfl), ?_⟩
        try simp (disch := omega) only [Int.cast_ofNat_Int, up_s, up_a, up_i, mp_a, mp_ge, mq_a, mq_ge, m3_a, cp_a, s2, s3, s4, s5, ep, t11]
        conv => whnf
        refine ⟨(by first | assumption | rfl), ?_⟩
        try simp (disch := omega) only [Int.cast_ofNat_Int, up_s, up_a, up_i, mp_a, mp_ge, mq_a, mq_ge, m3_a, cp_a, s2, s3, s4, s5, ep, t11]
        conv => whnf
        refine ⟨sx_ixI (by first | assumption | rfl) (by omega) (by omega), ?_⟩
        try simp (disch := omega) only [Int.cast_ofNat_Int, up_s, up_a, up_i, mp_a, mp_ge, mq_a, mq_ge, m3_a, cp_a, s2, s3, s4, s5, ep, t11]
        conv => whnf
        refine ⟨sx_ixI (by first | assumption | rfl) (by omega) (by omega), ?_⟩
        conv => whnf
        refine ⟨(by first | assumption | rfl), ?_⟩
        try simp (disch := omega) only [Int.cast_ofNat_Int, up_s, up_a, up_i, mp_a, mp_ge, mq_a, mq_ge, m3_a, cp_a, s2, s3, s4, s5, ep, t11]
        conv => whnf
        refine ⟨sx_ixI (by first | assumption | rfl) (by omega) (by omega), ?_⟩
        conv => whnf
        refine ⟨(by first | assumption | rfl), ?_⟩
        try simp (disch := omega) only [Int.cast_ofNat_Int, up_s, up_a, up_i, mp_a, mp_ge, mq_a, mq_ge, m3_a, cp_a, s2, s3, s4, s5, ep, t11]
        conv => whnf
        refine ⟨sx_ixI (by first | assumption | rfl) (by omega) (by omega), ?_⟩
        conv => whnf
        refine ⟨⟨by omega, by omega⟩, ?_⟩
        conv => whnf
        refine ⟨_, ?_, ⟨rfl, _, rfl, rfl, ?_, rfl⟩⟩
        · omega
        · exact ⟨m3_s (by omega) (by omega) (by omega) hi0 (by first | (rw [if_pos (by omega)]; done) | (rw [if_neg (by omega)]; done)), by omega, by omega⟩
set_option maxRecDepth 20000 in
theorem c_Rgohome (hT : PT σ) (h : Q none shM (sx_m3 (sx_up (sx_up σ 154 0 0) 155 0 0) 157 158 159 5 (σ 134))) : sx_Run X 223 [.inr (.inr 124)] shM σ Q := by
  have r30 := pt_124_30 hT
  have r31 := pt_124_31 hT
  have r32 := pt_124_32 hT
  have r33 := pt_124_33 hT
  have r34 := pt_124_34 hT
  have r35 := pt_124_35 hT
  have r36 := pt_124_36 hT
  have r37 := pt_124_37 hT
  have r38 := pt_124_38 hT
  have r57 := pt_124_57 hT
  have r58 := pt_124_58 hT
  have r59 := pt_124_59 hT
  have r60 := pt_124_60 hT
  have r61 := pt_124_61 hT
  have r62 := pt_124_62 hT
  have r63 := pt_124_63 hT
  have r64 := pt_124_64 hT
  have r65 := pt_124_65 hT
  have r66 := pt_124_66 hT
  have r67 := pt_124_67 hT
  have r68 := pt_124_68 hT
  have r69 := pt_124_69 hT
  have r70 := pt_124_70 hT
  have r71 := pt_124_71 hT
  refine sx_rule2 (own := 12) (cd := kX12_goHome) (nL := 2) (by decide +kernel) (by decide +kernel) kX12_goHome_ok (by decide +kernel) (Nat.le_of_ble_eq_true rfl) [16] 40 (fun n t L st _ σ' => (t = 16 ∧ ∃ i : Int, st = [] ∧ L = [some (.inr (.inr (124))), some (.inl (i))] ∧ (σ' = sx_m3 (sx_up (sx_up σ 154 0 0) 155 0 0) 157 158 159 i (σ 134) ∧ 0 ≤ i ∧ i ≤ 5) ∧ n = (5 - i).toNat)) ?_ ?_
  · skip
    conv => whnf
    refine ⟨(by first | assumption | rfl), ?_⟩
    try simp (disch := omega) only [Int.cast_ofNat_Int, up_s, up_a, up_i, mp_a, mp_ge, mq_a, mq_ge, m3_a, cp_a, r30, r31, r32, r33, r34, r35, r36, r37, r38, r57, r58, r59, r60, r61, r62, r63, r64, r65, r66, r67, r68, r69, r70, r71]
    conv => whnf
    refine ⟨sx_ixI (by first | assumption | rfl) (by omega) (by omega), ?_⟩
    conv => whnf
    refine ⟨(by first | assumption | rfl), ?_⟩
    try simp (disch := omega) only [Int.cast_ofNat_Int, up_s, up_a, up_i, mp_a, mp_ge, mq_a, mq_ge, m3_a, cp_a, r30, r31, r32, r33, r34, r35, r36, r37, r38, r57, r58, r59, r60, r61, r62, r63, r64, r65, r66, r67, r68, r69, r70, r71]
    conv => whnf
    refine ⟨sx_ixI (by first | assumption | rfl) (by omega) (by omega), ?_⟩
    conv => whnf
    refine ⟨_, ⟨rfl, _, rfl, rfl, ?_, rfl⟩⟩
    exact ⟨(m3_0 _ _ _ _ _).symm, by omega, by omega⟩
  · intro n t L st σ' hk
    obtain ⟨rfl, i, rfl, rfl, hc, rfl⟩ := hk
    obtain ⟨rfl, hi0, hi1⟩ := hc
    conv => whnf
    refine ⟨fun g => ?_, fun g => ?_⟩
    · simp only [sx_cc, Classical.not_not] at g
      conv => whnf
      refine ⟨rfl, ?_⟩
      have e9 : i = 5 := by omega
      rw [e9]
      exact h
    · simp only [sx_cc, Classical.not_not] at g
      conv => whnf
      refine ⟨(by first | assumption | rfl), ?_⟩
      try simp (disch := omega) only [Int.cast_ofNat_Int, up_s, up_a, up_i, mp_a, mp_ge, mq_a, mq_ge, m3_a, cp_a, r30, r31, r32, r33, r34, r35, r36, r37, r38, r57, r58, r59, r60, r61, r62, r63, r64, r65, r66, r67, r68, r69, r70, r71]
      conv => whnf
      refine ⟨(by first | assumption | rfl), ?_⟩
      try simp (disch := omega) only [Int.cast_ofNat_Int, up_s, up_a, up_i, mp_a, mp_ge, mq_a, mq_ge, m3_a, cp_a, r30, r31, r32, r33, r34, r35, r36, r37, r38, r57, r58, r59, r60, r61, r62, r63, r64, r65, r66, r67, r68, r69, r70, r71]
      conv => whnf
      refine ⟨sx_ixI (by first | assumption | rfl) (by omega) (by omega), ?_⟩
      try simp (disch := omega) only [Int.cast_ofNat_Int, up_s, up_a, up_i, mp_a, mp_ge, mq_a, mq_ge, m3_a, cp_a, r30, r31, r32, r33, r34, r35, r36, r37, r38, r57, r58, r59, r60, r61, r62, r63, r64, r65, r66, r67, r68, r69, r70, r71]
      conv => whnf
      refine ⟨sx_ixI (by first | assumption | rfl) (by omega) (by omega), ?_⟩
      conv => whnf
      refine ⟨(by first | assumption | rfl), ?_⟩
      try simp (disch := omega) only [Int.cast_ofNat_Int, up_s, up_a, up_i, mp_a, mp_ge, mq_a, mq_ge, m3_a, cp_a, r30, r31, r32, r33, r34, r35, r36, r37, r38, r57, r58, r59, r60, r61, r62, r63, r64, r65, r66, r67, r68, r69, r70, r71]
      conv => whnf
      refine ⟨sx_ixI (by first | assumption | rfl) (by omega) (by omega), ?_⟩
      conv => whnf
      refine ⟨(by first | assumption | rfl), ?_⟩
      try simp (disch := omega) only [Int.cast_ofNat_Int, up_s, up_a, up_i, mp_a, mp_ge, mq_a, mq_ge, m3_a, cp_a, r30, r31, r32, r33, r34, r35, r36, r37, r38, r57, r58, r59, r60, r61, r62, r63, r64, r65, r66, r67, r68, r69, r70, r71]
      conv => whnf
      refine ⟨sx_ixI (by first | assumption | rfl) (by omega) (by omega), ?_⟩
      conv => whnf
      refine ⟨⟨by omega, by omega⟩, ?_⟩
      conv => whnf
      refine ⟨_, ?_, ⟨rfl, _, rfl, rfl, ?_, rfl⟩⟩
      · omega
      · exact ⟨m3_s (by omega) (by omega) (by omega) hi0 rfl, by omega, by omega⟩
end SXW7
