/-! WEATHER, both sides: cover, melt, draw (by wip/whole) -/
section SXW6
variable {X : sx_X} {σ σ0 : sx_S} {s p : Int} {Q : sx_R}
def fMn (x : Int) : Int := if x < 9999 then x else 9999
theorem fMn_bd {x : Int} (h : 0 ≤ x) : 0 ≤ fMn x ∧ fMn x ≤ 9999 := by unfold fMn; split <;> omega
/-- a part of a row anew: from lo on, n places, by f of the place behind lo -/
def sx_mq (σ : sx_S) (a lo n : Int) (f : Int → Int) : sx_S := fun a' i => if a' = a ∧ lo ≤ i ∧ i < lo + n then f (i - lo) else σ a' i
theorem mq_a {σ : sx_S} {a lo n b j : Int} {f : Int → Int} (h : ¬ b = a) : sx_mq σ a lo n f b j = σ b j := by unfold sx_mq; rw [if_neg (fun z => h z.1)]
theorem mq_ge {σ : sx_S} {a lo n j : Int} {f : Int → Int} (h : lo + n ≤ j ∨ j < lo) : sx_mq σ a lo n f a j = σ a j := by unfold sx_mq; rw [if_neg (fun z => by omega)]
theorem mq_in {σ : sx_S} {a lo n j : Int} {f : Int → Int} (h0 : lo ≤ j) (h : j < lo + n) : sx_mq σ a lo n f a j = f (j - lo) := by unfold sx_mq; rw [if_pos ⟨rfl, h0, h⟩]
theorem mq_0 (σ : sx_S) (a lo : Int) (f : Int → Int) : sx_mq σ a lo 0 f = σ := by
  funext a' i
  unfold sx_mq
  rw [if_neg (by omega)]
theorem mq_s {σ : sx_S} {a lo i v : Int} {f : Int → Int} (h : 0 ≤ i) (hv : v = f i) : sx_up (sx_mq σ a lo i f) a (lo + i) v = sx_mq σ a lo (i + 1) f := by
  funext a' j
  unfold sx_up sx_mq
  by_cases e : a' = a
  · by_cases e2 : j = lo + i
    · rw [if_pos ⟨e, e2⟩, if_pos ⟨e, by omega, by omega⟩, hv, e2, show lo + i - lo = i by omega]
    · rw [if_neg (fun z => e2 z.2)]
      by_cases e3 : lo ≤ j ∧ j < lo + i
      · rw [if_pos ⟨e, e3⟩, if_pos ⟨e, e3.1, by omega⟩]
      · rw [if_neg (fun z => e3 z.2), if_neg (fun z => e3 ⟨z.2.1, by omega⟩)]
  · rw [if_neg (fun z => e z.1), if_neg (fun z => e z.1), if_neg (fun z => e z.1)]
theorem mq_n {σ : sx_S} {a lo i : Int} {f : Int → Int} (h : 0 ≤ i) (hv : σ a (lo + i) = f i) : sx_mq σ a lo i f = sx_mq σ a lo (i + 1) f := by
  rw [← mq_s h rfl]
  funext a' j
  by_cases e : a' = a ∧ j = lo + i
  · rw [e.1, e.2, up_s, mq_ge (by omega), hv]
  · show _ = (if a' = a ∧ j = lo + i then _ else _)
    rw [if_neg e]
theorem mp2_s {σ : sx_S} {A B i v w : Int} {f g : Int → Int} (hAB : ¬ A = B) (h : 0 ≤ i) (hv : v = f i) (hw : w = g i) : sx_up (sx_up (sx_mp (sx_mp σ A i f) B i g) A i v) B i w = sx_mp (sx_mp σ A (i + 1) f) B (i + 1) g := by
  rw [up_mp hAB, mp_s h hv, mp_s h hw]
theorem mp2_n {σ : sx_S} {A B i : Int} {f g : Int → Int} (hAB : ¬ A = B) (h : 0 ≤ i) (hv : σ A i = f i) (hw : σ B i = g i) : sx_mp (sx_mp σ A i f) B i g = sx_mp (sx_mp σ A (i + 1) f) B (i + 1) g := by
  rw [mp_n h hv, mp_n (σ := sx_mp σ A (i + 1) f) h (by rw [mp_a (fun z => hAB z.symm)]; exact hw)]
theorem up_mq {σ : sx_S} {a b i lo n v : Int} {f : Int → Int} (h : ¬ a = b) : sx_up (sx_mq σ b lo n f) a i v = sx_mq (sx_up σ a i v) b lo n f := by
  funext d j
  unfold sx_up sx_mq
  by_cases e1 : d = a
  · have e3 : ¬ d = b := fun z => h (e1.symm.trans z)
    rw [if_neg (c := d = b ∧ lo ≤ j ∧ j < lo + n) (fun z => e3 z.1), if_neg (c := d = b ∧ lo ≤ j ∧ j < lo + n) (fun z => e3 z.1)]
  · dsimp only
    rw [if_neg (c := d = a ∧ j = i) (fun z => e1 z.1), if_neg (c := d = a ∧ j = i) (fun z => e1 z.1)]
theorem mq2_s {σ : sx_S} {A B lo i v w : Int} {f g : Int → Int} (hAB : ¬ A = B) (h : 0 ≤ i) (hv : v = f i) (hw : w = g i) : sx_up (sx_up (sx_mq (sx_mq σ A lo i f) B lo i g) A (lo + i) v) B (lo + i) w = sx_mq (sx_mq σ A lo (i + 1) f) B lo (i + 1) g := by
  rw [up_mq hAB, mq_s h hv, mq_s h hw]
theorem mq2_n {σ : sx_S} {A B lo i : Int} {f g : Int → Int} (hAB : ¬ A = B) (h : 0 ≤ i) (hv : σ A (lo + i) = f i) (hw : σ B (lo + i) = g i) : sx_mq (sx_mq σ A lo i f) B lo i g = sx_mq (sx_mq σ A lo (i + 1) f) B lo (i + 1) g := by
  rw [mq_n h hv, mq_n (σ := sx_mq σ A lo (i + 1) f) h (by rw [mq_a (fun z => hAB z.symm)]; exact hw)]
theorem PT_mq {σ : sx_S} {a lo m : Int} {f : Int → Int} {t n : Nat} (hT : PT σ) (ha : sx_lk shM a = (t, n)) (ht : 1 ≤ t ∧ t ≤ 4) : PT (sx_mq σ a lo m f) := PT_ar hT ha ht (fun b hb => funext fun j => mq_a hb)
set_option maxRecDepth 20000 in
theorem c_Scoverby (hT : PT σ) (hs : isS s) (hn : 0 ≤ σ (s + 4) 0 ∧ σ (s + 4) 0 ≤ 90) (hcv : ∀ i : Int, 0 ≤ i → i < σ (s + 4) 0 → 0 ≤ σ (s + 10) i ∧ σ (s + 10) i ≤ 1000000) (hsn : 0 ≤ σ s 8 ∧ σ s 8 ≤ 9999) {x : Int} (hx : 0 ≤ x ∧ x ≤ 99) (h : Q none shM (sx_up (sx_mp σ (s + 10) (σ (s + 4) 0) (fun j => σ (s + 10) j + x)) s 8 (fMn (σ s 8 + x)))) : sx_Run X 87 [.inr (.inr s), .inl x] shM σ Q := by
  have k0 := lkS0 hs
  have k1 := lkS1 hs
  have k2 := lkS2 hs
  have k3 := lkS3 hs
  have k4 := lkS4 hs
  have k5 := lkS5 hs
  have k6 := lkS6 hs
  have k7 := lkS7 hs
  have k8 := lkS8 hs
  have k9 := lkS9 hs
  have k10 := lkS10 hs
  have k11 := lkS11 hs
  have k12 := lkS12 hs
  have k13 := lkS13 hs
  have k14 := lkS14 hs
  have m1 := ptM_1 hT hs
  have m2 := ptM_2 hT hs
  have m3 := ptM_3 hT hs
  have m4 := ptM_4 hT hs
  have m5 := ptM_5 hT hs
  have m6 := ptM_6 hT hs
  have m7 := ptM_7 hT hs
  have m8 := ptM_8 hT hs
  have s0 := ptS_0 hT hs
  have s2 := ptS_2 hT hs
  have s3 := ptS_3 hT hs
  have s4 := ptS_4 hT hs
  have s5 := ptS_5 hT hs
  have s6 := ptS_6 hT hs
  have s11 := ptS_11 hT hs
  refine sx_rule2 (own := 9) (cd := kX9_coverBy) (nL := 3) (by decide +kernel) (by decide +kernel) kX9_coverBy_ok (by decide +kernel) (Nat.le_of_ble_eq_true rfl) [2] 40 (fun n t L st _ σ' => (t = 2 ∧ ∃ i : Int, st = [] ∧ L = [some (.inr (.inr (s))), some (.inl (x)), some (.inl (i))] ∧ (σ' = sx_mp σ (s + 10) i (fun j => σ (s + 10) j + x) ∧ 0 ≤ i ∧ i ≤ σ (s + 4) 0) ∧ n = (σ (s + 4) 0 - i).toNat)) ?_ ?_
  · skip
    conv => whnf
    refine ⟨_, ⟨rfl, _, rfl, rfl, ?_, rfl⟩⟩
    exact ⟨(mp_0 _ _ _).symm, by omega, by omega⟩
  · intro n t L st σ' hk
    obtain ⟨rfl, i, rfl, rfl, hc, rfl⟩ := hk
    obtain ⟨rfl, hi0, hi1⟩ := hc
    have hci := hcv i hi0
    conv => whnf
    refine ⟨(by first | assumption | rfl), ?_⟩
    try simp (disch := omega) only [Int.cast_ofNat_Int, up_s, up_a, up_i, mp_a, mp_ge, mq_a, mq_ge, cp_a, m1, m2, m3, m4, m5, m6, m7, m8, s0, s2, s3, s4, s5, s6, s11]
    conv => whnf
    refine ⟨(by first | assumption | rfl), ?_⟩
    try simp (disch := omega) only [Int.cast_ofNat_Int, up_s, up_a, up_i, mp_a, mp_ge, mq_a, mq_ge, cp_a, m1, m2, m3, m4, m5, m6, m7, m8, s0, s2, s3, s4, s5, s6, s11]
    conv => whnf
    refine ⟨fun g => ?_, fun g => ?_⟩
    · simp only [sx_cc, Classical.not_not] at g
      conv => whnf
      refine ⟨(by first | assumption | rfl), ?_⟩
      try simp (disch := omega) only [Int.cast_ofNat_Int, up_s, up_a, up_i, mp_a, mp_ge, mq_a, mq_ge, cp_a, m1, m2, m3, m4, m5, m6, m7, m8, s0, s2, s3, s4, s5, s6, s11]
      conv => whnf
      refine ⟨⟨by omega, by omega⟩, ?_⟩
      conv => whnf
      refine ⟨Nat.le_of_ble_eq_true rfl, ?_⟩
      conv => whnf
      refine ⟨(by first | assumption | rfl), ?_⟩
      try simp (disch := omega) only [Int.cast_ofNat_Int, up_s, up_a, up_i, mp_a, mp_ge, mq_a, mq_ge, cp_a, m1, m2, m3, m4, m5, m6, m7, m8, s0, s2, s3, s4, s5, s6, s11]
      conv => whnf
      refine ⟨rfl, ?_⟩
      have e9 : i = σ (s + 4) 0 := by omega
      rw [e9]
      exact h
    · simp only [sx_cc, Classical.not_not] at g
      conv => whnf
      refine ⟨(by first | assumption | rfl), ?_⟩
      try simp (disch := omega) only [Int.cast_ofNat_Int, up_s, up_a, up_i, mp_a, mp_ge, mq_a, mq_ge, cp_a, m1, m2, m3, m4, m5, m6, m7, m8, s0, s2, s3, s4, s5, s6, s11]
      conv => whnf
      refine ⟨(by first | assumption | rfl), ?_⟩
      try simp (disch := omega) only [Int.cast_ofNat_Int, up_s, up_a, up_i, mp_a, mp_ge, mq_a, mq_ge, cp_a, m1, m2, m3, m4, m5, m6, m7, m8, s0, s2, s3, s4, s5, s6, s11]
      conv => whnf
      refine ⟨sx_ixI (by first | assumption | rfl) (by omega) (by omega), ?_⟩
      try simp (disch := omega) only [Int.cast_ofNat_Int, up_s, up_a, up_i, mp_a, mp_ge, mq_a, mq_ge, cp_a, m1, m2, m3, m4, m5, m6, m7, m8, s0, s2, s3, s4, s5, s6, s11]
      conv => whnf
      refine ⟨⟨by omega, by omega⟩, ?_⟩
      conv => whnf
      refine ⟨sx_ixI (by first | assumption | rfl) (by omega) (by omega), ?_⟩
      conv => whnf
      refine ⟨⟨by omega, by omega⟩, ?_⟩
      conv => whnf
      refine ⟨_, ?_, ⟨rfl, _, rfl, rfl, ?_, rfl⟩⟩
      · omega
      · exact ⟨mp_s hi0 rfl, by omega, by omega⟩
set_option maxRecDepth 20000 in
theorem c_Rfalls (hT : PT σ) {b x : Int} (hb : b = 0 ∨ b = 1) (hn : 0 ≤ σ 154 b ∧ σ 154 b ≤ 90) (hx : 0 ≤ x ∧ x ≤ 99) (hcv : ∀ i : Int, 0 ≤ i → i < σ 154 b → 0 ≤ σ 151 (90 * b + i) ∧ σ 151 (90 * b + i) ≤ 1000000) (hsn : 0 ≤ σ 155 b ∧ σ 155 b ≤ 9999) (h : Q none shM (sx_up (sx_mq σ 151 (90 * b) (σ 154 b) (fun j => σ 151 (90 * b + j) + x)) 155 b (fMn (σ 155 b + x)))) : sx_Run X 244 [.inr (.inr 124), .inl b, .inl x] shM σ Q := by
  have r30 := pt_124_30 hT
  have r31 := pt_124_31 hT
  have r32 := pt_124_32 hT
  have r33 := pt_124_33 hT
  have r34 := pt_124_34 hT
  have r35 := pt_124_35 hT
  have r36 := pt_124_36 hT
  have r37 := pt_124_37 hT
  have r38 := pt_124_38 hT
  have r57 := pt_124_57 hT
  have r58 := pt_124_58 hT
  have r59 := pt_124_59 hT
  have r60 := pt_124_60 hT
  have r61 := pt_124_61 hT
  have r62 := pt_124_62 hT
  have r63 := pt_124_63 hT
  have r64 := pt_124_64 hT
  have r65 := pt_124_65 hT
  have r66 := pt_124_66 hT
  have r67 := pt_124_67 hT
  have r68 := pt_124_68 hT
  have r69 := pt_124_69 hT
  have r70 := pt_124_70 hT
  have r71 := pt_124_71 hT
  refine sx_rule2 (own := 12) (cd := kX12_falls) (nL := 4) (by decide +kernel) (by decide +kernel) kX12_falls_ok (by decide +kernel) (Nat.le_of_ble_eq_true rfl) [2] 40 (fun n t L st _ σ' => (t = 2 ∧ ∃ i : Int, st = [] ∧ L = [some (.inr (.inr (124))), some (.inl (b)), some (.inl (x)), some (.inl (i))] ∧ (σ' = sx_mq σ 151 (90 * b) i (fun j => σ 151 (90 * b + j) + x) ∧ 0 ≤ i ∧ i ≤ σ 154 b) ∧ n = (σ 154 b - i).toNat)) ?_ ?_
  · skip
    conv => whnf
    refine ⟨_, ⟨rfl, _, rfl, rfl, ?_, rfl⟩⟩
    exact ⟨(mq_0 _ _ _ _).symm, by omega, by omega⟩
  · intro n t L st σ' hk
    obtain ⟨rfl, i, rfl, rfl, hc, rfl⟩ := hk
    obtain ⟨rfl, hi0, hi1⟩ := hc
    have hci := hcv i hi0
    conv => whnf
    refine ⟨(by first | assumption | rfl), ?_⟩
    try simp (disch := omega) only [Int.cast_ofNat_Int, up_s, up_a, up_i, mp_a, mp_ge, mq_a, mq_ge, cp_a, r30, r31, r32, r33, r34, r35, r36, r37, r38, r57, r58, r59, r60, r61, r62, r63, r64, r65, r66, r67, r68, r69, r70, r71]
    conv => whnf
    refine ⟨sx_ixI (by first | assumption | rfl) (by omega) (by omega), ?_⟩
    try simp (disch := omega) only [Int.cast_ofNat_Int, up_s, up_a, up_i, mp_a, mp_ge, mq_a, mq_ge, cp_a, r30, r31, r32, r33, r34, r35, r36, r37, r38, r57, r58, r59, r60, r61, r62, r63, r64, r65, r66, r67, r68, r69, r70, r71]
    conv => whnf
    refine ⟨fun g => ?_, fun g => ?_⟩
    · simp only [sx_cc, Classical.not_not] at g
      conv => whnf
      refine ⟨(by first | assumption | rfl), ?_⟩
      try simp (disch := omega) only [Int.cast_ofNat_Int, up_s, up_a, up_i, mp_a, mp_ge, mq_a, mq_ge, cp_a, r30, r31, r32, r33, r34, r35, r36, r37, r38, r57, r58, r59, r60, r61, r62, r63, r64, r65, r66, r67, r68, r69, r70, r71]
      conv => whnf
      refine ⟨(by first | assumption | rfl), ?_⟩
      try simp (disch := omega) only [Int.cast_ofNat_Int, up_s, up_a, up_i, mp_a, mp_ge, mq_a, mq_ge, cp_a, r30, r31, r32, r33, r34, r35, r36, r37, r38, r57, r58, r59, r60, r61, r62, r63, r64, r65, r66, r67, r68, r69, r70, r71]
      conv => whnf
      refine ⟨sx_ixI (by first | assumption | rfl) (by omega) (by omega), ?_⟩
      try simp (disch := omega) only [Int.cast_ofNat_Int, up_s, up_a, up_i, mp_a, mp_ge, mq_a, mq_ge, cp_a, r30, r31, r32, r33, r34, r35, r36, r37, r38, r57, r58, r59, r60, r61, r62, r63, r64, r65, r66, r67, r68, r69, r70, r71]
      conv => whnf
      refine ⟨⟨by omega, by omega⟩, ?_⟩
      conv => whnf
      refine ⟨fun g => ?_, fun g => ?_⟩
      · simp only [sx_cc, Classical.not_not] at g
        conv => whnf
        refine ⟨(by first | assumption | rfl), ?_⟩
        try simp (disch := omega) only [Int.cast_ofNat_Int, up_s, up_a, up_i, mp_a, mp_ge, mq_a, mq_ge, cp_a, r30, r31, r32, r33, r34, r35, r36, r37, r38, r57, r58, r59, r60, r61, r62, r63, r64, r65, r66, r67, r68, r69, r70, r71]
        conv => whnf
        refine ⟨sx_ixI (by first | assumption | rfl) (by omega) (by omega), ?_⟩
        try simp (disch := omega) only [Int.cast_ofNat_Int, up_s, up_a, up_i, mp_a, mp_ge, mq_a, mq_ge, cp_a, r30, r31, r32, r33, r34, r35, r36, r37, r38, r57, r58, r59, r60, r61, r62, r63, r64, r65, r66, r67, r68, r69, r70, r71]
        conv => whnf
        refine ⟨⟨by omega, by omega⟩, ?_⟩
        conv => whnf
        refine ⟨sx_ixI (by first | assumption | rfl) (by omega) (by omega), ?_⟩
        conv => whnf
        refine ⟨rfl, ?_⟩
        have e9 : i = σ 154 b := by omega
        rw [e9] at *
        refine cast (congrArg (fun v => Q none shM (sx_up _ 155 b v)) ?_) h
        unfold fMn
        first | (rw [if_neg (by omega)]; done) | (split <;> omega)
      · simp only [sx_cc, Classical.not_not] at g
        conv => whnf
        refine ⟨sx_ixI (by first | assumption | rfl) (by omega) (by omega), ?_⟩
        conv => whnf
        refine ⟨rfl, ?_⟩
        have e9 : i = σ 154 b := by omega
        rw [e9] at *
        refine cast (congrArg (fun v => Q none shM (sx_up _ 155 b v)) ?_) h
        unfold fMn
        first | (rw [if_neg (by omega)]; done) | (split <;> omega)
    · simp only [sx_cc, Classical.not_not] at g
      conv => whnf
      refine ⟨(by first | assumption | rfl), ?_⟩
      try simp (disch := omega) only [Int.cast_ofNat_Int, up_s, up_a, up_i, mp_a, mp_ge, mq_a, mq_ge, cp_a, r30, r31, r32, r33, r34, r35, r36, r37, r38, r57, r58, r59, r60, r61, r62, r63, r64, r65, r66, r67, r68, r69, r70, r71]
      conv => whnf
      refine ⟨⟨by omega, by omega⟩, ?_⟩
      conv => whnf
      refine ⟨⟨by omega, by omega⟩, ?_⟩
      conv => whnf
      refine ⟨sx_ixI (by first | assumption | rfl) (by omega) (by omega), ?_⟩
      try simp (disch := omega) only [Int.cast_ofNat_Int, up_s, up_a, up_i, mp_a, mp_ge, mq_a, mq_ge, cp_a, r30, r31, r32, r33, r34, r35, r36, r37, r38, r57, r58, r59, r60, r61, r62, r63, r64, r65, r66, r67, r68, r69, r70, r71]
      conv => whnf
      refine ⟨⟨by omega, by omega⟩, ?_⟩
      conv => whnf
      refine ⟨sx_ixI (by first | assumption | rfl) (by omega) (by omega), ?_⟩
      conv => whnf
      refine ⟨⟨by omega, by omega⟩, ?_⟩
      conv => whnf
      refine ⟨_, ?_, ⟨rfl, _, rfl, rfl, ?_, rfl⟩⟩
      · omega
      · exact ⟨mq_s hi0 rfl, by omega, by omega⟩
/-- melting by x: cover, deep, how many are gone -/
def fMc (deep cov : Int → Int) (x : Int) : Int → Int := fun j => if 0 < deep j then fMax0 (cov j - x) else cov j
def fMd (deep cov : Int → Int) (x : Int) : Int → Int := fun j => if 0 < deep j then fMax0 (deep j - fMax0 (x - cov j)) else deep j
def fMg (deep cov : Int → Int) (x : Int) : Int → Bool := fun j => decide (0 < deep j ∧ ¬ 0 < fMd deep cov x j)
theorem fMg_f {deep cov : Int → Int} {x j : Int} (h : ¬ 0 < deep j) : fMg deep cov x j = false := decide_eq_false (fun z => h z.1)
theorem fMg_t {deep cov : Int → Int} {x j : Int} (h : 0 < deep j) (h1 : ¬ 0 < fMd deep cov x j) : fMg deep cov x j = true := decide_eq_true ⟨h, h1⟩
theorem fMg_n {deep cov : Int → Int} {x j : Int} (h1 : 0 < fMd deep cov x j) : fMg deep cov x j = false := decide_eq_false (fun z => z.2 h1)
theorem fCnt_t {b : Int → Bool} {i v : Int} (h0 : 0 ≤ i) (hb : b i = true) (hv : v = fCnt b i.toNat) : v + 1 = fCnt b (i + 1).toNat := by rw [fCnt_s h0, hb, hv]; simp
theorem fCnt_f {b : Int → Bool} {i v : Int} (h0 : 0 ≤ i) (hb : b i = false) (hv : v = fCnt b i.toNat) : v = fCnt b (i + 1).toNat := by rw [fCnt_s h0, hb, hv]; simp
set_option maxRecDepth 20000 in
theorem c_Smeltby (hT : PT σ) (hs : isS s) (hn : 0 ≤ σ (s + 4) 0 ∧ σ (s + 4) 0 ≤ 90) (hcv : ∀ i : Int, 0 ≤ i → i < σ (s + 4) 0 → 0 ≤ σ (s + 10) i ∧ σ (s + 10) i ≤ 1000000) (hde : ∀ i : Int, 0 ≤ i → i < σ (s + 4) 0 → 0 ≤ σ (s + 9) i ∧ σ (s + 9) i ≤ 1000000) (hsn : 0 ≤ σ s 8 ∧ σ s 8 ≤ 9999) {x : Int} (hx : 0 ≤ x ∧ x ≤ 999) (h : Q (some (.inl (fCnt (fMg (σ (s + 9)) (σ (s + 10)) x) (σ (s + 4) 0).toNat))) shM (sx_up (sx_mp (sx_mp σ (s + 10) (σ (s + 4) 0) (fMc (σ (s + 9)) (σ (s + 10)) x)) (s + 9) (σ (s + 4) 0) (fMd (σ (s + 9)) (σ (s + 10)) x)) s 8 (fMax0 (σ s 8 - x)))) : sx_Run X 88 [.inr (.inr s), .inl x] shM σ Q := by
  have k0 := lkS0 hs
  have k1 := lkS1 hs
  have k2 := lkS2 hs
  have k3 := lkS3 hs
  have k4 := lkS4 hs
  have k5 := lkS5 hs
  have k6 := lkS6 hs
  have k7 := lkS7 hs
  have k8 := lkS8 hs
  have k9 := lkS9 hs
  have k10 := lkS10 hs
  have k11 := lkS11 hs
  have k12 := lkS12 hs
  have k13 := lkS13 hs
  have k14 := lkS14 hs
  have m1 := ptM_1 hT hs
  have m2 := ptM_2 hT hs
  have m3 := ptM_3 hT hs
  have m4 := ptM_4 hT hs
  have m5 := ptM_5 hT hs
  have m6 := ptM_6 hT hs
  have m7 := ptM_7 hT hs
  have m8 := ptM_8 hT hs
  have s0 := ptS_0 hT hs
  have s2 := ptS_2 hT hs
  have s3 := ptS_3 hT hs
  have s4 := ptS_4 hT hs
  have s5 := ptS_5 hT hs
  have s6 := ptS_6 hT hs
  have s11 := ptS_11 hT hs
  refine sx_rule2 (own := 9) (cd := kX9_meltBy) (nL := 5) (by decide +kernel) (by decide +kernel) kX9_meltBy_ok (by decide +kernel) (Nat.le_of_ble_eq_true rfl) [4] 40 (fun n t L st _ σ' => (t = 4 ∧ ∃ v i : Int, ∃ w4 : Option sx_V, st = [] ∧ L = [some (.inr (.inr (s))), some (.inl (x)), some (.inl (v)), some (.inl (i)), w4] ∧ (σ' = sx_mp (sx_mp σ (s + 10) i (fMc (σ (s + 9)) (σ (s + 10)) x)) (s + 9) i (fMd (σ (s + 9)) (σ (s + 10)) x) ∧ 0 ≤ i ∧ i ≤ σ (s + 4) 0 ∧ v ≤ i ∧ v = fCnt (fMg (σ (s + 9)) (σ (s + 10)) x) i.toNat) ∧ n = (σ (s + 4) 0 - i).toNat)) ?_ ?_
  · skip
    conv => whnf
    refine ⟨_, ⟨rfl, _, _, _, rfl, rfl, ?_, rfl⟩⟩
    refine ⟨?_, by omega, by omega, by omega, rfl⟩
    rw [mp_0, mp_0]
  · intro n t L st σ' hk
    obtain ⟨rfl, v, i, w4, rfl, rfl, hc, rfl⟩ := hk
    obtain ⟨rfl, hi0, hi1, hv9, hv⟩ := hc
    have hci := hcv i hi0
    have hdi := hde i hi0
    have hT' := PT_mp (m := i) (f := fMd (σ (s + 9)) (σ (s + 10)) x) (PT_mp (m := i) (f := fMc (σ (s + 9)) (σ (s + 10)) x) hT k10 (by decide)) k9 (by decide)
    have hle := fCnt_le (fMg (σ (s + 9)) (σ (s + 10)) x) i.toNat
    conv => whnf
    refine ⟨(by first | assumption | rfl), ?_⟩
    try simp (disch := omega) only [Int.cast_ofNat_Int, up_s, up_a, up_i, mp_a, mp_ge, mq_a, mq_ge, cp_a, m1, m2, m3, m4, m5, m6, m7, m8, s0, s2, s3, s4, s5, s6, s11]
    conv => whnf
    refine ⟨(by first | assumption | rfl), ?_⟩
    try simp (disch := omega) only [Int.cast_ofNat_Int, up_s, up_a, up_i, mp_a, mp_ge, mq_a, mq_ge, cp_a, m1, m2, m3, m4, m5, m6, m7, m8, s0, s2, s3, s4, s5, s6, s11]
    conv => whnf
    refine ⟨fun g => ?_, fun g => ?_⟩
    · simp only [sx_cc, Classical.not_not] at g
      conv => whnf
      refine ⟨(by first | assumption | rfl), ?_⟩
      try simp (disch := omega) only [Int.cast_ofNat_Int, up_s, up_a, up_i, mp_a, mp_ge, mq_a, mq_ge, cp_a, m1, m2, m3, m4, m5, m6, m7, m8, s0, s2, s3, s4, s5, s6, s11]
      conv => whnf
      refine ⟨⟨by omega, by omega⟩, ?_⟩
      conv => whnf
      refine ⟨Nat.le_of_ble_eq_true rfl, ?_⟩
      conv => whnf
      refine ⟨(by first | assumption | rfl), ?_⟩
      try simp (disch := omega) only [Int.cast_ofNat_Int, up_s, up_a, up_i, mp_a, mp_ge, mq_a, mq_ge, cp_a, m1, m2, m3, m4, m5, m6, m7, m8, s0, s2, s3, s4, s5, s6, s11]
      conv => whnf
      refine ⟨fun q9 => by first | (simp at q9; done) | omega, ?_⟩
      have e9 : i = σ (s + 4) 0 := by omega
      subst e9
      rw [← hv] at h
      exact h
    · simp only [sx_cc, Classical.not_not] at g
      conv => whnf
      refine ⟨(by first | assumption | rfl), ?_⟩
      try simp (disch := omega) only [Int.cast_ofNat_Int, up_s, up_a, up_i, mp_a, mp_ge, mq_a, mq_ge, cp_a, m1, m2, m3, m4, m5, m6, m7, m8, s0, s2, s3, s4, s5, s6, s11]
      conv => whnf
      refine ⟨Nat.le_of_ble_eq_true rfl, Nat.le_of_ble_eq_true rfl, (by first | assumption | rfl), ?_⟩
      refine c_Mlasts hT' hs (by first | exact hn | (simp (disch := omega) only [up_s, up_a, mp_a, mp_ge]; exact hn)) (fun g1 g2 g3 => ?_) (fun g0 => ?_)
      · try simp (disch := omega) only [up_s, up_a, mp_a, mp_ge] at g3
        conv => whnf
        refine ⟨fun g => ?_, fun g => ?_⟩
        · exact absurd g (by simp [sx_cc])
        · skip
          conv => whnf
          refine ⟨(by first | assumption | rfl), ?_⟩
          try simp (disch := omega) only [Int.cast_ofNat_Int, up_s, up_a, up_i, mp_a, mp_ge, mq_a, mq_ge, cp_a, m1, m2, m3, m4, m5, m6, m7, m8, s0, s2, s3, s4, s5, s6, s11]
          conv => whnf
          refine ⟨(by first | assumption | rfl), ?_⟩
          try simp (disch := omega) only [Int.cast_ofNat_Int, up_s, up_a, up_i, mp_a, mp_ge, mq_a, mq_ge, cp_a, m1, m2, m3, m4, m5, m6, m7, m8, s0, s2, s3, s4, s5, s6, s11]
          conv => whnf
          refine ⟨sx_ixI (by first | assumption | rfl) (by omega) (by omega), ?_⟩
          try simp (disch := omega) only [Int.cast_ofNat_Int, up_s, up_a, up_i, mp_a, mp_ge, mq_a, mq_ge, cp_a, m1, m2, m3, m4, m5, m6, m7, m8, s0, s2, s3, s4, s5, s6, s11]
          conv => whnf
          refine ⟨(by first | assumption | rfl), ?_⟩
          try simp (disch := omega) only [Int.cast_ofNat_Int, up_s, up_a, up_i, mp_a, mp_ge, mq_a, mq_ge, cp_a, m1, m2, m3, m4, m5, m6, m7, m8, s0, s2, s3, s4, s5, s6, s11]
          conv => whnf
          refine ⟨(by first | assumption | rfl), ?_⟩
          try simp (disch := omega) only [Int.cast_ofNat_Int, up_s, up_a, up_i, mp_a, mp_ge, mq_a, mq_ge, cp_a, m1, m2, m3, m4, m5, m6, m7, m8, s0, s2, s3, s4, s5, s6, s11]
          conv => whnf
          refine ⟨⟨by omega, by omega⟩, ?_⟩
          conv => whnf
          refine ⟨Nat.le_of_ble_eq_true rfl, ?_⟩
          conv => whnf
          refine ⟨sx_ixI (by first | assumption | rfl) (by omega) (by omega), ?_⟩
          conv => whnf
          refine ⟨(by first | assumption | rfl), ?_⟩
          try simp (disch := omega) only [Int.cast_ofNat_Int, up_s, up_a, up_i, mp_a, mp_ge, mq_a, mq_ge, cp_a, m1, m2, m3, m4, m5, m6, m7, m8, s0, s2, s3, s4, s5, s6, s11]
          conv => whnf
          refine ⟨⟨by omega, by omega⟩, ?_⟩
          conv => whnf
          refine ⟨Nat.le_of_ble_eq_true rfl, ?_⟩
          conv => whnf
          refine ⟨Nat.le_of_ble_eq_true rfl, Nat.le_of_ble_eq_true rfl, (by first | assumption | rfl), ?_⟩
          refine c_Mlessen (PT_up hT' k10 (by decide)) hs ⟨by omega, by omega⟩ (by have := fMax0_bd (x - σ (s + 10) i); exact ⟨by first | omega | (show 0 ≤ fMax0 (x - σ (s + 10) i); omega), by first | omega | (show fMax0 (x - σ (s + 10) i) ≤ 1000000; omega)⟩) (by simp (disch := omega) only [up_s, up_a, mp_a, mp_ge]; exact ⟨by omega, by omega⟩) ?_
          try rw [show (sx_up (sx_mp (sx_mp σ (s + 10) i (fMc (σ (s + 9)) (σ (s + 10)) x)) (s + 9) i (fMd (σ (s + 9)) (σ (s + 10)) x)) (s + 10) i (if 0 < σ (s + 10) i - x then σ (s + 10) i - x else 0)) (s + 9) i = σ (s + 9) i by simp (disch := omega) only [up_s, up_a, mp_a, mp_ge]]
          conv => whnf
          refine ⟨(by first | assumption | rfl), ?_⟩
          try simp (disch := omega) only [Int.cast_ofNat_Int, up_s, up_a, up_i, mp_a, mp_ge, mq_a, mq_ge, cp_a, m1, m2, m3, m4, m5, m6, m7, m8, s0, s2, s3, s4, s5, s6, s11]
          conv => whnf
          refine ⟨Nat.le_of_ble_eq_true rfl, Nat.le_of_ble_eq_true rfl, (by first | assumption | rfl), ?_⟩
          refine c_Mlasts (PT_up (PT_up hT' k10 (by decide)) k9 (by decide)) hs (by first | exact hn | (simp (disch := omega) only [up_s, up_a, mp_a, mp_ge]; exact hn)) (fun g1 g2 g3 => ?_) (fun g0 => ?_)
          · try simp (disch := omega) only [up_s, up_a, mp_a, mp_ge] at g3
            conv => whnf
            refine ⟨fun g => ?_, fun g => ?_⟩
            · exact absurd g (by simp [sx_cc])
            · skip
              conv => whnf
              refine ⟨⟨by omega, by omega⟩, ?_⟩
              conv => whnf
              refine ⟨⟨by omega, by omega⟩, ?_⟩
              conv => whnf
              refine ⟨_, ?_, ⟨rfl, _, _, _, rfl, rfl, ?_, rfl⟩⟩
              · omega
              · refine ⟨?_, by omega, by omega, by omega, ?_⟩
                · first | exact mp2_s (by omega) hi0 (if_pos (c := 0 < σ (s + 9) i) (by omega)).symm (if_pos (c := 0 < σ (s + 9) i) (by omega)).symm | exact mp2_n (by omega) hi0 (if_neg (c := 0 < σ (s + 9) i) (by omega)).symm (if_neg (c := 0 < σ (s + 9) i) (by omega)).symm
                · first | exact fCnt_f hi0 (fMg_f (by omega)) hv | (rw [Int.add_zero]; exact fCnt_f hi0 (fMg_n (by rw [(show fMd (σ (s + 9)) (σ (s + 10)) x i = fMax0 (σ (s + 9) i - if 0 < x - σ (s + 10) i then x - σ (s + 10) i else 0) from if_pos (by omega))]; exact g3)) hv) | exact fCnt_t hi0 (fMg_t (by omega) (by rw [(show fMd (σ (s + 9)) (σ (s + 10)) x i = fMax0 (σ (s + 9) i - if 0 < x - σ (s + 10) i then x - σ (s + 10) i else 0) from if_pos (by omega))]; omega)) hv
          · try simp (disch := omega) only [up_s, up_a, mp_a, mp_ge] at g0
            conv => whnf
            refine ⟨fun g => ?_, fun g => ?_⟩
            · skip
              conv => whnf
              refine ⟨⟨by omega, by omega⟩, ?_⟩
              conv => whnf
              refine ⟨⟨by omega, by omega⟩, ?_⟩
              conv => whnf
              refine ⟨_, ?_, ⟨rfl, _, _, _, rfl, rfl, ?_, rfl⟩⟩
              · omega
              · refine ⟨?_, by omega, by omega, by omega, ?_⟩
                · first | exact mp2_s (by omega) hi0 (if_pos (c := 0 < σ (s + 9) i) (by omega)).symm (if_pos (c := 0 < σ (s + 9) i) (by omega)).symm | exact mp2_n (by omega) hi0 (if_neg (c := 0 < σ (s + 9) i) (by omega)).symm (if_neg (c := 0 < σ (s + 9) i) (by omega)).symm
                · first | exact fCnt_f hi0 (fMg_f (by omega)) hv | (rw [Int.add_zero]; exact fCnt_f hi0 (fMg_n (by rw [(show fMd (σ (s + 9)) (σ (s + 10)) x i = fMax0 (σ (s + 9) i - if 0 < x - σ (s + 10) i then x - σ (s + 10) i else 0) from if_pos (by omega))]; exact g3)) hv) | exact fCnt_t hi0 (fMg_t (by omega) (by rw [(show fMd (σ (s + 9)) (σ (s + 10)) x i = fMax0 (σ (s + 9) i - if 0 < x - σ (s + 10) i then x - σ (s + 10) i else 0) from if_pos (by omega))]; omega)) hv
            · exact absurd g (by simp [sx_cc])
      · try simp (disch := omega) only [up_s, up_a, mp_a, mp_ge] at g0
        conv => whnf
        refine ⟨fun g => ?_, fun g => ?_⟩
        · skip
          conv => whnf
          refine ⟨⟨by omega, by omega⟩, ?_⟩
          conv => whnf
          refine ⟨_, ?_, ⟨rfl, _, _, _, rfl, rfl, ?_, rfl⟩⟩
          · omega
          · refine ⟨?_, by omega, by omega, by omega, ?_⟩
            · first | exact mp2_s (by omega) hi0 (if_pos (c := 0 < σ (s + 9) i) (by omega)).symm (if_pos (c := 0 < σ (s + 9) i) (by omega)).symm | exact mp2_n (by omega) hi0 (if_neg (c := 0 < σ (s + 9) i) (by omega)).symm (if_neg (c := 0 < σ (s + 9) i) (by omega)).symm
            · first | exact fCnt_f hi0 (fMg_f (by omega)) hv | (rw [Int.add_zero]; exact fCnt_f hi0 (fMg_n (by rw [(show fMd (σ (s + 9)) (σ (s + 10)) x i = fMax0 (σ (s + 9) i - if 0 < x - σ (s + 10) i then x - σ (s + 10) i else 0) from if_pos (by omega))]; exact g3)) hv) | exact fCnt_t hi0 (fMg_t (by omega) (by rw [(show fMd (σ (s + 9)) (σ (s + 10)) x i = fMax0 (σ (s + 9) i - if 0 < x - σ (s + 10) i then x - σ (s + 10) i else 0) from if_pos (by omega))]; omega)) hv
        · exact absurd g (by simp [sx_cc])
set_option maxRecDepth 20000 in
theorem c_Rthaws (hT : PT σ) {b x : Int} (hb : b = 0 ∨ b = 1) (hn : 0 ≤ σ 154 b ∧ σ 154 b ≤ 90) (hx : 0 ≤ x ∧ x ≤ 999) (hcv : ∀ i : Int, 0 ≤ i → i < σ 154 b → 0 ≤ σ 151 (90 * b + i) ∧ σ 151 (90 * b + i) ≤ 1000000) (hde : ∀ i : Int, 0 ≤ i → i < σ 154 b → 0 ≤ σ 150 (90 * b + i) ∧ σ 150 (90 * b + i) ≤ 1000000) (hsn : 0 ≤ σ 155 b ∧ σ 155 b ≤ 9999) (h : Q (some (.inl (fCnt (fMg (fun j => σ 150 (90 * b + j)) (fun j => σ 151 (90 * b + j)) x) (σ 154 b).toNat))) shM (sx_up (sx_mq (sx_mq σ 151 (90 * b) (σ 154 b) (fMc (fun j => σ 150 (90 * b + j)) (fun j => σ 151 (90 * b + j)) x)) 150 (90 * b) (σ 154 b) (fMd (fun j => σ 150 (90 * b + j)) (fun j => σ 151 (90 * b + j)) x)) 155 b (fMax0 (σ 155 b - x)))) : sx_Run X 245 [.inr (.inr 124), .inl b, .inl x] shM σ Q := by
  have r30 := pt_124_30 hT
  have r31 := pt_124_31 hT
  have r32 := pt_124_32 hT
  have r33 := pt_124_33 hT
  have r34 := pt_124_34 hT
  have r35 := pt_124_35 hT
  have r36 := pt_124_36 hT
  have r37 := pt_124_37 hT
  have r38 := pt_124_38 hT
  have r57 := pt_124_57 hT
  have r58 := pt_124_58 hT
  have r59 := pt_124_59 hT
  have r60 := pt_124_60 hT
  have r61 := pt_124_61 hT
  have r62 := pt_124_62 hT
  have r63 := pt_124_63 hT
  have r64 := pt_124_64 hT
  have r65 := pt_124_65 hT
  have r66 := pt_124_66 hT
  have r67 := pt_124_67 hT
  have r68 := pt_124_68 hT
  have r69 := pt_124_69 hT
  have r70 := pt_124_70 hT
  have r71 := pt_124_71 hT
  refine sx_rule2 (own := 12) (cd := kX12_thaws) (nL := 7) (by decide +kernel) (by decide +kernel) kX12_thaws_ok (by decide +kernel) (Nat.le_of_ble_eq_true rfl) [5] 40 (fun n t L st _ σ' => (t = 5 ∧ ∃ v i : Int, ∃ w5 : Option sx_V, ∃ w6 : Option sx_V, st = [] ∧ L = [some (.inr (.inr (124))), some (.inl (b)), some (.inl (x)), some (.inl (v)), some (.inl (i)), w5, w6] ∧ (σ' = sx_mq (sx_mq σ 151 (90 * b) i (fMc (fun j => σ 150 (90 * b + j)) (fun j => σ 151 (90 * b + j)) x)) 150 (90 * b) i (fMd (fun j => σ 150 (90 * b + j)) (fun j => σ 151 (90 * b + j)) x) ∧ 0 ≤ i ∧ i ≤ σ 154 b ∧ v ≤ i ∧ v = fCnt (fMg (fun j => σ 150 (90 * b + j)) (fun j => σ 151 (90 * b + j)) x) i.toNat) ∧ n = (σ 154 b - i).toNat)) ?_ ?_
  · skip
    conv => whnf
    refine ⟨_, ⟨rfl, _, _, _, _, rfl, rfl, ?_, rfl⟩⟩
    refine ⟨?_, by omega, by omega, by omega, rfl⟩
    rw [mq_0, mq_0]
  · intro n t L st σ' hk
    obtain ⟨rfl, v, i, w5, w6, rfl, rfl, hc, rfl⟩ := hk
    obtain ⟨rfl, hi0, hi1, hv9, hv⟩ := hc
    have hci := hcv i hi0
    have hdi := hde i hi0
    have hle := fCnt_le (fMg (fun j => σ 150 (90 * b + j)) (fun j => σ 151 (90 * b + j)) x) i.toNat
    conv => whnf
    refine ⟨(by first | assumption | rfl), ?_⟩
    try simp (disch := omega) only [Int.cast_ofNat_Int, up_s, up_a, up_i, mp_a, mp_ge, mq_a, mq_ge, cp_a, r30, r31, r32, r33, r34, r35, r36, r37, r38, r57, r58, r59, r60, r61, r62, r63, r64, r65, r66, r67, r68, r69, r70, r71]
    conv => whnf
    refine ⟨sx_ixI (by first | assumption | rfl) (by omega) (by omega), ?_⟩
    try simp (disch := omega) only [Int.cast_ofNat_Int, up_s, up_a, up_i, mp_a, mp_ge, mq_a, mq_ge, cp_a, r30, r31, r32, r33, r34, r35, r36, r37, r38, r57, r58, r59, r60, r61, r62, r63, r64, r65, r66, r67, r68, r69, r70, r71]
    conv => whnf
    refine ⟨fun g => ?_, fun g => ?_⟩
    · simp only [sx_cc, Classical.not_not] at g
      conv => whnf
      refine ⟨(by first | assumption | rfl), ?_⟩
      try simp (disch := omega) only [Int.cast_ofNat_Int, up_s, up_a, up_i, mp_a, mp_ge, mq_a, mq_ge, cp_a, r30, r31, r32, r33, r34, r35, r36, r37, r38, r57, r58, r59, r60, r61, r62, r63, r64, r65, r66, r67, r68, r69, r70, r71]
      conv => whnf
      refine ⟨(by first | assumption | rfl), ?_⟩
      try simp (disch := omega) only [Int.cast_ofNat_Int, up_s, up_a, up_i, mp_a, mp_ge, mq_a, mq_ge, cp_a, r30, r31, r32, r33, r34, r35, r36, r37, r38, r57, r58, r59, r60, r61, r62, r63, r64, r65, r66, r67, r68, r69, r70, r71]
      conv => whnf
      refine ⟨sx_ixI (by first | assumption | rfl) (by omega) (by omega), ?_⟩
      try simp (disch := omega) only [Int.cast_ofNat_Int, up_s, up_a, up_i, mp_a, mp_ge, mq_a, mq_ge, cp_a, r30, r31, r32, r33, r34, r35, r36, r37, r38, r57, r58, r59, r60, r61, r62, r63, r64, r65, r66, r67, r68, r69, r70, r71]
      conv => whnf
      refine ⟨fun g => ?_, fun g => ?_⟩
      · simp only [sx_cc, Classical.not_not] at g
        conv => whnf
        refine ⟨sx_ixI (by first | assumption | rfl) (by omega) (by omega), ?_⟩
        conv => whnf
        refine ⟨fun q9 => by first | (simp at q9; done) | omega, ?_⟩
        have e9 : i = σ 154 b := by omega
        subst e9
        rw [← hv] at h
        refine cast (congrArg (fun z => Q _ shM (sx_up _ 155 b z)) ?_) h
        unfold fMax0
        first | (rw [if_pos (by omega)]; done) | (rw [if_neg (by omega)]; done)
      · simp only [sx_cc, Classical.not_not] at g
        conv => whnf
        refine ⟨(by first | assumption | rfl), ?_⟩
        try simp (disch := omega) only [Int.cast_ofNat_Int, up_s, up_a, up_i, mp_a, mp_ge, mq_a, mq_ge, cp_a, r30, r31, r32, r33, r34, r35, r36, r37, r38, r57, r58, r59, r60, r61, r62, r63, r64, r65, r66, r67, r68, r69, r70, r71]
        conv => whnf
        refine ⟨sx_ixI (by first | assumption | rfl) (by omega) (by omega), ?_⟩
        try simp (disch := omega) only [Int.cast_ofNat_Int, up_s, up_a, up_i, mp_a, mp_ge, mq_a, mq_ge, cp_a, r30, r31, r32, r33, r34, r35, r36, r37, r38, r57, r58, r59, r60, r61, r62, r63, r64, r65, r66, r67, r68, r69, r70, r71]
        conv => whnf
        refine ⟨⟨by omega, by omega⟩, ?_⟩
        conv => whnf
        refine ⟨sx_ixI (by first | assumption | rfl) (by omega) (by omega), ?_⟩
        conv => whnf
        refine ⟨fun q9 => by first | (simp at q9; done) | omega, ?_⟩
        have e9 : i = σ 154 b := by omega
        subst e9
        rw [← hv] at h
        refine cast (congrArg (fun z => Q _ shM (sx_up _ 155 b z)) ?_) h
        unfold fMax0
        first | (rw [if_pos (by omega)]; done) | (rw [if_neg (by omega)]; done)
    · simp only [sx_cc, Classical.not_not] at g
      conv => whnf
      refine ⟨⟨by omega, by omega⟩, ?_⟩
      conv => whnf
      refine ⟨⟨by omega, by omega⟩, ?_⟩
      conv => whnf
      refine ⟨(by first | assumption | rfl), ?_⟩
      try simp (disch := omega) only [Int.cast_ofNat_Int, up_s, up_a, up_i, mp_a, mp_ge, mq_a, mq_ge, cp_a, r30, r31, r32, r33, r34, r35, r36, r37, r38, r57, r58, r59, r60, r61, r62, r63, r64, r65, r66, r67, r68, r69, r70, r71]
      conv => whnf
      refine ⟨sx_ixI (by first | assumption | rfl) (by omega) (by omega), ?_⟩
      try simp (disch := omega) only [Int.cast_ofNat_Int, up_s, up_a, up_i, mp_a, mp_ge, mq_a, mq_ge, cp_a, r30, r31, r32, r33, r34, r35, r36, r37, r38, r57, r58, r59, r60, r61, r62, r63, r64, r65, r66, r67, r68, r69, r70, r71]
      conv => whnf
      refine ⟨fun g => ?_, fun g => ?_⟩
      · simp only [sx_cc, Classical.not_not] at g
        conv => whnf
        refine ⟨(by first | assumption | rfl), ?_⟩
        try simp (disch := omega) only [Int.cast_ofNat_Int, up_s, up_a, up_i, mp_a, mp_ge, mq_a, mq_ge, cp_a, r30, r31, r32, r33, r34, r35, r36, r37, r38, r57, r58, r59, r60, r61, r62, r63, r64, r65, r66, r67, r68, r69, r70, r71]
        conv => whnf
        refine ⟨sx_ixI (by first | assumption | rfl) (by omega) (by omega), ?_⟩
        try simp (disch := omega) only [Int.cast_ofNat_Int, up_s, up_a, up_i, mp_a, mp_ge, mq_a, mq_ge, cp_a, r30, r31, r32, r33, r34, r35, r36, r37, r38, r57, r58, r59, r60, r61, r62, r63, r64, r65, r66, r67, r68, r69, r70, r71]
        conv => whnf
        refine ⟨fun g => ?_, fun g => ?_⟩
        · simp only [sx_cc, Classical.not_not] at g
          conv => whnf
          refine ⟨(by first | assumption | rfl), ?_⟩
          try simp (disch := omega) only [Int.cast_ofNat_Int, up_s, up_a, up_i, mp_a, mp_ge, mq_a, mq_ge, cp_a, r30, r31, r32, r33, r34, r35, r36, r37, r38, r57, r58, r59, r60, r61, r62, r63, r64, r65, r66, r67, r68, r69, r70, r71]
          conv => whnf
          refine ⟨sx_ixI (by first | assumption | rfl) (by omega) (by omega), ?_⟩
          try simp (disch := omega) only [Int.cast_ofNat_Int, up_s, up_a, up_i, mp_a, mp_ge, mq_a, mq_ge, cp_a, r30, r31, r32, r33, r34, r35, r36, r37, r38, r57, r58, r59, r60, r61, r62, r63, r64, r65, r66, r67, r68, r69, r70, r71]
          conv => whnf
          refine ⟨⟨by omega, by omega⟩, ?_⟩
          conv => whnf
          refine ⟨sx_ixI (by first | assumption | rfl) (by omega) (by omega), ?_⟩
          conv => whnf
          refine ⟨(by first | assumption | rfl), ?_⟩
          try simp (disch := omega) only [Int.cast_ofNat_Int, up_s, up_a, up_i, mp_a, mp_ge, mq_a, mq_ge, cp_a, r30, r31, r32, r33, r34, r35, r36, r37, r38, r57, r58, r59, r60, r61, r62, r63, r64, r65, r66, r67, r68, r69, r70, r71]
          conv => whnf
          refine ⟨(by first | assumption | rfl), ?_⟩
          try simp (disch := omega) only [Int.cast_ofNat_Int, up_s, up_a, up_i, mp_a, mp_ge, mq_a, mq_ge, cp_a, r30, r31, r32, r33, r34, r35, r36, r37, r38, r57, r58, r59, r60, r61, r62, r63, r64, r65, r66, r67, r68, r69, r70, r71]
          conv => whnf
          refine ⟨sx_ixI (by first | assumption | rfl) (by omega) (by omega), ?_⟩
          try simp (disch := omega) only [Int.cast_ofNat_Int, up_s, up_a, up_i, mp_a, mp_ge, mq_a, mq_ge, cp_a, r30, r31, r32, r33, r34, r35, r36, r37, r38, r57, r58, r59, r60, r61, r62, r63, r64, r65, r66, r67, r68, r69, r70, r71]
          conv => whnf
          refine ⟨⟨by omega, by omega⟩, ?_⟩
          conv => whnf
          refine ⟨fun g => ?_, fun g => ?_⟩
          · simp only [sx_cc, Classical.not_not] at g
            conv => whnf
            refine ⟨sx_ixI (by first | assumption | rfl) (by omega) (by omega), ?_⟩
            conv => whnf
            refine ⟨(by first | assumption | rfl), ?_⟩
            try simp (disch := omega) only [Int.cast_ofNat_Int, up_s, up_a, up_i, mp_a, mp_ge, mq_a, mq_ge, cp_a, r30, r31, r32, r33, r34, r35, r36, r37, r38, r57, r58, r59, r60, r61, r62, r63, r64, r65, r66, r67, r68, r69, r70, r71]
            conv => whnf
            refine ⟨sx_ixI (by first | assumption | rfl) (by omega) (by omega), ?_⟩
            try simp (disch := omega) only [Int.cast_ofNat_Int, up_s, up_a, up_i, mp_a, mp_ge, mq_a, mq_ge, cp_a, r30, r31, r32, r33, r34, r35, r36, r37, r38, r57, r58, r59, r60, r61, r62, r63, r64, r65, r66, r67, r68, r69, r70, r71]
            conv => whnf
            refine ⟨fun g => ?_, fun g => ?_⟩
            · simp only [sx_cc, Classical.not_not] at g
              conv => whnf
              refine ⟨⟨by omega, by omega⟩, ?_⟩
              conv => whnf
              refine ⟨⟨by omega, by omega⟩, ?_⟩
              conv => whnf
              refine ⟨_, ?_, ⟨rfl, _, _, _, _, rfl, rfl, ?_, rfl⟩⟩
              · omega
              · refine ⟨?_, by omega, by omega, by omega, ?_⟩
                · first | exact mq2_s (by omega) hi0 (by show _ = (if 0 < σ 150 (90 * b + i) then fMax0 (σ 151 (90 * b + i) - x) else σ 151 (90 * b + i)); rw [if_pos (show 0 < σ 150 (90 * b + i) by omega)]; unfold fMax0; split <;> omega) (by show _ = (if 0 < σ 150 (90 * b + i) then fMax0 (σ 150 (90 * b + i) - fMax0 (x - σ 151 (90 * b + i))) else σ 150 (90 * b + i)); rw [if_pos (show 0 < σ 150 (90 * b + i) by omega)]; unfold fMax0; repeat (first | omega | split)) | exact mq2_n (by omega) hi0 (if_neg (c := 0 < σ 150 (90 * b + i)) (by omega)).symm (if_neg (c := 0 < σ 150 (90 * b + i)) (by omega)).symm
                · first | exact absurd trivial g | exact fCnt_f hi0 (fMg_f (show ¬ 0 < σ 150 (90 * b + i) by omega)) hv | (rw [Int.add_zero]; exact fCnt_f hi0 (fMg_n (by rw [(show fMd (fun j => σ 150 (90 * b + j)) (fun j => σ 151 (90 * b + j)) x i = fMax0 (σ 150 (90 * b + i) - fMax0 (x - σ 151 (90 * b + i))) from if_pos (show 0 < σ 150 (90 * b + i) by omega))]; unfold fMax0; repeat (first | omega | split))) hv) | exact fCnt_t hi0 (fMg_t (show 0 < σ 150 (90 * b + i) by omega) (by rw [(show fMd (fun j => σ 150 (90 * b + j)) (fun j => σ 151 (90 * b + j)) x i = fMax0 (σ 150 (90 * b + i) - fMax0 (x - σ 151 (90 * b + i))) from if_pos (show 0 < σ 150 (90 * b + i) by omega))]; unfold fMax0; repeat (first | omega | split))) hv
            · simp only [sx_cc, Classical.not_not] at g
              conv => whnf
              refine ⟨⟨by omega, by omega⟩, ?_⟩
              conv => whnf
              refine ⟨⟨by omega, by omega⟩, ?_⟩
              conv => whnf
              refine ⟨_, ?_, ⟨rfl, _, _, _, _, rfl, rfl, ?_, rfl⟩⟩
              · omega
              · refine ⟨?_, by omega, by omega, by omega, ?_⟩
                · first | exact mq2_s (by omega) hi0 (by show _ = (if 0 < σ 150 (90 * b + i) then fMax0 (σ 151 (90 * b + i) - x) else σ 151 (90 * b + i)); rw [if_pos (show 0 < σ 150 (90 * b + i) by omega)]; unfold fMax0; split <;> omega) (by show _ = (if 0 < σ 150 (90 * b + i) then fMax0 (σ 150 (90 * b + i) - fMax0 (x - σ 151 (90 * b + i))) else σ 150 (90 * b + i)); rw [if_pos (show 0 < σ 150 (90 * b + i) by omega)]; unfold fMax0; repeat (first | omega | split)) | exact mq2_n (by omega) hi0 (if_neg (c := 0 < σ 150 (90 * b + i)) (by omega)).symm (if_neg (c := 0 < σ 150 (90 * b + i)) (by omega)).symm
                · first | exact absurd trivial g | exact fCnt_f hi0 (fMg_f (show ¬ 0 < σ 150 (90 * b + i) by omega)) hv | (rw [Int.add_zero]; exact fCnt_f hi0 (fMg_n (by rw [(show fMd (fun j => σ 150 (90 * b + j)) (fun j => σ 151 (90 * b + j)) x i = fMax0 (σ 150 (90 * b + i) - fMax0 (x - σ 151 (90 * b + i))) from if_pos (show 0 < σ 150 (90 * b + i) by omega))]; unfold fMax0; repeat (first | omega | split))) hv) | exact fCnt_t hi0 (fMg_t (show 0 < σ 150 (90 * b + i) by omega) (by rw [(show fMd (fun j => σ 150 (90 * b + j)) (fun j => σ 151 (90 * b + j)) x i = fMax0 (σ 150 (90 * b + i) - fMax0 (x - σ 151 (90 * b + i))) from if_pos (show 0 < σ 150 (90 * b + i) by omega))]; unfold fMax0; repeat (first | omega | split))) hv
          · simp only [sx_cc, Classical.not_not] at g
            conv => whnf
            refine ⟨(by first | assumption | rfl), ?_⟩
            try simp (disch := omega) only [Int.cast_ofNat_Int, up_s, up_a, up_i, mp_a, mp_ge, mq_a, mq_ge, cp_a, r30, r31, r32, r33, r34, r35, r36, r37, r38, r57, r58, r59, r60, r61, r62, r63, r64, r65, r66, r67, r68, r69, r70, r71]
            conv => whnf
            refine ⟨sx_ixI (by first | assumption | rfl) (by omega) (by omega), ?_⟩
            try simp (disch := omega) only [Int.cast_ofNat_Int, up_s, up_a, up_i, mp_a, mp_ge, mq_a, mq_ge, cp_a, r30, r31, r32, r33, r34, r35, r36, r37, r38, r57, r58, r59, r60, r61, r62, r63, r64, r65, r66, r67, r68, r69, r70, r71]
            conv => whnf
            refine ⟨⟨by omega, by omega⟩, ?_⟩
            conv => whnf
            refine ⟨⟨by omega, by omega⟩, ?_⟩
            conv => whnf
            refine ⟨sx_ixI (by first | assumption | rfl) (by omega) (by omega), ?_⟩
            conv => whnf
            refine ⟨(by first | assumption | rfl), ?_⟩
            try simp (disch := omega) only [Int.cast_ofNat_Int, up_s, up_a, up_i, mp_a, mp_ge, mq_a, mq_ge, cp_a, r30, r31, r32, r33, r34, r35, r36, r37, r38, r57, r58, r59, r60, r61, r62, r63, r64, r65, r66, r67, r68, r69, r70, r71]
            conv => whnf
            refine ⟨sx_ixI (by first | assumption | rfl) (by omega) (by omega), ?_⟩
            try simp (disch := omega) only [Int.cast_ofNat_Int, up_s, up_a, up_i, mp_a, mp_ge, mq_a, mq_ge, cp_a, r30, r31, r32, r33, r34, r35, r36, r37, r38, r57, r58, r59, r60, r61, r62, r63, r64, r65, r66, r67, r68, r69, r70, r71]
            conv => whnf
            refine ⟨fun g => ?_, fun g => ?_⟩
            · simp only [sx_cc, Classical.not_not] at g
              conv => whnf
              refine ⟨⟨by omega, by omega⟩, ?_⟩
              conv => whnf
              refine ⟨⟨by omega, by omega⟩, ?_⟩
              conv => whnf
              refine ⟨_, ?_, ⟨rfl, _, _, _, _, rfl, rfl, ?_, rfl⟩⟩
              · omega
              · refine ⟨?_, by omega, by omega, by omega, ?_⟩
                · first | exact mq2_s (by omega) hi0 (by show _ = (if 0 < σ 150 (90 * b + i) then fMax0 (σ 151 (90 * b + i) - x) else σ 151 (90 * b + i)); rw [if_pos (show 0 < σ 150 (90 * b + i) by omega)]; unfold fMax0; split <;> omega) (by show _ = (if 0 < σ 150 (90 * b + i) then fMax0 (σ 150 (90 * b + i) - fMax0 (x - σ 151 (90 * b + i))) else σ 150 (90 * b + i)); rw [if_pos (show 0 < σ 150 (90 * b + i) by omega)]; unfold fMax0; repeat (first | omega | split)) | exact mq2_n (by omega) hi0 (if_neg (c := 0 < σ 150 (90 * b + i)) (by omega)).symm (if_neg (c := 0 < σ 150 (90 * b + i)) (by omega)).symm
                · first | exact absurd trivial g | exact fCnt_f hi0 (fMg_f (show ¬ 0 < σ 150 (90 * b + i) by omega)) hv | (rw [Int.add_zero]; exact fCnt_f hi0 (fMg_n (by rw [(show fMd (fun j => σ 150 (90 * b + j)) (fun j => σ 151 (90 * b + j)) x i = fMax0 (σ 150 (90 * b + i) - fMax0 (x - σ 151 (90 * b + i))) from if_pos (show 0 < σ 150 (90 * b + i) by omega))]; unfold fMax0; repeat (first | omega | split))) hv) | exact fCnt_t hi0 (fMg_t (show 0 < σ 150 (90 * b + i) by omega) (by rw [(show fMd (fun j => σ 150 (90 * b + j)) (fun j => σ 151 (90 * b + j)) x i = fMax0 (σ 150 (90 * b + i) - fMax0 (x - σ 151 (90 * b + i))) from if_pos (show 0 < σ 150 (90 * b + i) by omega))]; unfold fMax0; repeat (first | omega | split))) hv
            · simp only [sx_cc, Classical.not_not] at g
              conv => whnf
              refine ⟨⟨by omega, by omega⟩, ?_⟩
              conv => whnf
              refine ⟨⟨by omega, by omega⟩, ?_⟩
              conv => whnf
              refine ⟨_, ?_, ⟨rfl, _, _, _, _, rfl, rfl, ?_, rfl⟩⟩
              · omega
              · refine ⟨?_, by omega, by omega, by omega, ?_⟩
                · first | exact mq2_s (by omega) hi0 (by show _ = (if 0 < σ 150 (90 * b + i) then fMax0 (σ 151 (90 * b + i) - x) else σ 151 (90 * b + i)); rw [if_pos (show 0 < σ 150 (90 * b + i) by omega)]; unfold fMax0; split <;> omega) (by show _ = (if 0 < σ 150 (90 * b + i) then fMax0 (σ 150 (90 * b + i) - fMax0 (x - σ 151 (90 * b + i))) else σ 150 (90 * b + i)); rw [if_pos (show 0 < σ 150 (90 * b + i) by omega)]; unfold fMax0; repeat (first | omega | split)) | exact mq2_n (by omega) hi0 (if_neg (c := 0 < σ 150 (90 * b + i)) (by omega)).symm (if_neg (c := 0 < σ 150 (90 * b + i)) (by omega)).symm
                · first | exact absurd trivial g | exact fCnt_f hi0 (fMg_f (show ¬ 0 < σ 150 (90 * b + i) by omega)) hv | (rw [Int.add_zero]; exact fCnt_f hi0 (fMg_n (by rw [(show fMd (fun j => σ 150 (90 * b + j)) (fun j => σ 151 (90 * b + j)) x i = fMax0 (σ 150 (90 * b + i) - fMax0 (x - σ 151 (90 * b + i))) from if_pos (show 0 < σ 150 (90 * b + i) by omega))]; unfold fMax0; repeat (first | omega | split))) hv) | exact fCnt_t hi0 (fMg_t (show 0 < σ 150 (90 * b + i) by omega) (by rw [(show fMd (fun j => σ 150 (90 * b + j)) (fun j => σ 151 (90 * b + j)) x i = fMax0 (σ 150 (90 * b + i) - fMax0 (x - σ 151 (90 * b + i))) from if_pos (show 0 < σ 150 (90 * b + i) by omega))]; unfold fMax0; repeat (first | omega | split))) hv
        · simp only [sx_cc, Classical.not_not] at g
          conv => whnf
          refine ⟨(by first | assumption | rfl), ?_⟩
          try simp (disch := omega) only [Int.cast_ofNat_Int, up_s, up_a, up_i, mp_a, mp_ge, mq_a, mq_ge, cp_a, r30, r31, r32, r33, r34, r35, r36, r37, r38, r57, r58, r59, r60, r61, r62, r63, r64, r65, r66, r67, r68, r69, r70, r71]
          conv => whnf
          refine ⟨sx_ixI (by first | assumption | rfl) (by omega) (by omega), ?_⟩
          try simp (disch := omega) only [Int.cast_ofNat_Int, up_s, up_a, up_i, mp_a, mp_ge, mq_a, mq_ge, cp_a, r30, r31, r32, r33, r34, r35, r36, r37, r38, r57, r58, r59, r60, r61, r62, r63, r64, r65, r66, r67, r68, r69, r70, r71]
          conv => whnf
          refine ⟨(by first | assumption | rfl), ?_⟩
          try simp (disch := omega) only [Int.cast_ofNat_Int, up_s, up_a, up_i, mp_a, mp_ge, mq_a, mq_ge, cp_a, r30, r31, r32, r33, r34, r35, r36, r37, r38, r57, r58, r59, r60, r61, r62, r63, r64, r65, r66, r67, r68, r69, r70, r71]
          conv => whnf
          refine ⟨sx_ixI (by first | assumption | rfl) (by omega) (by omega), ?_⟩
          try simp (disch := omega) only [Int.cast_ofNat_Int, up_s, up_a, up_i, mp_a, mp_ge, mq_a, mq_ge, cp_a, r30, r31, r32, r33, r34, r35, r36, r37, r38, r57, r58, r59, r60, r61, r62, r63, r64, r65, r66, r67, r68, r69, r70, r71]
          conv => whnf
          refine ⟨⟨by omega, by omega⟩, ?_⟩
          conv => whnf
          refine ⟨sx_ixI (by first | assumption | rfl) (by omega) (by omega), ?_⟩
          conv => whnf
          refine ⟨(by first | assumption | rfl), ?_⟩
          try simp (disch := omega) only [Int.cast_ofNat_Int, up_s, up_a, up_i, mp_a, mp_ge, mq_a, mq_ge, cp_a, r30, r31, r32, r33, r34, r35, r36, r37, r38, r57, r58, r59, r60, r61, r62, r63, r64, r65, r66, r67, r68, r69, r70, r71]
          conv => whnf
          refine ⟨(by first | assumption | rfl), ?_⟩
          try simp (disch := omega) only [Int.cast_ofNat_Int, up_s, up_a, up_i, mp_a, mp_ge, mq_a, mq_ge, cp_a, r30, r31, r32, r33, r34, r35, r36, r37, r38, r57, r58, r59, r60, r61, r62, r63, r64, r65, r66, r67, r68, r69, r70, r71]
          conv => whnf
          refine ⟨sx_ixI (by first | assumption | rfl) (by omega) (by omega), ?_⟩
          try simp (disch := omega) only [Int.cast_ofNat_Int, up_s, up_a, up_i, mp_a, mp_ge, mq_a, mq_ge, cp_a, r30, r31, r32, r33, r34, r35, r36, r37, r38, r57, r58, r59, r60, r61, r62, r63, r64, r65, r66, r67, r68, r69, r70, r71]
          conv => whnf
          refine ⟨⟨by omega, by omega⟩, ?_⟩
          conv => whnf
          refine ⟨fun g => ?_, fun g => ?_⟩
          · simp only [sx_cc, Classical.not_not] at g
            conv => whnf
            refine ⟨sx_ixI (by first | assumption | rfl) (by omega) (by omega), ?_⟩
            conv => whnf
            refine ⟨(by first | assumption | rfl), ?_⟩
            try simp (disch := omega) only [Int.cast_ofNat_Int, up_s, up_a, up_i, mp_a, mp_ge, mq_a, mq_ge, cp_a, r30, r31, r32, r33, r34, r35, r36, r37, r38, r57, r58, r59, r60, r61, r62, r63, r64, r65, r66, r67, r68, r69, r70, r71]
            conv => whnf
            refine ⟨sx_ixI (by first | assumption | rfl) (by omega) (by omega), ?_⟩
            try simp (disch := omega) only [Int.cast_ofNat_Int, up_s, up_a, up_i, mp_a, mp_ge, mq_a, mq_ge, cp_a, r30, r31, r32, r33, r34, r35, r36, r37, r38, r57, r58, r59, r60, r61, r62, r63, r64, r65, r66, r67, r68, r69, r70, r71]
            conv => whnf
            refine ⟨fun g => ?_, fun g => ?_⟩
            · simp only [sx_cc, Classical.not_not] at g
              conv => whnf
              refine ⟨⟨by omega, by omega⟩, ?_⟩
              conv => whnf
              refine ⟨⟨by omega, by omega⟩, ?_⟩
              conv => whnf
              refine ⟨_, ?_, ⟨rfl, _, _, _, _, rfl, rfl, ?_, rfl⟩⟩
              · omega
              · refine ⟨?_, by omega, by omega, by omega, ?_⟩
                · first | exact mq2_s (by omega) hi0 (by show _ = (if 0 < σ 150 (90 * b + i) then fMax0 (σ 151 (90 * b + i) - x) else σ 151 (90 * b + i)); rw [if_pos (show 0 < σ 150 (90 * b + i) by omega)]; unfold fMax0; split <;> omega) (by show _ = (if 0 < σ 150 (90 * b + i) then fMax0 (σ 150 (90 * b + i) - fMax0 (x - σ 151 (90 * b + i))) else σ 150 (90 * b + i)); rw [if_pos (show 0 < σ 150 (90 * b + i) by omega)]; unfold fMax0; repeat (first | omega | split)) | exact mq2_n (by omega) hi0 (if_neg (c := 0 < σ 150 (90 * b + i)) (by omega)).symm (if_neg (c := 0 < σ 150 (90 * b + i)) (by omega)).symm
                · first | exact absurd trivial g | exact fCnt_f hi0 (fMg_f (show ¬ 0 < σ 150 (90 * b + i) by omega)) hv | (rw [Int.add_zero]; exact fCnt_f hi0 (fMg_n (by rw [(show fMd (fun j => σ 150 (90 * b + j)) (fun j => σ 151 (90 * b + j)) x i = fMax0 (σ 150 (90 * b + i) - fMax0 (x - σ 151 (90 * b + i))) from if_pos (show 0 < σ 150 (90 * b + i) by omega))]; unfold fMax0; repeat (first | omega | split))) hv) | exact fCnt_t hi0 (fMg_t (show 0 < σ 150 (90 * b + i) by omega) (by rw [(show fMd (fun j => σ 150 (90 * b + j)) (fun j => σ 151 (90 * b + j)) x i = fMax0 (σ 150 (90 * b + i) - fMax0 (x - σ 151 (90 * b + i))) from if_pos (show 0 < σ 150 (90 * b + i) by omega))]; unfold fMax0; repeat (first | omega | split))) hv
            · simp only [sx_cc, Classical.not_not] at g
              conv => whnf
              refine ⟨⟨by omega, by omega⟩, ?_⟩
              conv => whnf
              refine ⟨⟨by omega, by omega⟩, ?_⟩
              conv => whnf
              refine ⟨_, ?_, ⟨rfl, _, _, _, _, rfl, rfl, ?_, rfl⟩⟩
              · omega
              · refine ⟨?_, by omega, by omega, by omega, ?_⟩
                · first | exact mq2_s (by omega) hi0 (by show _ = (if 0 < σ 150 (90 * b + i) then fMax0 (σ 151 (90 * b + i) - x) else σ 151 (90 * b + i)); rw [if_pos (show 0 < σ 150 (90 * b + i) by omega)]; unfold fMax0; split <;> omega) (by show _ = (if 0 < σ 150 (90 * b + i) then fMax0 (σ 150 (90 * b + i) - fMax0 (x - σ 151 (90 * b + i))) else σ 150 (90 * b + i)); rw [if_pos (show 0 < σ 150 (90 * b + i) by omega)]; unfold fMax0; repeat (first | omega | split)) | exact mq2_n (by omega) hi0 (if_neg (c := 0 < σ 150 (90 * b + i)) (by omega)).symm (if_neg (c := 0 < σ 150 (90 * b + i)) (by omega)).symm
                · first | exact absurd trivial g | exact fCnt_f hi0 (fMg_f (show ¬ 0 < σ 150 (90 * b + i) by omega)) hv | (rw [Int.add_zero]; exact fCnt_f hi0 (fMg_n (by rw [(show fMd (fun j => σ 150 (90 * b + j)) (fun j => σ 151 (90 * b + j)) x i = fMax0 (σ 150 (90 * b + i) - fMax0 (x - σ 151 (90 * b + i))) from if_pos (show 0 < σ 150 (90 * b + i) by omega))]; unfold fMax0; repeat (first | omega | split))) hv) | exact fCnt_t hi0 (fMg_t (show 0 < σ 150 (90 * b + i) by omega) (by rw [(show fMd (fun j => σ 150 (90 * b + j)) (fun j => σ 151 (90 * b + j)) x i = fMax0 (σ 150 (90 * b + i) - fMax0 (x - σ 151 (90 * b + i))) from if_pos (show 0 < σ 150 (90 * b + i) by omega))]; unfold fMax0; repeat (first | omega | split))) hv
          · simp only [sx_cc, Classical.not_not] at g
            conv => whnf
            refine ⟨(by first | assumption | rfl), ?_⟩
            try simp (disch := omega) only [Int.cast_ofNat_Int, up_s, up_a, up_i, mp_a, mp_ge, mq_a, mq_ge, cp_a, r30, r31, r32, r33, r34, r35, r36, r37, r38, r57, r58, r59, r60, r61, r62, r63, r64, r65, r66, r67, r68, r69, r70, r71]
            conv => whnf
            refine ⟨sx_ixI (by first | assumption | rfl) (by omega) (by omega), ?_⟩
            try simp (disch := omega) only [Int.cast_ofNat_Int, up_s, up_a, up_i, mp_a, mp_ge, mq_a, mq_ge, cp_a, r30, r31, r32, r33, r34, r35, r36, r37, r38, r57, r58, r59, r60, r61, r62, r63, r64, r65, r66, r67, r68, r69, r70, r71]
            conv => whnf
            refine ⟨⟨by omega, by omega⟩, ?_⟩
            conv => whnf
            refine ⟨⟨by omega, by omega⟩, ?_⟩
            conv => whnf
            refine ⟨sx_ixI (by first | assumption | rfl) (by omega) (by omega), ?_⟩
            conv => whnf
            refine ⟨(by first | assumption | rfl), ?_⟩
            try simp (disch := omega) only [Int.cast_ofNat_Int, up_s, up_a, up_i, mp_a, mp_ge, mq_a, mq_ge, cp_a, r30, r31, r32, r33, r34, r35, r36, r37, r38, r57, r58, r59, r60, r61, r62, r63, r64, r65, r66, r67, r68, r69, r70, r71]
            conv => whnf
            refine ⟨sx_ixI (by first | assumption | rfl) (by omega) (by omega), ?_⟩
            try simp (disch := omega) only [Int.cast_ofNat_Int, up_s, up_a, up_i, mp_a, mp_ge, mq_a, mq_ge, cp_a, r30, r31, r32, r33, r34, r35, r36, r37, r38, r57, r58, r59, r60, r61, r62, r63, r64, r65, r66, r67, r68, r69, r70, r71]
            conv => whnf
            refine ⟨fun g => ?_, fun g => ?_⟩
            · simp only [sx_cc, Classical.not_not] at g
              conv => whnf
              refine ⟨⟨by omega, by omega⟩, ?_⟩
              conv => whnf
              refine ⟨⟨by omega, by omega⟩, ?_⟩
              conv => whnf
              refine ⟨_, ?_, ⟨rfl, _, _, _, _, rfl, rfl, ?_, rfl⟩⟩
              · omega
              · refine ⟨?_, by omega, by omega, by omega, ?_⟩
                · first | exact mq2_s (by omega) hi0 (by show _ = (if 0 < σ 150 (90 * b + i) then fMax0 (σ 151 (90 * b + i) - x) else σ 151 (90 * b + i)); rw [if_pos (show 0 < σ 150 (90 * b + i) by omega)]; unfold fMax0; split <;> omega) (by show _ = (if 0 < σ 150 (90 * b + i) then fMax0 (σ 150 (90 * b + i) - fMax0 (x - σ 151 (90 * b + i))) else σ 150 (90 * b + i)); rw [if_pos (show 0 < σ 150 (90 * b + i) by omega)]; unfold fMax0; repeat (first | omega | split)) | exact mq2_n (by omega) hi0 (if_neg (c := 0 < σ 150 (90 * b + i)) (by omega)).symm (if_neg (c := 0 < σ 150 (90 * b + i)) (by omega)).symm
                · first | exact absurd trivial g | exact fCnt_f hi0 (fMg_f (show ¬ 0 < σ 150 (90 * b + i) by omega)) hv | (rw [Int.add_zero]; exact fCnt_f hi0 (fMg_n (by rw [(show fMd (fun j => σ 150 (90 * b + j)) (fun j => σ 151 (90 * b + j)) x i = fMax0 (σ 150 (90 * b + i) - fMax0 (x - σ 151 (90 * b + i))) from if_pos (show 0 < σ 150 (90 * b + i) by omega))]; unfold fMax0; repeat (first | omega | split))) hv) | exact fCnt_t hi0 (fMg_t (show 0 < σ 150 (90 * b + i) by omega) (by rw [(show fMd (fun j => σ 150 (90 * b + j)) (fun j => σ 151 (90 * b + j)) x i = fMax0 (σ 150 (90 * b + i) - fMax0 (x - σ 151 (90 * b + i))) from if_pos (show 0 < σ 150 (90 * b + i) by omega))]; unfold fMax0; repeat (first | omega | split))) hv
            · simp only [sx_cc, Classical.not_not] at g
              conv => whnf
              refine ⟨⟨by omega, by omega⟩, ?_⟩
              conv => whnf
              refine ⟨⟨by omega, by omega⟩, ?_⟩
              conv => whnf
              refine ⟨_, ?_, ⟨rfl, _, _, _, _, rfl, rfl, ?_, rfl⟩⟩
              · omega
              · refine ⟨?_, by omega, by omega, by omega, ?_⟩
                · first | exact mq2_s (by omega) hi0 (by show _ = (if 0 < σ 150 (90 * b + i) then fMax0 (σ 151 (90 * b + i) - x) else σ 151 (90 * b + i)); rw [if_pos (show 0 < σ 150 (90 * b + i) by omega)]; unfold fMax0; split <;> omega) (by show _ = (if 0 < σ 150 (90 * b + i) then fMax0 (σ 150 (90 * b + i) - fMax0 (x - σ 151 (90 * b + i))) else σ 150 (90 * b + i)); rw [if_pos (show 0 < σ 150 (90 * b + i) by omega)]; unfold fMax0; repeat (first | omega | split)) | exact mq2_n (by omega) hi0 (if_neg (c := 0 < σ 150 (90 * b + i)) (by omega)).symm (if_neg (c := 0 < σ 150 (90 * b + i)) (by omega)).symm
                · first | exact absurd trivial g | exact fCnt_f hi0 (fMg_f (show ¬ 0 < σ 150 (90 * b + i) by omega)) hv | (rw [Int.add_zero]; exact fCnt_f hi0 (fMg_n (by rw [(show fMd (fun j => σ 150 (90 * b + j)) (fun j => σ 151 (90 * b + j)) x i = fMax0 (σ 150 (90 * b + i) - fMax0 (x - σ 151 (90 * b + i))) from if_pos (show 0 < σ 150 (90 * b + i) by omega))]; unfold fMax0; repeat (first | omega | split))) hv) | exact fCnt_t hi0 (fMg_t (show 0 < σ 150 (90 * b + i) by omega) (by rw [(show fMd (fun j => σ 150 (90 * b + j)) (fun j => σ 151 (90 * b + j)) x i = fMax0 (σ 150 (90 * b + i) - fMax0 (x - σ 151 (90 * b + i))) from if_pos (show 0 < σ 150 (90 * b + i) by omega))]; unfold fMax0; repeat (first | omega | split))) hv
      · simp only [sx_cc, Classical.not_not] at g
        conv => whnf
        refine ⟨⟨by omega, by omega⟩, ?_⟩
        conv => whnf
        refine ⟨_, ?_, ⟨rfl, _, _, _, _, rfl, rfl, ?_, rfl⟩⟩
        · omega
        · refine ⟨?_, by omega, by omega, by omega, ?_⟩
          · first | exact mq2_s (by omega) hi0 (by show _ = (if 0 < σ 150 (90 * b + i) then fMax0 (σ 151 (90 * b + i) - x) else σ 151 (90 * b + i)); rw [if_pos (show 0 < σ 150 (90 * b + i) by omega)]; unfold fMax0; split <;> omega) (by show _ = (if 0 < σ 150 (90 * b + i) then fMax0 (σ 150 (90 * b + i) - fMax0 (x - σ 151 (90 * b + i))) else σ 150 (90 * b + i)); rw [if_pos (show 0 < σ 150 (90 * b + i) by omega)]; unfold fMax0; repeat (first | omega | split)) | exact mq2_n (by omega) hi0 (if_neg (c := 0 < σ 150 (90 * b + i)) (by omega)).symm (if_neg (c := 0 < σ 150 (90 * b + i)) (by omega)).symm
          · first | exact absurd trivial g | exact fCnt_f hi0 (fMg_f (show ¬ 0 < σ 150 (90 * b + i) by omega)) hv | (rw [Int.add_zero]; exact fCnt_f hi0 (fMg_n (by rw [(show fMd (fun j => σ 150 (90 * b + j)) (fun j => σ 151 (90 * b + j)) x i = fMax0 (σ 150 (90 * b + i) - fMax0 (x - σ 151 (90 * b + i))) from if_pos (show 0 < σ 150 (90 * b + i) by omega))]; unfold fMax0; repeat (first | omega | split))) hv) | exact fCnt_t hi0 (fMg_t (show 0 < σ 150 (90 * b + i) by omega) (by rw [(show fMd (fun j => σ 150 (90 * b + j)) (fun j => σ 151 (90 * b + j)) x i = fMax0 (σ 150 (90 * b + i) - fMax0 (x - σ 151 (90 * b + i))) from if_pos (show 0 < σ 150 (90 * b + i) by omega))]; unfold fMax0; repeat (first | omega | split))) hv
end SXW6
