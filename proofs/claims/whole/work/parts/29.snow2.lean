/-! SNOW: readAll (by wip/whole) -/
section SXW2
variable {X : sx_X} {σ : sx_S} {s p : Int} {Q : sx_R}
/-- one more is counted: at c alone the second says yes where the first says no -/
theorem fCnt_one {b b' : Int → Bool} {c : Int} (hc : 0 ≤ c) (h1 : b c = false) (h2 : b' c = true) (ho : ∀ i : Int, ¬ i = c → b' i = b i) : ∀ n : Nat, fCnt b' n = fCnt b n + (if c < n then 1 else 0)
  | 0 => by
    show (0 : Int) = 0 + _
    rw [if_neg (by omega)]
    rfl
  | n + 1 => by
    have ih := fCnt_one hc h1 h2 ho n
    show fCnt b' n + (if b' (n : Int) = true then 1 else 0) = (fCnt b n + (if b (n : Int) = true then 1 else 0)) + (if c < ((n + 1 : Nat) : Int) then 1 else 0)
    by_cases e : (n : Int) = c
    · have q1 : ¬ c < (n : Int) := by omega
      have q2 : c < ((n + 1 : Nat) : Int) := by omega
      rw [ih, if_neg q1, if_pos q2, e, h1, h2]
      simp
    · rw [ho _ e, ih]
      by_cases e2 : c < (n : Int)
      · have q2 : c < ((n + 1 : Nat) : Int) := by omega
        rw [if_pos e2, if_pos q2]
        omega
      · have q2 : ¬ c < ((n + 1 : Nat) : Int) := by omega
        rw [if_neg e2, if_neg q2]
        omega
/-- a mark that is open is at most the one that is read in its cell -/
theorem fTop_ge {cell deep cov : Int → Int} {i : Int} (h0 : 0 ≤ i) (hd : 0 < deep i) (hc : cov i = 0) : ∀ n : Nat, i < n → i ≤ fTop cell deep cov (cell i) n
  | 0, h => by omega
  | n + 1, h => by
    have e : fTop cell deep cov (cell i) (n + 1) = if 0 < deep (n : Int) ∧ cov (n : Int) = 0 ∧ cell (n : Int) = cell i then (n : Int) else fTop cell deep cov (cell i) n := rfl
    rw [e]
    split
    · omega
    · rename_i q
      by_cases e2 : i = n
      · subst e2; exact absurd ⟨hd, hc, rfl⟩ q
      · exact fTop_ge h0 hd hc n (by omega)
/-- what is read in each cell, of the marks from m + 1 on -/
def fRd (cell deep cov : Int → Int) (n : Nat) (m : Int) : Int → Int := fun c => if m < fTop cell deep cov c n then fTop cell deep cov c n else -1
def fRs (cell deep cov : Int → Int) (n : Nat) (m : Int) : Int := fCnt (fun c => decide (m < fTop cell deep cov c n)) 48
theorem fRd_no {cell deep cov : Int → Int} {n : Nat} {i : Int} (h0 : 0 ≤ i) (hn : i < n) (h : ¬ (0 < deep i ∧ cov i = 0) ∨ ¬ fTop cell deep cov (cell i) n = i) (c : Int) : ¬ fTop cell deep cov c n = i := by
  intro z
  have h1 := fTop_is (cell := cell) (deep := deep) (cov := cov) (c := c) n (by omega)
  rw [z] at h1
  rcases h with h | h
  · exact h ⟨h1.1, h1.2.1⟩
  · rw [h1.2.2] at h; exact h z
theorem fRd_step {cell deep cov : Int → Int} {n : Nat} {i : Int} (h0 : 0 ≤ i) (hn : i < n) (h : ¬ (0 < deep i ∧ cov i = 0) ∨ ¬ fTop cell deep cov (cell i) n = i) : fRd cell deep cov n (i - 1) = fRd cell deep cov n i ∧ fRs cell deep cov n (i - 1) = fRs cell deep cov n i := by
  have key := fRd_no h0 hn h
  constructor
  · funext c
    have := key c
    unfold fRd
    by_cases q : i < fTop cell deep cov c n
    · rw [if_pos q, if_pos (by omega)]
    · rw [if_neg q, if_neg (by omega)]
  · unfold fRs
    refine fCnt_cg (fun c _ _ => ?_)
    have := key c
    by_cases q : i < fTop cell deep cov c n
    · rw [decide_eq_true q, decide_eq_true (by omega)]
    · rw [decide_eq_false q, decide_eq_false (by omega)]
theorem fRd_take {cell deep cov : Int → Int} {n : Nat} {i : Int} (h0 : 0 ≤ i) (hn : i < n) (hd : 0 < deep i) (hc : cov i = 0) (hce : 0 ≤ cell i ∧ cell i < 48) (h : ¬ i < fTop cell deep cov (cell i) n) : (∀ c : Int, fRd cell deep cov n (i - 1) c = if c = cell i then i else fRd cell deep cov n i c) ∧ fRs cell deep cov n (i - 1) = fRs cell deep cov n i + 1 := by
  have h1 := fTop_ge (cell := cell) h0 hd hc n hn
  have h2 : fTop cell deep cov (cell i) n = i := by omega
  have other : ∀ c : Int, ¬ c = cell i → ¬ fTop cell deep cov c n = i := by
    intro c e z
    have h3 := fTop_is (cell := cell) (deep := deep) (cov := cov) (c := c) n (by omega)
    rw [z] at h3
    exact e h3.2.2.symm
  constructor
  · intro c
    unfold fRd
    by_cases e : c = cell i
    · rw [if_pos e, e, h2, if_pos (by omega)]
    · have := other c e
      rw [if_neg e]
      by_cases q : i < fTop cell deep cov c n
      · rw [if_pos q, if_pos (by omega)]
      · rw [if_neg q, if_neg (by omega)]
  · unfold fRs
    have := fCnt_one (b := fun c => decide (i < fTop cell deep cov c n)) (b' := fun c => decide (i - 1 < fTop cell deep cov c n)) (c := cell i) hce.1 (by rw [h2]; simp) (by rw [h2]; simp; omega) (fun c e => by
      have h5 := other c e
      by_cases q : i < fTop cell deep cov c n
      · rw [decide_eq_true q, decide_eq_true (by omega)]
      · rw [decide_eq_false q, decide_eq_false (by omega)]) 48
    rw [this, if_pos (by omega)]
theorem mp_cg {σ : sx_S} {a n : Int} {f g : Int → Int} (h : ∀ i : Int, 0 ≤ i → i < n → f i = g i) : sx_mp σ a n f = sx_mp σ a n g := by
  funext a' i
  unfold sx_mp
  by_cases e : a' = a ∧ 0 ≤ i ∧ i < n
  · rw [if_pos e, if_pos e, h i e.2.1 e.2.2]
  · rw [if_neg e, if_neg e]
theorem up_mp_in {σ : sx_S} {a n i v : Int} {f : Int → Int} (h0 : 0 ≤ i) (h1 : i < n) : sx_up (sx_mp σ a n f) a i v = sx_mp σ a n (fun j => if j = i then v else f j) := by
  funext a' j
  by_cases e : a' = a <;> by_cases e2 : j = i <;> simp [sx_up, sx_mp, e, e2, h0, h1]
theorem fil_mp (σ : sx_S) (a n v : Int) : sx_fil σ a n v = sx_mp σ a n (fun _ => v) := rfl
set_option maxRecDepth 20000 in
theorem c_Sreadall (hT : PT σ) (hs : isS s) (hn : 0 ≤ σ (s + 4) 0 ∧ σ (s + 4) 0 ≤ 90) (hce : ∀ i : Int, 0 ≤ i → i < σ (s + 4) 0 → 0 ≤ σ (s + 6) i ∧ σ (s + 6) i < 48) (h : Q (some (.inl (fRs (σ (s + 6)) (σ (s + 9)) (σ (s + 10)) (σ (s + 4) 0).toNat (-1)))) shM (sx_mp σ (s + 14) 48 (fRd (σ (s + 6)) (σ (s + 9)) (σ (s + 10)) (σ (s + 4) 0).toNat (-1)))) : sx_Run X 92 [.inr (.inr s)] shM σ Q := by
  have k0 := lkS0 hs
  have k1 := lkS1 hs
  have k2 := lkS2 hs
  have k3 := lkS3 hs
  have k4 := lkS4 hs
  have k5 := lkS5 hs
  have k6 := lkS6 hs
  have k7 := lkS7 hs
  have k8 := lkS8 hs
  have k9 := lkS9 hs
  have k10 := lkS10 hs
  have k11 := lkS11 hs
  have k12 := lkS12 hs
  have k13 := lkS13 hs
  have k14 := lkS14 hs
  have m1 := ptM_1 hT hs
  have m2 := ptM_2 hT hs
  have m3 := ptM_3 hT hs
  have m4 := ptM_4 hT hs
  have m5 := ptM_5 hT hs
  have m6 := ptM_6 hT hs
  have m7 := ptM_7 hT hs
  have m8 := ptM_8 hT hs
  have s0 := ptS_0 hT hs
  have s2 := ptS_2 hT hs
  have s3 := ptS_3 hT hs
  have s4 := ptS_4 hT hs
  have s5 := ptS_5 hT hs
  have s6 := ptS_6 hT hs
  have s11 := ptS_11 hT hs
  refine sx_rule2 (own := 9) (cd := kX9_readAll) (nL := 3) (by decide +kernel) (by decide +kernel) kX9_readAll_ok (by decide +kernel) (Nat.le_of_ble_eq_true rfl) [20] 40 (fun n t L st _ σ' => (t = 20 ∧ ∃ v i : Int, st = [] ∧ L = [some (.inr (.inr (s))), some (.inl (v)), some (.inl (i))] ∧ (σ' = sx_mp σ (s + 14) 48 (fRd (σ (s + 6)) (σ (s + 9)) (σ (s + 10)) (σ (s + 4) 0).toNat i) ∧ -1 ≤ i ∧ i < σ (s + 4) 0 ∧ v = fRs (σ (s + 6)) (σ (s + 9)) (σ (s + 10)) (σ (s + 4) 0).toNat i) ∧ n = (i + 1).toNat)) ?_ ?_
  · skip
    conv => whnf
    refine ⟨(by first | assumption | rfl), ?_⟩
    try simp (disch := omega) only [Int.cast_ofNat_Int, up_s, up_a, up_i, mp_a, mp_ge, cp_a, m1, m2, m3, m4, m5, m6, m7, m8, s0, s2, s3, s4, s5, s6, s11, fil_a]
    conv => whnf
    refine ⟨Nat.le_of_ble_eq_true rfl, Nat.le_of_ble_eq_true rfl, ?_⟩
    refine c_fill k14 (by omega) ?_
    conv => whnf
    refine ⟨(by first | assumption | rfl), ?_⟩
    try simp (disch := omega) only [Int.cast_ofNat_Int, up_s, up_a, up_i, mp_a, mp_ge, cp_a, m1, m2, m3, m4, m5, m6, m7, m8, s0, s2, s3, s4, s5, s6, s11, fil_a]
    conv => whnf
    refine ⟨(by first | assumption | rfl), ?_⟩
    try simp (disch := omega) only [Int.cast_ofNat_Int, up_s, up_a, up_i, mp_a, mp_ge, cp_a, m1, m2, m3, m4, m5, m6, m7, m8, s0, s2, s3, s4, s5, s6, s11, fil_a]
    conv => whnf
    refine ⟨⟨by omega, by omega⟩, ?_⟩
    conv => whnf
    refine ⟨_, ⟨rfl, _, _, rfl, rfl, ?_, rfl⟩⟩
    refine ⟨?_, by omega, by omega, ?_⟩
    · rw [fil_mp]
      refine mp_cg (fun c _ _ => ?_)
      have hb := fTop_lt (σ (s + 6)) (σ (s + 9)) (σ (s + 10)) c (σ (s + 4) 0).toNat
      unfold fRd
      rw [if_neg (by omega)]
    · have e0 : fRs (σ (s + 6)) (σ (s + 9)) (σ (s + 10)) (σ (s + 4) 0).toNat (σ (s + 4) 0 - 1) = fCnt (fun _ => false) 48 := by
        unfold fRs
        refine fCnt_cg (fun c _ _ => ?_)
        have hb := fTop_lt (σ (s + 6)) (σ (s + 9)) (σ (s + 10)) c (σ (s + 4) 0).toNat
        exact decide_eq_false (by omega)
      rw [e0]
      rfl
  · intro n t L st σ' hk
    obtain ⟨rfl, v, i, rfl, rfl, hc, rfl⟩ := hk
    obtain ⟨rfl, hi0, hi1, hv⟩ := hc
    have hb48 := fCnt_le (fun c => decide (i < fTop (σ (s + 6)) (σ (s + 9)) (σ (s + 10)) c (σ (s + 4) 0).toNat)) 48
    have hvb : 0 ≤ v ∧ v ≤ 48 := by subst hv; exact hb48
    conv => whnf
    refine ⟨fun g => ?_, fun g => ?_⟩
    · simp only [sx_cc, Classical.not_not] at g
      conv => whnf
      refine ⟨fun q9 => by first | (simp at q9; done) | omega, ?_⟩
      have e9 : i = -1 := by omega
      subst e9
      subst hv
      exact h
    · simp only [sx_cc, Classical.not_not] at g
      conv => whnf
      refine ⟨(by first | assumption | rfl), ?_⟩
      try simp (disch := omega) only [Int.cast_ofNat_Int, up_s, up_a, up_i, mp_a, mp_ge, cp_a, m1, m2, m3, m4, m5, m6, m7, m8, s0, s2, s3, s4, s5, s6, s11, fil_a]
      conv => whnf
      refine ⟨Nat.le_of_ble_eq_true rfl, Nat.le_of_ble_eq_true rfl, (by first | assumption | rfl), ?_⟩
      have hT9 : PT (sx_mp σ (s + 14) 48 (fRd (σ (s + 6)) (σ (s + 9)) (σ (s + 10)) (σ (s + 4) 0).toNat i)) := PT_mp hT k14 ⟨by omega, by omega⟩
      have z4 : (sx_mp σ (s + 14) 48 (fRd (σ (s + 6)) (σ (s + 9)) (σ (s + 10)) (σ (s + 4) 0).toNat i)) (s + 4) 0 = σ (s + 4) 0 := mp_a (by omega)
      refine c_Mopen hT9 hs (by rw [z4]; exact hn) (fun g1 g2 g3 g4 => ?_) (fun g0 => ?_)
      · rw [mp_a (by omega)] at g3 g4
        try rw [mp_a (by omega)] at g4
        conv => whnf
        refine ⟨fun g => ?_, fun g => ?_⟩
        · exact absurd g (by simp [sx_cc])
        · skip
          conv => whnf
          refine ⟨(by first | assumption | rfl), ?_⟩
          try simp (disch := omega) only [Int.cast_ofNat_Int, up_s, up_a, up_i, mp_a, mp_ge, cp_a, m1, m2, m3, m4, m5, m6, m7, m8, s0, s2, s3, s4, s5, s6, s11, fil_a]
          conv => whnf
          refine ⟨(by first | assumption | rfl), ?_⟩
          try simp (disch := omega) only [Int.cast_ofNat_Int, up_s, up_a, up_i, mp_a, mp_ge, cp_a, m1, m2, m3, m4, m5, m6, m7, m8, s0, s2, s3, s4, s5, s6, s11, fil_a]
          conv => whnf
          refine ⟨(by first | assumption | rfl), ?_⟩
          try simp (disch := omega) only [Int.cast_ofNat_Int, up_s, up_a, up_i, mp_a, mp_ge, cp_a, m1, m2, m3, m4, m5, m6, m7, m8, s0, s2, s3, s4, s5, s6, s11, fil_a]
          conv => whnf
          refine ⟨sx_ixI (by first | assumption | rfl) (by first | omega | (have := hce i (by omega) (by omega); omega)) (by first | omega | (have := hce i (by omega) (by omega); omega)), ?_⟩
          try simp (disch := omega) only [Int.cast_ofNat_Int, up_s, up_a, up_i, mp_a, mp_ge, cp_a, m1, m2, m3, m4, m5, m6, m7, m8, s0, s2, s3, s4, s5, s6, s11, fil_a]
          conv => whnf
          refine ⟨sx_ixI (by first | assumption | rfl) (by first | omega | (have := hce i (by omega) (by omega); omega)) (by first | omega | (have := hce i (by omega) (by omega); omega)), ?_⟩
          try simp (disch := omega) only [Int.cast_ofNat_Int, up_s, up_a, up_i, mp_a, mp_ge, cp_a, m1, m2, m3, m4, m5, m6, m7, m8, s0, s2, s3, s4, s5, s6, s11, fil_a]
          conv => whnf
          refine ⟨fun g => ?_, fun g => ?_⟩
          · simp only [sx_cc, Classical.not_not] at g
            conv => whnf
            refine ⟨⟨by omega, by omega⟩, ?_⟩
            conv => whnf
            refine ⟨_, ?_, ⟨rfl, _, _, rfl, rfl, ?_, rfl⟩⟩
            · omega
            · first
                | (have e5 := fRd_step (cell := σ (s + 6)) (deep := σ (s + 9)) (cov := σ (s + 10)) (n := (σ (s + 4) 0).toNat) (i := i) (by omega) (by omega) (Or.inl (by omega))
                   exact ⟨by rw [show i + -1 = i - 1 by omega, e5.1], by omega, by omega, by rw [show i + -1 = i - 1 by omega, e5.2]; exact hv⟩)
                | (have hci := hce i (by omega) (by omega)
                   rw [mp_in hci.1 hci.2] at g
                   have e5 := fRd_take (cell := σ (s + 6)) (deep := σ (s + 9)) (cov := σ (s + 10)) (n := (σ (s + 4) 0).toNat) (i := i) (by omega) (by omega) g3 g4 (hce i (by omega) (by omega)) (by intro z; unfold fRd at g; rw [if_pos z] at g; omega)
                   exact ⟨by rw [up_mp_in (hce i (by omega) (by omega)).1 (hce i (by omega) (by omega)).2, show i + -1 = i - 1 by omega]; exact mp_cg (fun c _ _ => (e5.1 c).symm), by omega, by omega, by rw [show i + -1 = i - 1 by omega, e5.2]; omega⟩)
                | (have hci := hce i (by omega) (by omega)
                   rw [mp_in hci.1 hci.2] at g
                   have e6 : i < fTop (σ (s + 6)) (σ (s + 9)) (σ (s + 10)) (σ (s + 6) i) (σ (s + 4) 0).toNat := by
                     rcases Int.lt_or_le i (fTop (σ (s + 6)) (σ (s + 9)) (σ (s + 10)) (σ (s + 6) i) (σ (s + 4) 0).toNat) with z | z
                     · exact z
                     · exact absurd (by unfold fRd; rw [if_neg (by omega)]) g
                   have e5 := fRd_step (cell := σ (s + 6)) (deep := σ (s + 9)) (cov := σ (s + 10)) (n := (σ (s + 4) 0).toNat) (i := i) (by omega) (by omega) (Or.inr (by omega))
                   exact ⟨by rw [show i + -1 = i - 1 by omega, e5.1], by omega, by omega, by rw [show i + -1 = i - 1 by omega, e5.2]; exact hv⟩)
          · simp only [sx_cc, Classical.not_not] at g
            conv => whnf
            refine ⟨(by first | assumption | rfl), ?_⟩
            try simp (disch := omega) only [Int.cast_ofNat_Int, up_s, up_a, up_i, mp_a, mp_ge, cp_a, m1, m2, m3, m4, m5, m6, m7, m8, s0, s2, s3, s4, s5, s6, s11, fil_a]
            conv => whnf
            refine ⟨(by first | assumption | rfl), ?_⟩
            try simp (disch := omega) only [Int.cast_ofNat_Int, up_s, up_a, up_i, mp_a, mp_ge, cp_a, m1, m2, m3, m4, m5, m6, m7, m8, s0, s2, s3, s4, s5, s6, s11, fil_a]
            conv => whnf
            refine ⟨(by first | assumption | rfl), ?_⟩
            try simp (disch := omega) only [Int.cast_ofNat_Int, up_s, up_a, up_i, mp_a, mp_ge, cp_a, m1, m2, m3, m4, m5, m6, m7, m8, s0, s2, s3, s4, s5, s6, s11, fil_a]
            conv => whnf
            refine ⟨sx_ixI (by first | assumption | rfl) (by first | omega | (have := hce i (by omega) (by omega); omega)) (by first | omega | (have := hce i (by omega) (by omega); omega)), ?_⟩
            try simp (disch := omega) only [Int.cast_ofNat_Int, up_s, up_a, up_i, mp_a, mp_ge, cp_a, m1, m2, m3, m4, m5, m6, m7, m8, s0, s2, s3, s4, s5, s6, s11, fil_a]
            conv => whnf
            refine ⟨sx_ixI (by first | assumption | rfl) (by first | omega | (have := hce i (by omega) (by omega); omega)) (by first | omega | (have := hce i (by omega) (by omega); omega)), ?_⟩
            conv => whnf
            refine ⟨⟨by omega, by omega⟩, ?_⟩
            conv => whnf
            refine ⟨⟨by omega, by omega⟩, ?_⟩
            conv => whnf
            refine ⟨_, ?_, ⟨rfl, _, _, rfl, rfl, ?_, rfl⟩⟩
            · omega
            · first
                | (have e5 := fRd_step (cell := σ (s + 6)) (deep := σ (s + 9)) (cov := σ (s + 10)) (n := (σ (s + 4) 0).toNat) (i := i) (by omega) (by omega) (Or.inl (by omega))
                   exact ⟨by rw [show i + -1 = i - 1 by omega, e5.1], by omega, by omega, by rw [show i + -1 = i - 1 by omega, e5.2]; exact hv⟩)
                | (have hci := hce i (by omega) (by omega)
                   rw [mp_in hci.1 hci.2] at g
                   have e5 := fRd_take (cell := σ (s + 6)) (deep := σ (s + 9)) (cov := σ (s + 10)) (n := (σ (s + 4) 0).toNat) (i := i) (by omega) (by omega) g3 g4 (hce i (by omega) (by omega)) (by intro z; unfold fRd at g; rw [if_pos z] at g; omega)
                   exact ⟨by rw [up_mp_in (hce i (by omega) (by omega)).1 (hce i (by omega) (by omega)).2, show i + -1 = i - 1 by omega]; exact mp_cg (fun c _ _ => (e5.1 c).symm), by omega, by omega, by rw [show i + -1 = i - 1 by omega, e5.2]; omega⟩)
                | (have hci := hce i (by omega) (by omega)
                   rw [mp_in hci.1 hci.2] at g
                   have e6 : i < fTop (σ (s + 6)) (σ (s + 9)) (σ (s + 10)) (σ (s + 6) i) (σ (s + 4) 0).toNat := by
                     rcases Int.lt_or_le i (fTop (σ (s + 6)) (σ (s + 9)) (σ (s + 10)) (σ (s + 6) i) (σ (s + 4) 0).toNat) with z | z
                     · exact z
                     · exact absurd (by unfold fRd; rw [if_neg (by omega)]) g
                   have e5 := fRd_step (cell := σ (s + 6)) (deep := σ (s + 9)) (cov := σ (s + 10)) (n := (σ (s + 4) 0).toNat) (i := i) (by omega) (by omega) (Or.inr (by omega))
                   exact ⟨by rw [show i + -1 = i - 1 by omega, e5.1], by omega, by omega, by rw [show i + -1 = i - 1 by omega, e5.2]; exact hv⟩)
      · rw [mp_a (by omega), mp_a (by omega), mp_a (by omega)] at g0
        conv => whnf
        refine ⟨fun g => ?_, fun g => ?_⟩
        · skip
          conv => whnf
          refine ⟨⟨by omega, by omega⟩, ?_⟩
          conv => whnf
          refine ⟨_, ?_, ⟨rfl, _, _, rfl, rfl, ?_, rfl⟩⟩
          · omega
          · first
              | (have e5 := fRd_step (cell := σ (s + 6)) (deep := σ (s + 9)) (cov := σ (s + 10)) (n := (σ (s + 4) 0).toNat) (i := i) (by omega) (by omega) (Or.inl (by omega))
                 exact ⟨by rw [show i + -1 = i - 1 by omega, e5.1], by omega, by omega, by rw [show i + -1 = i - 1 by omega, e5.2]; exact hv⟩)
              | (have hci := hce i (by omega) (by omega)
                 rw [mp_in hci.1 hci.2] at g
                 have e5 := fRd_take (cell := σ (s + 6)) (deep := σ (s + 9)) (cov := σ (s + 10)) (n := (σ (s + 4) 0).toNat) (i := i) (by omega) (by omega) g3 g4 (hce i (by omega) (by omega)) (by intro z; unfold fRd at g; rw [if_pos z] at g; omega)
                 exact ⟨by rw [up_mp_in (hce i (by omega) (by omega)).1 (hce i (by omega) (by omega)).2, show i + -1 = i - 1 by omega]; exact mp_cg (fun c _ _ => (e5.1 c).symm), by omega, by omega, by rw [show i + -1 = i - 1 by omega, e5.2]; omega⟩)
              | (have hci := hce i (by omega) (by omega)
                 rw [mp_in hci.1 hci.2] at g
                 have e6 : i < fTop (σ (s + 6)) (σ (s + 9)) (σ (s + 10)) (σ (s + 6) i) (σ (s + 4) 0).toNat := by
                   rcases Int.lt_or_le i (fTop (σ (s + 6)) (σ (s + 9)) (σ (s + 10)) (σ (s + 6) i) (σ (s + 4) 0).toNat) with z | z
                   · exact z
                   · exact absurd (by unfold fRd; rw [if_neg (by omega)]) g
                 have e5 := fRd_step (cell := σ (s + 6)) (deep := σ (s + 9)) (cov := σ (s + 10)) (n := (σ (s + 4) 0).toNat) (i := i) (by omega) (by omega) (Or.inr (by omega))
                 exact ⟨by rw [show i + -1 = i - 1 by omega, e5.1], by omega, by omega, by rw [show i + -1 = i - 1 by omega, e5.2]; exact hv⟩)
        · exact absurd g (by simp [sx_cc])
end SXW2
