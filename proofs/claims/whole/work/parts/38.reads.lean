/-! READS: mark, cell, read; fall, thaw (by wip/whole) -/
section SXW8
variable {X : sx_X} {σ σ0 : sx_S} {s p : Int} {Q : sx_R}
def aMk (n : Int) (look cell way born deep cov own blur : Int → Int) (k q : Int) : Int := if 0 ≤ k ∧ k < n then (if q = 0 then look k else if q = 1 then cell k else if q = 2 then way k else if q = 3 then born k else if q = 4 then deep k else if q = 5 then cov k else if q = 6 then own k else if q = 7 then blur k else -1) else -1
def aCe (w h n : Int) (ground kind cell deep cov : Int → Int) (c q : Int) : Int := if 0 ≤ c ∧ c < w * h then (if q = 0 then ground c else if q = 1 then kind c else if q = 2 then fCnt (fun i => decide (0 < deep i ∧ cell i = c)) n.toNat else if q = 3 then fTop cell deep cov c n.toNat else -2) else -2
def aRd (w h n : Int) (look cell deep cov blur : Int → Int) (c : Int) : Int := if 0 ≤ c ∧ c < w * h then (if fTop cell deep cov c n.toNat = -1 then -2 else if blur (fTop cell deep cov c n.toNat) = 0 then look (fTop cell deep cov c n.toNat) else -3) else -1
set_option maxRecDepth 20000 in
theorem c_mark (hT : PT σ) (hs : isS s) (hn : 0 ≤ σ (s + 4) 0 ∧ σ (s + 4) 0 ≤ 90) (e6 : σ 0 6 = s) (e2 : σ 0 2 = p) {k q : Int} (h : Q (some (.inl (aMk (σ (s + 4) 0) (σ (s + 5)) (σ (s + 6)) (σ (s + 7)) (σ (s + 8)) (σ (s + 9)) (σ (s + 10)) (σ (s + 11)) (σ (s + 12)) k q))) shM σ) : sx_Run X 130 [.inr (.inr 0), .inl k, .inl q] shM σ Q := by
  have k0 := lkS0 hs
  have k4 := lkS4 hs
  have k5 := lkS5 hs
  have k6 := lkS6 hs
  have k7 := lkS7 hs
  have k8 := lkS8 hs
  have k9 := lkS9 hs
  have k10 := lkS10 hs
  have k11 := lkS11 hs
  have k12 := lkS12 hs
  have m1 := ptM_1 hT hs
  have m2 := ptM_2 hT hs
  have m3 := ptM_3 hT hs
  have m4 := ptM_4 hT hs
  have m5 := ptM_5 hT hs
  have m6 := ptM_6 hT hs
  have m7 := ptM_7 hT hs
  have m8 := ptM_8 hT hs
  have s5 := ptS_5 hT hs
  refine sx_rule0 (own := 11) (cd := kX11_mark) (nL := 4) (by decide +kernel) (by decide +kernel) kX11_mark_ok (by decide +kernel) (Nat.le_of_ble_eq_true rfl) 40 ?_
  conv => whnf
  refine ⟨(by first | assumption | rfl), ?_⟩
  try simp (disch := omega) only [Int.cast_ofNat_Int, up_s, up_a, up_i, mp_a, mp_ge, mq_a, mq_ge, cp_a, e6, e2, s5, m1, m2, m3, m4, m5, m6, m7, m8]
  conv => whnf
  refine ⟨(by first | assumption | rfl), ?_⟩
  try simp (disch := omega) only [Int.cast_ofNat_Int, up_s, up_a, up_i, mp_a, mp_ge, mq_a, mq_ge, cp_a, e6, e2, s5, m1, m2, m3, m4, m5, m6, m7, m8]
  conv => whnf
  refine ⟨Nat.le_of_ble_eq_true rfl, Nat.le_of_ble_eq_true rfl, (by first | assumption | rfl), ?_⟩
  refine c_Mhas hs (fun g1 g2 => ?_) (fun g0 => ?_)
  · skip
    conv => whnf
    refine ⟨fun g => ?_, fun g => ?_⟩
    · skip
      conv => whnf
      refine ⟨fun g => ?_, ?_⟩
      · skip
        conv => whnf
        refine ⟨fun q9 => by first | (simp at q9; done) | omega, ?_⟩
        exact q_to h (by unfold aMk; repeat (first | rw [if_pos (by omega)] | rw [if_neg (by omega)]))
      conv => whnf
      refine ⟨fun g => ?_, ?_⟩
      · skip
        conv => whnf
        refine ⟨(by first | assumption | rfl), ?_⟩
        try simp (disch := omega) only [Int.cast_ofNat_Int, up_s, up_a, up_i, mp_a, mp_ge, mq_a, mq_ge, cp_a, e6, e2, s5, m1, m2, m3, m4, m5, m6, m7, m8]
        conv => whnf
        refine ⟨sx_ixI (by first | assumption | rfl) (by omega) (by omega), ?_⟩
        try simp (disch := omega) only [Int.cast_ofNat_Int, up_s, up_a, up_i, mp_a, mp_ge, mq_a, mq_ge, cp_a, e6, e2, s5, m1, m2, m3, m4, m5, m6, m7, m8]
        conv => whnf
        refine ⟨fun q9 => by first | (simp at q9; done) | omega, ?_⟩
        exact q_to h (by unfold aMk; repeat (first | rw [if_pos (by omega)] | rw [if_neg (by omega)]))
      conv => whnf
      refine ⟨fun g => ?_, ?_⟩
      · skip
        conv => whnf
        refine ⟨(by first | assumption | rfl), ?_⟩
        try simp (disch := omega) only [Int.cast_ofNat_Int, up_s, up_a, up_i, mp_a, mp_ge, mq_a, mq_ge, cp_a, e6, e2, s5, m1, m2, m3, m4, m5, m6, m7, m8]
        conv => whnf
        refine ⟨sx_ixI (by first | assumption | rfl) (by omega) (by omega), ?_⟩
        try simp (disch := omega) only [Int.cast_ofNat_Int, up_s, up_a, up_i, mp_a, mp_ge, mq_a, mq_ge, cp_a, e6, e2, s5, m1, m2, m3, m4, m5, m6, m7, m8]
        conv => whnf
        refine ⟨fun q9 => by first | (simp at q9; done) | omega, ?_⟩
        exact q_to h (by unfold aMk; repeat (first | rw [if_pos (by omega)] | rw [if_neg (by omega)]))
      conv => whnf
      refine ⟨fun g => ?_, ?_⟩
      · skip
        conv => whnf
        refine ⟨(by first | assumption | rfl), ?_⟩
        try simp (disch := omega) only [Int.cast_ofNat_Int, up_s, up_a, up_i, mp_a, mp_ge, mq_a, mq_ge, cp_a, e6, e2, s5, m1, m2, m3, m4, m5, m6, m7, m8]
        conv => whnf
        refine ⟨sx_ixI (by first | assumption | rfl) (by omega) (by omega), ?_⟩
        try simp (disch := omega) only [Int.cast_ofNat_Int, up_s, up_a, up_i, mp_a, mp_ge, mq_a, mq_ge, cp_a, e6, e2, s5, m1, m2, m3, m4, m5, m6, m7, m8]
        conv => whnf
        refine ⟨fun q9 => by first | (simp at q9; done) | omega, ?_⟩
        exact q_to h (by unfold aMk; repeat (first | rw [if_pos (by omega)] | rw [if_neg (by omega)]))
      conv => whnf
      refine ⟨fun g => ?_, ?_⟩
      · skip
        conv => whnf
        refine ⟨(by first | assumption | rfl), ?_⟩
        try simp (disch := omega) only [Int.cast_ofNat_Int, up_s, up_a, up_i, mp_a, mp_ge, mq_a, mq_ge, cp_a, e6, e2, s5, m1, m2, m3, m4, m5, m6, m7, m8]
        conv => whnf
        refine ⟨sx_ixI (by first | assumption | rfl) (by omega) (by omega), ?_⟩
        try simp (disch := omega) only [Int.cast_ofNat_Int, up_s, up_a, up_i, mp_a, mp_ge, mq_a, mq_ge, cp_a, e6, e2, s5, m1, m2, m3, m4, m5, m6, m7, m8]
        conv => whnf
        refine ⟨fun q9 => by first | (simp at q9; done) | omega, ?_⟩
        exact q_to h (by unfold aMk; repeat (first | rw [if_pos (by omega)] | rw [if_neg (by omega)]))
      conv => whnf
      refine ⟨fun g => ?_, ?_⟩
      · skip
        conv => whnf
        refine ⟨(by first | assumption | rfl), ?_⟩
        try simp (disch := omega) only [Int.cast_ofNat_Int, up_s, up_a, up_i, mp_a, mp_ge, mq_a, mq_ge, cp_a, e6, e2, s5, m1, m2, m3, m4, m5, m6, m7, m8]
        conv => whnf
        refine ⟨sx_ixI (by first | assumption | rfl) (by omega) (by omega), ?_⟩
        try simp (disch := omega) only [Int.cast_ofNat_Int, up_s, up_a, up_i, mp_a, mp_ge, mq_a, mq_ge, cp_a, e6, e2, s5, m1, m2, m3, m4, m5, m6, m7, m8]
        conv => whnf
        refine ⟨fun q9 => by first | (simp at q9; done) | omega, ?_⟩
        exact q_to h (by unfold aMk; repeat (first | rw [if_pos (by omega)] | rw [if_neg (by omega)]))
      conv => whnf
      refine ⟨fun g => ?_, ?_⟩
      · skip
        conv => whnf
        refine ⟨(by first | assumption | rfl), ?_⟩
        try simp (disch := omega) only [Int.cast_ofNat_Int, up_s, up_a, up_i, mp_a, mp_ge, mq_a, mq_ge, cp_a, e6, e2, s5, m1, m2, m3, m4, m5, m6, m7, m8]
        conv => whnf
        refine ⟨sx_ixI (by first | assumption | rfl) (by omega) (by omega), ?_⟩
        try simp (disch := omega) only [Int.cast_ofNat_Int, up_s, up_a, up_i, mp_a, mp_ge, mq_a, mq_ge, cp_a, e6, e2, s5, m1, m2, m3, m4, m5, m6, m7, m8]
        conv => whnf
        refine ⟨fun q9 => by first | (simp at q9; done) | omega, ?_⟩
        exact q_to h (by unfold aMk; repeat (first | rw [if_pos (by omega)] | rw [if_neg (by omega)]))
      conv => whnf
      refine ⟨fun g => ?_, ?_⟩
      · skip
        conv => whnf
        refine ⟨(by first | assumption | rfl), ?_⟩
        try simp (disch := omega) only [Int.cast_ofNat_Int, up_s, up_a, up_i, mp_a, mp_ge, mq_a, mq_ge, cp_a, e6, e2, s5, m1, m2, m3, m4, m5, m6, m7, m8]
        conv => whnf
        refine ⟨sx_ixI (by first | assumption | rfl) (by omega) (by omega), ?_⟩
        try simp (disch := omega) only [Int.cast_ofNat_Int, up_s, up_a, up_i, mp_a, mp_ge, mq_a, mq_ge, cp_a, e6, e2, s5, m1, m2, m3, m4, m5, m6, m7, m8]
        conv => whnf
        refine ⟨fun q9 => by first | (simp at q9; done) | omega, ?_⟩
        exact q_to h (by unfold aMk; repeat (first | rw [if_pos (by omega)] | rw [if_neg (by omega)]))
      conv => whnf
      refine ⟨fun g => ?_, ?_⟩
      · skip
        conv => whnf
        refine ⟨(by first | assumption | rfl), ?_⟩
        try simp (disch := omega) only [Int.cast_ofNat_Int, up_s, up_a, up_i, mp_a, mp_ge, mq_a, mq_ge, cp_a, e6, e2, s5, m1, m2, m3, m4, m5, m6, m7, m8]
        conv => whnf
        refine ⟨sx_ixI (by first | assumption | rfl) (by omega) (by omega), ?_⟩
        try simp (disch := omega) only [Int.cast_ofNat_Int, up_s, up_a, up_i, mp_a, mp_ge, mq_a, mq_ge, cp_a, e6, e2, s5, m1, m2, m3, m4, m5, m6, m7, m8]
        conv => whnf
        refine ⟨fun q9 => by first | (simp at q9; done) | omega, ?_⟩
        exact q_to h (by unfold aMk; repeat (first | rw [if_pos (by omega)] | rw [if_neg (by omega)]))
      exact trivial
    · exact absurd g (by simp [sx_cc])
  · skip
    conv => whnf
    refine ⟨fun g => ?_, fun g => ?_⟩
    · exact absurd g (by simp [sx_cc])
    · skip
      conv => whnf
      refine ⟨fun q9 => by first | (simp at q9; done) | omega, ?_⟩
      exact q_to h (by unfold aMk; repeat (first | rw [if_pos (by omega)] | rw [if_neg (by omega)]))
set_option maxRecDepth 20000 in
theorem c_cell (hT : PT σ) (hs : isS s) (hn : 0 ≤ σ (s + 4) 0 ∧ σ (s + 4) 0 ≤ 90) (hp : isP p) (hd : PD σ p) (e6 : σ 0 6 = s) (e2 : σ 0 2 = p) {c q : Int} (h : Q (some (.inl (aCe (σ p 0) (σ p 1) (σ (s + 4) 0) (σ (p + 2)) (σ (p + 1)) (σ (s + 6)) (σ (s + 9)) (σ (s + 10)) c q))) shM σ) : sx_Run X 129 [.inr (.inr 0), .inl c, .inl q] shM σ Q := by
  have k0 := lkS0 hs
  have k4 := lkS4 hs
  have k5 := lkS5 hs
  have k6 := lkS6 hs
  have k7 := lkS7 hs
  have k8 := lkS8 hs
  have k9 := lkS9 hs
  have k10 := lkS10 hs
  have k11 := lkS11 hs
  have k12 := lkS12 hs
  have m1 := ptM_1 hT hs
  have m2 := ptM_2 hT hs
  have m3 := ptM_3 hT hs
  have m4 := ptM_4 hT hs
  have m5 := ptM_5 hT hs
  have m6 := ptM_6 hT hs
  have m7 := ptM_7 hT hs
  have m8 := ptM_8 hT hs
  have s5 := ptS_5 hT hs
  have q0 := lkP0 hp
  have q1 := lkP1 hp
  have q2 := lkP2 hp
  have t2 := ptP_2 hT hp
  have t3 := ptP_3 hT hp
  have hwm := hd.mul
  refine sx_rule0 (own := 11) (cd := kX11_cell) (nL := 3) (by decide +kernel) (by decide +kernel) kX11_cell_ok (by decide +kernel) (Nat.le_of_ble_eq_true rfl) 40 ?_
  conv => whnf
  refine ⟨(by first | assumption | rfl), ?_⟩
  try simp (disch := omega) only [Int.cast_ofNat_Int, up_s, up_a, up_i, mp_a, mp_ge, mq_a, mq_ge, cp_a, e6, e2, s5, m1, m2, m3, m4, m5, m6, m7, m8, t2, t3]
  conv => whnf
  refine ⟨Nat.le_of_ble_eq_true rfl, Nat.le_of_ble_eq_true rfl, (by first | assumption | rfl), ?_⟩
  refine c_Phascell hp hd (fun g1 g2 => ?_) (fun g0 => ?_)
  · skip
    conv => whnf
    refine ⟨fun g => ?_, fun g => ?_⟩
    · skip
      conv => whnf
      refine ⟨fun g => ?_, ?_⟩
      · skip
        conv => whnf
        refine ⟨fun q9 => by first | (simp at q9; done) | omega, ?_⟩
        exact q_to h (by unfold aCe; repeat (first | rw [if_pos (by omega)] | rw [if_neg (by omega)]))
      conv => whnf
      refine ⟨fun g => ?_, ?_⟩
      · skip
        conv => whnf
        refine ⟨(by first | assumption | rfl), ?_⟩
        try simp (disch := omega) only [Int.cast_ofNat_Int, up_s, up_a, up_i, mp_a, mp_ge, mq_a, mq_ge, cp_a, e6, e2, s5, m1, m2, m3, m4, m5, m6, m7, m8, t2, t3]
        conv => whnf
        refine ⟨(by first | assumption | rfl), ?_⟩
        try simp (disch := omega) only [Int.cast_ofNat_Int, up_s, up_a, up_i, mp_a, mp_ge, mq_a, mq_ge, cp_a, e6, e2, s5, m1, m2, m3, m4, m5, m6, m7, m8, t2, t3]
        conv => whnf
        refine ⟨sx_ixI (by first | assumption | rfl) (by omega) (by omega), ?_⟩
        try simp (disch := omega) only [Int.cast_ofNat_Int, up_s, up_a, up_i, mp_a, mp_ge, mq_a, mq_ge, cp_a, e6, e2, s5, m1, m2, m3, m4, m5, m6, m7, m8, t2, t3]
        conv => whnf
        refine ⟨fun q9 => by first | (simp at q9; done) | omega, ?_⟩
        exact q_to h (by unfold aCe; repeat (first | rw [if_pos (by omega)] | rw [if_neg (by omega)]))
      conv => whnf
      refine ⟨fun g => ?_, ?_⟩
      · skip
        conv => whnf
        refine ⟨(by first | assumption | rfl), ?_⟩
        try simp (disch := omega) only [Int.cast_ofNat_Int, up_s, up_a, up_i, mp_a, mp_ge, mq_a, mq_ge, cp_a, e6, e2, s5, m1, m2, m3, m4, m5, m6, m7, m8, t2, t3]
        conv => whnf
        refine ⟨(by first | assumption | rfl), ?_⟩
        try simp (disch := omega) only [Int.cast_ofNat_Int, up_s, up_a, up_i, mp_a, mp_ge, mq_a, mq_ge, cp_a, e6, e2, s5, m1, m2, m3, m4, m5, m6, m7, m8, t2, t3]
        conv => whnf
        refine ⟨sx_ixI (by first | assumption | rfl) (by omega) (by omega), ?_⟩
        try simp (disch := omega) only [Int.cast_ofNat_Int, up_s, up_a, up_i, mp_a, mp_ge, mq_a, mq_ge, cp_a, e6, e2, s5, m1, m2, m3, m4, m5, m6, m7, m8, t2, t3]
        conv => whnf
        refine ⟨fun q9 => by first | (simp at q9; done) | omega, ?_⟩
        exact q_to h (by unfold aCe; repeat (first | rw [if_pos (by omega)] | rw [if_neg (by omega)]))
      conv => whnf
      refine ⟨fun g => ?_, ?_⟩
      · skip
        conv => whnf
        refine ⟨(by first | assumption | rfl), ?_⟩
        try simp (disch := omega) only [Int.cast_ofNat_Int, up_s, up_a, up_i, mp_a, mp_ge, mq_a, mq_ge, cp_a, e6, e2, s5, m1, m2, m3, m4, m5, m6, m7, m8, t2, t3]
        conv => whnf
        refine ⟨(by first | assumption | rfl), ?_⟩
        try simp (disch := omega) only [Int.cast_ofNat_Int, up_s, up_a, up_i, mp_a, mp_ge, mq_a, mq_ge, cp_a, e6, e2, s5, m1, m2, m3, m4, m5, m6, m7, m8, t2, t3]
        conv => whnf
        refine ⟨Nat.le_of_ble_eq_true rfl, Nat.le_of_ble_eq_true rfl, (by first | assumption | rfl), ?_⟩
        refine c_MlastIn hT hs hn ?_
        conv => whnf
        refine ⟨fun q9 => by first | (simp at q9; done) | omega, ?_⟩
        exact q_to h (by unfold aCe; repeat (first | rw [if_pos (by omega)] | rw [if_neg (by omega)]))
      conv => whnf
      refine ⟨fun g => ?_, ?_⟩
      · skip
        conv => whnf
        refine ⟨(by first | assumption | rfl), ?_⟩
        try simp (disch := omega) only [Int.cast_ofNat_Int, up_s, up_a, up_i, mp_a, mp_ge, mq_a, mq_ge, cp_a, e6, e2, s5, m1, m2, m3, m4, m5, m6, m7, m8, t2, t3]
        conv => whnf
        refine ⟨(by first | assumption | rfl), ?_⟩
        try simp (disch := omega) only [Int.cast_ofNat_Int, up_s, up_a, up_i, mp_a, mp_ge, mq_a, mq_ge, cp_a, e6, e2, s5, m1, m2, m3, m4, m5, m6, m7, m8, t2, t3]
        conv => whnf
        refine ⟨Nat.le_of_ble_eq_true rfl, Nat.le_of_ble_eq_true rfl, (by first | assumption | rfl), ?_⟩
        refine c_MreadIn hT hs hn ?_
        have hft := fTop_lt (σ (s + 6)) (σ (s + 9)) (σ (s + 10)) c (σ (s + 4) 0).toNat
        conv => whnf
        refine ⟨fun q9 => by first | (simp at q9; done) | omega, ?_⟩
        exact q_to h (by unfold aCe; repeat (first | rw [if_pos (by omega)] | rw [if_neg (by omega)]))
      exact trivial
    · exact absurd g (by simp [sx_cc])
  · skip
    conv => whnf
    refine ⟨fun g => ?_, fun g => ?_⟩
    · exact absurd g (by simp [sx_cc])
    · skip
      conv => whnf
      refine ⟨fun q9 => by first | (simp at q9; done) | omega, ?_⟩
      exact q_to h (by unfold aCe; repeat (first | rw [if_pos (by omega)] | rw [if_neg (by omega)]))
set_option maxRecDepth 20000 in
theorem c_read (hT : PT σ) (hs : isS s) (hn : 0 ≤ σ (s + 4) 0 ∧ σ (s + 4) 0 ≤ 90) (hp : isP p) (hd : PD σ p) (e6 : σ 0 6 = s) (e2 : σ 0 2 = p) {c : Int} (h : Q (some (.inl (aRd (σ p 0) (σ p 1) (σ (s + 4) 0) (σ (s + 5)) (σ (s + 6)) (σ (s + 9)) (σ (s + 10)) (σ (s + 12)) c))) shM σ) : sx_Run X 140 [.inr (.inr 0), .inl c] shM σ Q := by
  have k0 := lkS0 hs
  have k4 := lkS4 hs
  have k5 := lkS5 hs
  have k6 := lkS6 hs
  have k7 := lkS7 hs
  have k8 := lkS8 hs
  have k9 := lkS9 hs
  have k10 := lkS10 hs
  have k11 := lkS11 hs
  have k12 := lkS12 hs
  have m1 := ptM_1 hT hs
  have m2 := ptM_2 hT hs
  have m3 := ptM_3 hT hs
  have m4 := ptM_4 hT hs
  have m5 := ptM_5 hT hs
  have m6 := ptM_6 hT hs
  have m7 := ptM_7 hT hs
  have m8 := ptM_8 hT hs
  have s5 := ptS_5 hT hs
  have q0 := lkP0 hp
  have q1 := lkP1 hp
  have q2 := lkP2 hp
  have t2 := ptP_2 hT hp
  have t3 := ptP_3 hT hp
  have hwm := hd.mul
  refine sx_rule0 (own := 11) (cd := kX11_read) (nL := 3) (by decide +kernel) (by decide +kernel) kX11_read_ok (by decide +kernel) (Nat.le_of_ble_eq_true rfl) 40 ?_
  conv => whnf
  refine ⟨(by first | assumption | rfl), ?_⟩
  try simp (disch := omega) only [Int.cast_ofNat_Int, up_s, up_a, up_i, mp_a, mp_ge, mq_a, mq_ge, cp_a, e6, e2, s5, m1, m2, m3, m4, m5, m6, m7, m8, t2, t3]
  conv => whnf
  refine ⟨Nat.le_of_ble_eq_true rfl, Nat.le_of_ble_eq_true rfl, (by first | assumption | rfl), ?_⟩
  refine c_Phascell hp hd (fun g1 g2 => ?_) (fun g0 => ?_)
  · skip
    conv => whnf
    refine ⟨fun g => ?_, fun g => ?_⟩
    · skip
      conv => whnf
      refine ⟨(by first | assumption | rfl), ?_⟩
      try simp (disch := omega) only [Int.cast_ofNat_Int, up_s, up_a, up_i, mp_a, mp_ge, mq_a, mq_ge, cp_a, e6, e2, s5, m1, m2, m3, m4, m5, m6, m7, m8, t2, t3]
      conv => whnf
      refine ⟨(by first | assumption | rfl), ?_⟩
      try simp (disch := omega) only [Int.cast_ofNat_Int, up_s, up_a, up_i, mp_a, mp_ge, mq_a, mq_ge, cp_a, e6, e2, s5, m1, m2, m3, m4, m5, m6, m7, m8, t2, t3]
      conv => whnf
      refine ⟨Nat.le_of_ble_eq_true rfl, Nat.le_of_ble_eq_true rfl, (by first | assumption | rfl), ?_⟩
      refine c_MreadIn hT hs hn ?_
      have hft := fTop_lt (σ (s + 6)) (σ (s + 9)) (σ (s + 10)) c (σ (s + 4) 0).toNat
      conv => whnf
      refine ⟨fun g => ?_, fun g => ?_⟩
      · simp only [sx_cc, Classical.not_not] at g
        conv => whnf
        refine ⟨(by first | assumption | rfl), ?_⟩
        try simp (disch := omega) only [Int.cast_ofNat_Int, up_s, up_a, up_i, mp_a, mp_ge, mq_a, mq_ge, cp_a, e6, e2, s5, m1, m2, m3, m4, m5, m6, m7, m8, t2, t3]
        conv => whnf
        refine ⟨(by first | assumption | rfl), ?_⟩
        try simp (disch := omega) only [Int.cast_ofNat_Int, up_s, up_a, up_i, mp_a, mp_ge, mq_a, mq_ge, cp_a, e6, e2, s5, m1, m2, m3, m4, m5, m6, m7, m8, t2, t3]
        conv => whnf
        refine ⟨(by first | assumption | rfl), ?_⟩
        try simp (disch := omega) only [Int.cast_ofNat_Int, up_s, up_a, up_i, mp_a, mp_ge, mq_a, mq_ge, cp_a, e6, e2, s5, m1, m2, m3, m4, m5, m6, m7, m8, t2, t3]
        conv => whnf
        refine ⟨sx_ixI (by first | assumption | rfl) (by omega) (by omega), ?_⟩
        try simp (disch := omega) only [Int.cast_ofNat_Int, up_s, up_a, up_i, mp_a, mp_ge, mq_a, mq_ge, cp_a, e6, e2, s5, m1, m2, m3, m4, m5, m6, m7, m8, t2, t3]
        conv => whnf
        refine ⟨fun g => ?_, fun g => ?_⟩
        · simp only [sx_cc, Classical.not_not] at g
          conv => whnf
          refine ⟨fun q9 => by first | (simp at q9; done) | omega, ?_⟩
          exact q_to h (by unfold aRd; repeat (first | rw [if_pos (by omega)] | rw [if_neg (by omega)]))
        · simp only [sx_cc, Classical.not_not] at g
          conv => whnf
          refine ⟨(by first | assumption | rfl), ?_⟩
          try simp (disch := omega) only [Int.cast_ofNat_Int, up_s, up_a, up_i, mp_a, mp_ge, mq_a, mq_ge, cp_a, e6, e2, s5, m1, m2, m3, m4, m5, m6, m7, m8, t2, t3]
          conv => whnf
          refine ⟨(by first | assumption | rfl), ?_⟩
          try simp (disch := omega) only [Int.cast_ofNat_Int, up_s, up_a, up_i, mp_a, mp_ge, mq_a, mq_ge, cp_a, e6, e2, s5, m1, m2, m3, m4, m5, m6, m7, m8, t2, t3]
          conv => whnf
          refine ⟨(by first | assumption | rfl), ?_⟩
          try simp (disch := omega) only [Int.cast_ofNat_Int, up_s, up_a, up_i, mp_a, mp_ge, mq_a, mq_ge, cp_a, e6, e2, s5, m1, m2, m3, m4, m5, m6, m7, m8, t2, t3]
          conv => whnf
          refine ⟨sx_ixI (by first | assumption | rfl) (by omega) (by omega), ?_⟩
          try simp (disch := omega) only [Int.cast_ofNat_Int, up_s, up_a, up_i, mp_a, mp_ge, mq_a, mq_ge, cp_a, e6, e2, s5, m1, m2, m3, m4, m5, m6, m7, m8, t2, t3]
          conv => whnf
          refine ⟨fun q9 => by first | (simp at q9; done) | omega, ?_⟩
          exact q_to h (by unfold aRd; repeat (first | rw [if_pos (by omega)] | rw [if_neg (by omega)]))
      · simp only [sx_cc, Classical.not_not] at g
        conv => whnf
        refine ⟨fun q9 => by first | (simp at q9; done) | omega, ?_⟩
        exact q_to h (by unfold aRd; repeat (first | rw [if_pos (by omega)] | rw [if_neg (by omega)]))
    · exact absurd g (by simp [sx_cc])
  · skip
    conv => whnf
    refine ⟨fun g => ?_, fun g => ?_⟩
    · exact absurd g (by simp [sx_cc])
    · skip
      conv => whnf
      refine ⟨fun q9 => by first | (simp at q9; done) | omega, ?_⟩
      exact q_to h (by unfold aRd; repeat (first | rw [if_pos (by omega)] | rw [if_neg (by omega)]))
set_option maxRecDepth 20000 in
theorem r_mark (e0 : σ0 = sx_up σ 124 2 0) (hT : PT σ0) (hn : 0 ≤ σ0 154 0 ∧ σ0 154 0 ≤ 90) (hd : RD σ0) {k q : Int} (h : Q (some (.inl (aMk (σ0 154 0) (σ0 146) (σ0 147) (σ0 148) (σ0 149) (σ0 150) (σ0 151) (σ0 152) (fun j => if σ0 153 j = 0 then 0 else 1) k q))) shM σ0) : sx_Run X 238 [.inr (.inr 124), .inl k, .inl q] shM σ Q := by
  have r30 := pt_124_30 hT
  have r31 := pt_124_31 hT
  have r57 := pt_124_57 hT
  have r58 := pt_124_58 hT
  have r59 := pt_124_59 hT
  have r60 := pt_124_60 hT
  have r61 := pt_124_61 hT
  have r62 := pt_124_62 hT
  have r63 := pt_124_63 hT
  have r64 := pt_124_64 hT
  have r65 := pt_124_65 hT
  have r66 := pt_124_66 hT
  refine sx_rule0 (own := 12) (cd := kX12_mark) (nL := 3) (by decide +kernel) (by decide +kernel) kX12_mark_ok (by decide +kernel) (Nat.le_of_ble_eq_true rfl) 40 ?_
  conv => whnf
  refine ⟨(by first | assumption | rfl), ?_⟩
  try simp (disch := omega) only [Int.cast_ofNat_Int, up_s, up_a, up_i, mp_a, mp_ge, mq_a, mq_ge, cp_a, r30, r31, r57, r58, r59, r60, r61, r62, r63, r64, r65, r66]
  rw [← e0]
  conv => whnf
  refine ⟨Nat.le_of_ble_eq_true rfl, Nat.le_of_ble_eq_true rfl, (by first | assumption | rfl), ?_⟩
  refine c_Rismark hT (fun g1 g2 => ?_) (fun g0 => ?_)
  · skip
    conv => whnf
    refine ⟨fun g => ?_, fun g => ?_⟩
    · skip
      conv => whnf
      refine ⟨fun g => ?_, ?_⟩
      · skip
        conv => whnf
        refine ⟨fun q9 => by first | (simp at q9; done) | omega, ?_⟩
        exact q_to h (by unfold aMk; repeat (first | rw [if_pos (by omega)] | rw [if_neg (by omega)]); try (show (if σ0 153 k = 0 then (0 : Int) else 1) = _; repeat (first | rw [if_pos (by omega)] | rw [if_neg (by omega)])))
      conv => whnf
      refine ⟨fun g => ?_, ?_⟩
      · skip
        conv => whnf
        refine ⟨(by first | assumption | rfl), ?_⟩
        try simp (disch := omega) only [Int.cast_ofNat_Int, up_s, up_a, up_i, mp_a, mp_ge, mq_a, mq_ge, cp_a, r30, r31, r57, r58, r59, r60, r61, r62, r63, r64, r65, r66]
        conv => whnf
        refine ⟨sx_ixI (by first | assumption | rfl) (by omega) (by omega), ?_⟩
        try simp (disch := omega) only [Int.cast_ofNat_Int, up_s, up_a, up_i, mp_a, mp_ge, mq_a, mq_ge, cp_a, r30, r31, r57, r58, r59, r60, r61, r62, r63, r64, r65, r66]
        conv => whnf
        refine ⟨fun q9 => by first | (simp at q9; done) | omega, ?_⟩
        exact q_to h (by unfold aMk; repeat (first | rw [if_pos (by omega)] | rw [if_neg (by omega)]); try (show (if σ0 153 k = 0 then (0 : Int) else 1) = _; repeat (first | rw [if_pos (by omega)] | rw [if_neg (by omega)])))
      conv => whnf
      refine ⟨fun g => ?_, ?_⟩
      · skip
        conv => whnf
        refine ⟨(by first | assumption | rfl), ?_⟩
        try simp (disch := omega) only [Int.cast_ofNat_Int, up_s, up_a, up_i, mp_a, mp_ge, mq_a, mq_ge, cp_a, r30, r31, r57, r58, r59, r60, r61, r62, r63, r64, r65, r66]
        conv => whnf
        refine ⟨sx_ixI (by first | assumption | rfl) (by omega) (by omega), ?_⟩
        try simp (disch := omega) only [Int.cast_ofNat_Int, up_s, up_a, up_i, mp_a, mp_ge, mq_a, mq_ge, cp_a, r30, r31, r57, r58, r59, r60, r61, r62, r63, r64, r65, r66]
        conv => whnf
        refine ⟨fun q9 => by first | (simp at q9; done) | omega, ?_⟩
        exact q_to h (by unfold aMk; repeat (first | rw [if_pos (by omega)] | rw [if_neg (by omega)]); try (show (if σ0 153 k = 0 then (0 : Int) else 1) = _; repeat (first | rw [if_pos (by omega)] | rw [if_neg (by omega)])))
      conv => whnf
      refine ⟨fun g => ?_, ?_⟩
      · skip
        conv => whnf
        refine ⟨(by first | assumption | rfl), ?_⟩
        try simp (disch := omega) only [Int.cast_ofNat_Int, up_s, up_a, up_i, mp_a, mp_ge, mq_a, mq_ge, cp_a, r30, r31, r57, r58, r59, r60, r61, r62, r63, r64, r65, r66]
        conv => whnf
        refine ⟨sx_ixI (by first | assumption | rfl) (by omega) (by omega), ?_⟩
        try simp (disch := omega) only [Int.cast_ofNat_Int, up_s, up_a, up_i, mp_a, mp_ge, mq_a, mq_ge, cp_a, r30, r31, r57, r58, r59, r60, r61, r62, r63, r64, r65, r66]
        conv => whnf
        refine ⟨fun q9 => by first | (simp at q9; done) | omega, ?_⟩
        exact q_to h (by unfold aMk; repeat (first | rw [if_pos (by omega)] | rw [if_neg (by omega)]); try (show (if σ0 153 k = 0 then (0 : Int) else 1) = _; repeat (first | rw [if_pos (by omega)] | rw [if_neg (by omega)])))
      conv => whnf
      refine ⟨fun g => ?_, ?_⟩
      · skip
        conv => whnf
        refine ⟨(by first | assumption | rfl), ?_⟩
        try simp (disch := omega) only [Int.cast_ofNat_Int, up_s, up_a, up_i, mp_a, mp_ge, mq_a, mq_ge, cp_a, r30, r31, r57, r58, r59, r60, r61, r62, r63, r64, r65, r66]
        conv => whnf
        refine ⟨sx_ixI (by first | assumption | rfl) (by omega) (by omega), ?_⟩
        try simp (disch := omega) only [Int.cast_ofNat_Int, up_s, up_a, up_i, mp_a, mp_ge, mq_a, mq_ge, cp_a, r30, r31, r57, r58, r59, r60, r61, r62, r63, r64, r65, r66]
        conv => whnf
        refine ⟨fun q9 => by first | (simp at q9; done) | omega, ?_⟩
        exact q_to h (by unfold aMk; repeat (first | rw [if_pos (by omega)] | rw [if_neg (by omega)]); try (show (if σ0 153 k = 0 then (0 : Int) else 1) = _; repeat (first | rw [if_pos (by omega)] | rw [if_neg (by omega)])))
      conv => whnf
      refine ⟨fun g => ?_, ?_⟩
      · skip
        conv => whnf
        refine ⟨(by first | assumption | rfl), ?_⟩
        try simp (disch := omega) only [Int.cast_ofNat_Int, up_s, up_a, up_i, mp_a, mp_ge, mq_a, mq_ge, cp_a, r30, r31, r57, r58, r59, r60, r61, r62, r63, r64, r65, r66]
        conv => whnf
        refine ⟨sx_ixI (by first | assumption | rfl) (by omega) (by omega), ?_⟩
        try simp (disch := omega) only [Int.cast_ofNat_Int, up_s, up_a, up_i, mp_a, mp_ge, mq_a, mq_ge, cp_a, r30, r31, r57, r58, r59, r60, r61, r62, r63, r64, r65, r66]
        conv => whnf
        refine ⟨fun q9 => by first | (simp at q9; done) | omega, ?_⟩
        exact q_to h (by unfold aMk; repeat (first | rw [if_pos (by omega)] | rw [if_neg (by omega)]); try (show (if σ0 153 k = 0 then (0 : Int) else 1) = _; repeat (first | rw [if_pos (by omega)] | rw [if_neg (by omega)])))
      conv => whnf
      refine ⟨fun g => ?_, ?_⟩
      · skip
        conv => whnf
        refine ⟨(by first | assumption | rfl), ?_⟩
        try simp (disch := omega) only [Int.cast_ofNat_Int, up_s, up_a, up_i, mp_a, mp_ge, mq_a, mq_ge, cp_a, r30, r31, r57, r58, r59, r60, r61, r62, r63, r64, r65, r66]
        conv => whnf
        refine ⟨sx_ixI (by first | assumption | rfl) (by omega) (by omega), ?_⟩
        try simp (disch := omega) only [Int.cast_ofNat_Int, up_s, up_a, up_i, mp_a, mp_ge, mq_a, mq_ge, cp_a, r30, r31, r57, r58, r59, r60, r61, r62, r63, r64, r65, r66]
        conv => whnf
        refine ⟨fun q9 => by first | (simp at q9; done) | omega, ?_⟩
        exact q_to h (by unfold aMk; repeat (first | rw [if_pos (by omega)] | rw [if_neg (by omega)]); try (show (if σ0 153 k = 0 then (0 : Int) else 1) = _; repeat (first | rw [if_pos (by omega)] | rw [if_neg (by omega)])))
      conv => whnf
      refine ⟨fun g => ?_, ?_⟩
      · skip
        conv => whnf
        refine ⟨(by first | assumption | rfl), ?_⟩
        try simp (disch := omega) only [Int.cast_ofNat_Int, up_s, up_a, up_i, mp_a, mp_ge, mq_a, mq_ge, cp_a, r30, r31, r57, r58, r59, r60, r61, r62, r63, r64, r65, r66]
        conv => whnf
        refine ⟨sx_ixI (by first | assumption | rfl) (by omega) (by omega), ?_⟩
        try simp (disch := omega) only [Int.cast_ofNat_Int, up_s, up_a, up_i, mp_a, mp_ge, mq_a, mq_ge, cp_a, r30, r31, r57, r58, r59, r60, r61, r62, r63, r64, r65, r66]
        conv => whnf
        refine ⟨fun q9 => by first | (simp at q9; done) | omega, ?_⟩
        exact q_to h (by unfold aMk; repeat (first | rw [if_pos (by omega)] | rw [if_neg (by omega)]); try (show (if σ0 153 k = 0 then (0 : Int) else 1) = _; repeat (first | rw [if_pos (by omega)] | rw [if_neg (by omega)])))
      conv => whnf
      refine ⟨fun g => ?_, ?_⟩
      · skip
        conv => whnf
        refine ⟨(by first | assumption | rfl), ?_⟩
        try simp (disch := omega) only [Int.cast_ofNat_Int, up_s, up_a, up_i, mp_a, mp_ge, mq_a, mq_ge, cp_a, r30, r31, r57, r58, r59, r60, r61, r62, r63, r64, r65, r66]
        conv => whnf
        refine ⟨by decide, ?_⟩
        conv => whnf
        refine ⟨sx_ixI (by first | assumption | rfl) (by omega) (by omega), ?_⟩
        try simp (disch := omega) only [Int.cast_ofNat_Int, up_s, up_a, up_i, mp_a, mp_ge, mq_a, mq_ge, cp_a, r30, r31, r57, r58, r59, r60, r61, r62, r63, r64, r65, r66]
        conv => whnf
        refine ⟨fun g => ?_, fun g => ?_⟩
        · simp only [sx_cc, Classical.not_not] at g
          conv => whnf
          refine ⟨fun q9 => by first | (simp at q9; done) | omega, ?_⟩
          exact q_to h (by unfold aMk; repeat (first | rw [if_pos (by omega)] | rw [if_neg (by omega)]); try (show (if σ0 153 k = 0 then (0 : Int) else 1) = _; repeat (first | rw [if_pos (by omega)] | rw [if_neg (by omega)])))
        · simp only [sx_cc, Classical.not_not] at g
          conv => whnf
          refine ⟨fun q9 => by first | (simp at q9; done) | omega, ?_⟩
          exact q_to h (by unfold aMk; repeat (first | rw [if_pos (by omega)] | rw [if_neg (by omega)]); try (show (if σ0 153 k = 0 then (0 : Int) else 1) = _; repeat (first | rw [if_pos (by omega)] | rw [if_neg (by omega)])))
      exact trivial
    · exact absurd g (by simp [sx_cc])
  · skip
    conv => whnf
    refine ⟨fun g => ?_, fun g => ?_⟩
    · exact absurd g (by simp [sx_cc])
    · skip
      conv => whnf
      refine ⟨fun q9 => by first | (simp at q9; done) | omega, ?_⟩
      exact q_to h (by unfold aMk; repeat (first | rw [if_pos (by omega)] | rw [if_neg (by omega)]); try (show (if σ0 153 k = 0 then (0 : Int) else 1) = _; repeat (first | rw [if_pos (by omega)] | rw [if_neg (by omega)])))
set_option maxRecDepth 20000 in
theorem r_cell (e0 : σ0 = sx_up σ 124 2 0) (hT : PT σ0) (hn : 0 ≤ σ0 154 0 ∧ σ0 154 0 ≤ 90) (hd : RD σ0) {c q : Int} (h : Q (some (.inl (aCe (σ0 124 12) (σ0 124 13) (σ0 154 0) (σ0 128) (σ0 127) (σ0 147) (σ0 150) (σ0 151) c q))) shM σ0) : sx_Run X 237 [.inr (.inr 124), .inl c, .inl q] shM σ Q := by
  have r30 := pt_124_30 hT
  have r31 := pt_124_31 hT
  have r57 := pt_124_57 hT
  have r58 := pt_124_58 hT
  have r59 := pt_124_59 hT
  have r60 := pt_124_60 hT
  have r61 := pt_124_61 hT
  have r62 := pt_124_62 hT
  have r63 := pt_124_63 hT
  have r64 := pt_124_64 hT
  have r65 := pt_124_65 hT
  have r66 := pt_124_66 hT
  have hwm := hd.mul
  refine sx_rule2 (own := 12) (cd := kX12_cell) (nL := 5) (by decide +kernel) (by decide +kernel) kX12_cell_ok (by decide +kernel) (Nat.le_of_ble_eq_true rfl) [65] 40 (fun n t L st _ σ' => (t = 65 ∧ ∃ v i : Int, st = [] ∧ L = [some (.inr (.inr (124))), some (.inl (c)), some (.inl (q)), some (.inl (v)), some (.inl (i))] ∧ (σ0 = σ' ∧ 0 ≤ c ∧ c < σ0 124 12 * σ0 124 13 ∧ q = 2 ∧ 0 ≤ i ∧ i ≤ σ0 154 0 ∧ v ≤ i ∧ v = fCnt (fun i => decide (0 < σ0 150 i ∧ σ0 147 i = c)) i.toNat) ∧ n = (σ0 154 0 - i).toNat)) ?_ ?_
  · skip
    conv => whnf
    refine ⟨(by first | assumption | rfl), ?_⟩
    try simp (disch := omega) only [Int.cast_ofNat_Int, up_s, up_a, up_i, mp_a, mp_ge, mq_a, mq_ge, cp_a, r30, r31, r57, r58, r59, r60, r61, r62, r63, r64, r65, r66]
    rw [← e0]
    conv => whnf
    refine ⟨Nat.le_of_ble_eq_true rfl, Nat.le_of_ble_eq_true rfl, (by first | assumption | rfl), ?_⟩
    refine c_Riscell hd (fun g1 g2 => ?_) (fun g0 => ?_)
    · skip
      conv => whnf
      refine ⟨fun g => ?_, fun g => ?_⟩
      · skip
        conv => whnf
        refine ⟨fun g => ?_, ?_⟩
        · skip
          conv => whnf
          refine ⟨fun q9 => by first | (simp at q9; done) | omega, ?_⟩
          exact q_to h (by unfold aCe; repeat (first | rw [if_pos (by omega)] | rw [if_neg (by omega)]))
        conv => whnf
        refine ⟨fun g => ?_, ?_⟩
        · skip
          conv => whnf
          refine ⟨(by first | assumption | rfl), ?_⟩
          try simp (disch := omega) only [Int.cast_ofNat_Int, up_s, up_a, up_i, mp_a, mp_ge, mq_a, mq_ge, cp_a, r30, r31, r57, r58, r59, r60, r61, r62, r63, r64, r65, r66]
          conv => whnf
          refine ⟨sx_ixI (by first | assumption | rfl) (by omega) (by omega), ?_⟩
          try simp (disch := omega) only [Int.cast_ofNat_Int, up_s, up_a, up_i, mp_a, mp_ge, mq_a, mq_ge, cp_a, r30, r31, r57, r58, r59, r60, r61, r62, r63, r64, r65, r66]
          conv => whnf
          refine ⟨fun q9 => by first | (simp at q9; done) | omega, ?_⟩
          exact q_to h (by unfold aCe; repeat (first | rw [if_pos (by omega)] | rw [if_neg (by omega)]))
        conv => whnf
        refine ⟨fun g => ?_, ?_⟩
        · skip
          conv => whnf
          refine ⟨(by first | assumption | rfl), ?_⟩
          try simp (disch := omega) only [Int.cast_ofNat_Int, up_s, up_a, up_i, mp_a, mp_ge, mq_a, mq_ge, cp_a, r30, r31, r57, r58, r59, r60, r61, r62, r63, r64, r65, r66]
          conv => whnf
          refine ⟨sx_ixI (by first | assumption | rfl) (by omega) (by omega), ?_⟩
          try simp (disch := omega) only [Int.cast_ofNat_Int, up_s, up_a, up_i, mp_a, mp_ge, mq_a, mq_ge, cp_a, r30, r31, r57, r58, r59, r60, r61, r62, r63, r64, r65, r66]
          conv => whnf
          refine ⟨fun q9 => by first | (simp at q9; done) | omega, ?_⟩
          exact q_to h (by unfold aCe; repeat (first | rw [if_pos (by omega)] | rw [if_neg (by omega)]))
        conv => whnf
        refine ⟨fun g => ?_, ?_⟩
        · skip
          conv => whnf
          refine ⟨_, ⟨rfl, _, _, rfl, rfl, ?_, rfl⟩⟩
          refine ⟨rfl, by omega, by omega, by omega, by omega, by omega, by omega, rfl⟩
        conv => whnf
        refine ⟨fun g => ?_, ?_⟩
        · skip
          conv => whnf
          refine ⟨Nat.le_of_ble_eq_true rfl, Nat.le_of_ble_eq_true rfl, (by first | assumption | rfl), ?_⟩
          refine c_Rread0 hT hn ?_
          have hft := fTop_lt (σ0 147) (σ0 150) (σ0 151) c (σ0 154 0).toNat
          conv => whnf
          refine ⟨fun q9 => by first | (simp at q9; done) | omega, ?_⟩
          exact q_to h (by unfold aCe; repeat (first | rw [if_pos (by omega)] | rw [if_neg (by omega)]))
        exact trivial
      · exact absurd g (by simp [sx_cc])
    · skip
      conv => whnf
      refine ⟨fun g => ?_, fun g => ?_⟩
      · exact absurd g (by simp [sx_cc])
      · skip
        conv => whnf
        refine ⟨fun q9 => by first | (simp at q9; done) | omega, ?_⟩
        exact q_to h (by unfold aCe; repeat (first | rw [if_pos (by omega)] | rw [if_neg (by omega)]))
  · intro n t L st σ' hk
    obtain ⟨rfl, v, i, rfl, rfl, hc, rfl⟩ := hk
    obtain ⟨rfl, hc0, hc1, hq, hi0, hi1, hv9, hv⟩ := hc
    have hle := fCnt_le (fun i => decide (0 < σ0 150 i ∧ σ0 147 i = c)) i.toNat
    conv => whnf
    refine ⟨(by first | assumption | rfl), ?_⟩
    try simp (disch := omega) only [Int.cast_ofNat_Int, up_s, up_a, up_i, mp_a, mp_ge, mq_a, mq_ge, cp_a, r30, r31, r57, r58, r59, r60, r61, r62, r63, r64, r65, r66]
    conv => whnf
    refine ⟨sx_ixI (by first | assumption | rfl) (by omega) (by omega), ?_⟩
    try simp (disch := omega) only [Int.cast_ofNat_Int, up_s, up_a, up_i, mp_a, mp_ge, mq_a, mq_ge, cp_a, r30, r31, r57, r58, r59, r60, r61, r62, r63, r64, r65, r66]
    conv => whnf
    refine ⟨fun g => ?_, fun g => ?_⟩
    · simp only [sx_cc, Classical.not_not] at g
      conv => whnf
      refine ⟨fun q9 => by first | (simp at q9; done) | omega, ?_⟩
      have e9 : i = σ0 154 0 := by omega
      subst e9
      subst hv
      exact q_to h (by unfold aCe; repeat (first | rw [if_pos (by omega)] | rw [if_neg (by omega)]))
    · simp only [sx_cc, Classical.not_not] at g
      conv => whnf
      refine ⟨(by first | assumption | rfl), ?_⟩
      try simp (disch := omega) only [Int.cast_ofNat_Int, up_s, up_a, up_i, mp_a, mp_ge, mq_a, mq_ge, cp_a, r30, r31, r57, r58, r59, r60, r61, r62, r63, r64, r65, r66]
      conv => whnf
      refine ⟨sx_ixI (by first | assumption | rfl) (by omega) (by omega), ?_⟩
      try simp (disch := omega) only [Int.cast_ofNat_Int, up_s, up_a, up_i, mp_a, mp_ge, mq_a, mq_ge, cp_a, r30, r31, r57, r58, r59, r60, r61, r62, r63, r64, r65, r66]
      conv => whnf
      refine ⟨fun g => ?_, fun g => ?_⟩
      · simp only [sx_cc, Classical.not_not] at g
        conv => whnf
        refine ⟨⟨by omega, by omega⟩, ?_⟩
        conv => whnf
        refine ⟨⟨by omega, by omega⟩, ?_⟩
        conv => whnf
        refine ⟨_, ?_, ⟨rfl, _, _, rfl, rfl, ?_, rfl⟩⟩
        · omega
        · refine ⟨rfl, by omega, by omega, by omega, by omega, by omega, by omega, ?_⟩
          first | exact fCnt_t hi0 (decide_eq_true ⟨by omega, by omega⟩) hv | (rw [Int.add_zero]; exact fCnt_f hi0 (decide_eq_false (by omega)) hv)
      · simp only [sx_cc, Classical.not_not] at g
        conv => whnf
        refine ⟨(by first | assumption | rfl), ?_⟩
        try simp (disch := omega) only [Int.cast_ofNat_Int, up_s, up_a, up_i, mp_a, mp_ge, mq_a, mq_ge, cp_a, r30, r31, r57, r58, r59, r60, r61, r62, r63, r64, r65, r66]
        conv => whnf
        refine ⟨sx_ixI (by first | assumption | rfl) (by omega) (by omega), ?_⟩
        try simp (disch := omega) only [Int.cast_ofNat_Int, up_s, up_a, up_i, mp_a, mp_ge, mq_a, mq_ge, cp_a, r30, r31, r57, r58, r59, r60, r61, r62, r63, r64, r65, r66]
        conv => whnf
        refine ⟨fun g => ?_, fun g => ?_⟩
        · simp only [sx_cc, Classical.not_not] at g
          conv => whnf
          refine ⟨⟨by omega, by omega⟩, ?_⟩
          conv => whnf
          refine ⟨⟨by omega, by omega⟩, ?_⟩
          conv => whnf
          refine ⟨_, ?_, ⟨rfl, _, _, rfl, rfl, ?_, rfl⟩⟩
          · omega
          · refine ⟨rfl, by omega, by omega, by omega, by omega, by omega, by omega, ?_⟩
            first | exact fCnt_t hi0 (decide_eq_true ⟨by omega, by omega⟩) hv | (rw [Int.add_zero]; exact fCnt_f hi0 (decide_eq_false (by omega)) hv)
        · simp only [sx_cc, Classical.not_not] at g
          conv => whnf
          refine ⟨⟨by omega, by omega⟩, ?_⟩
          conv => whnf
          refine ⟨⟨by omega, by omega⟩, ?_⟩
          conv => whnf
          refine ⟨_, ?_, ⟨rfl, _, _, rfl, rfl, ?_, rfl⟩⟩
          · omega
          · refine ⟨rfl, by omega, by omega, by omega, by omega, by omega, by omega, ?_⟩
            first | exact fCnt_t hi0 (decide_eq_true ⟨by omega, by omega⟩) hv | (rw [Int.add_zero]; exact fCnt_f hi0 (decide_eq_false (by omega)) hv)
set_option maxRecDepth 20000 in
theorem r_read (e0 : σ0 = sx_up σ 124 2 0) (hT : PT σ0) (hn : 0 ≤ σ0 154 0 ∧ σ0 154 0 ≤ 90) (hd : RD σ0) {c : Int} (h : Q (some (.inl (aRd (σ0 124 12) (σ0 124 13) (σ0 154 0) (σ0 146) (σ0 147) (σ0 150) (σ0 151) (σ0 153) c))) shM σ0) : sx_Run X 253 [.inr (.inr 124), .inl c] shM σ Q := by
  have r30 := pt_124_30 hT
  have r31 := pt_124_31 hT
  have r57 := pt_124_57 hT
  have r58 := pt_124_58 hT
  have r59 := pt_124_59 hT
  have r60 := pt_124_60 hT
  have r61 := pt_124_61 hT
  have r62 := pt_124_62 hT
  have r63 := pt_124_63 hT
  have r64 := pt_124_64 hT
  have r65 := pt_124_65 hT
  have r66 := pt_124_66 hT
  have hwm := hd.mul
  refine sx_rule0 (own := 12) (cd := kX12_read) (nL := 3) (by decide +kernel) (by decide +kernel) kX12_read_ok (by decide +kernel) (Nat.le_of_ble_eq_true rfl) 40 ?_
  conv => whnf
  refine ⟨(by first | assumption | rfl), ?_⟩
  try simp (disch := omega) only [Int.cast_ofNat_Int, up_s, up_a, up_i, mp_a, mp_ge, mq_a, mq_ge, cp_a, r30, r31, r57, r58, r59, r60, r61, r62, r63, r64, r65, r66]
  rw [← e0]
  conv => whnf
  refine ⟨Nat.le_of_ble_eq_true rfl, Nat.le_of_ble_eq_true rfl, (by first | assumption | rfl), ?_⟩
  refine c_Riscell hd (fun g1 g2 => ?_) (fun g0 => ?_)
  · skip
    conv => whnf
    refine ⟨fun g => ?_, fun g => ?_⟩
    · skip
      conv => whnf
      refine ⟨Nat.le_of_ble_eq_true rfl, Nat.le_of_ble_eq_true rfl, (by first | assumption | rfl), ?_⟩
      refine c_Rread0 hT hn ?_
      have hft := fTop_lt (σ0 147) (σ0 150) (σ0 151) c (σ0 154 0).toNat
      conv => whnf
      refine ⟨fun g => ?_, fun g => ?_⟩
      · simp only [sx_cc, Classical.not_not] at g
        conv => whnf
        refine ⟨(by first | assumption | rfl), ?_⟩
        try simp (disch := omega) only [Int.cast_ofNat_Int, up_s, up_a, up_i, mp_a, mp_ge, mq_a, mq_ge, cp_a, r30, r31, r57, r58, r59, r60, r61, r62, r63, r64, r65, r66]
        conv => whnf
        refine ⟨by decide, ?_⟩
        conv => whnf
        refine ⟨sx_ixI (by first | assumption | rfl) (by omega) (by omega), ?_⟩
        try simp (disch := omega) only [Int.cast_ofNat_Int, up_s, up_a, up_i, mp_a, mp_ge, mq_a, mq_ge, cp_a, r30, r31, r57, r58, r59, r60, r61, r62, r63, r64, r65, r66]
        conv => whnf
        refine ⟨fun g => ?_, fun g => ?_⟩
        · simp only [sx_cc, Classical.not_not] at g
          conv => whnf
          refine ⟨(by first | assumption | rfl), ?_⟩
          try simp (disch := omega) only [Int.cast_ofNat_Int, up_s, up_a, up_i, mp_a, mp_ge, mq_a, mq_ge, cp_a, r30, r31, r57, r58, r59, r60, r61, r62, r63, r64, r65, r66]
          conv => whnf
          refine ⟨sx_ixI (by first | assumption | rfl) (by omega) (by omega), ?_⟩
          try simp (disch := omega) only [Int.cast_ofNat_Int, up_s, up_a, up_i, mp_a, mp_ge, mq_a, mq_ge, cp_a, r30, r31, r57, r58, r59, r60, r61, r62, r63, r64, r65, r66]
          conv => whnf
          refine ⟨fun q9 => by first | (simp at q9; done) | omega, ?_⟩
          exact q_to h (by unfold aRd; repeat (first | rw [if_pos (by omega)] | rw [if_neg (by omega)]))
        · simp only [sx_cc, Classical.not_not] at g
          conv => whnf
          refine ⟨fun q9 => by first | (simp at q9; done) | omega, ?_⟩
          exact q_to h (by unfold aRd; repeat (first | rw [if_pos (by omega)] | rw [if_neg (by omega)]))
      · simp only [sx_cc, Classical.not_not] at g
        conv => whnf
        refine ⟨fun q9 => by first | (simp at q9; done) | omega, ?_⟩
        exact q_to h (by unfold aRd; repeat (first | rw [if_pos (by omega)] | rw [if_neg (by omega)]))
    · exact absurd g (by simp [sx_cc])
  · skip
    conv => whnf
    refine ⟨fun g => ?_, fun g => ?_⟩
    · exact absurd g (by simp [sx_cc])
    · skip
      conv => whnf
      refine ⟨fun q9 => by first | (simp at q9; done) | omega, ?_⟩
      exact q_to h (by unfold aRd; repeat (first | rw [if_pos (by omega)] | rw [if_neg (by omega)]))
end SXW8
