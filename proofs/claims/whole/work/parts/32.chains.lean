/-! TRAILS and LAYERS, both sides (by wip/whole) -/
section SXW3
variable {X : sx_X} {σ σ0 : sx_S} {s p : Int} {Q : sx_R}
def aTrail (f : Int → Int) (n : Int) (deep : Int → Int) (m : Int) : Int := if 0 ≤ m ∧ m < n ∧ 0 < deep m then fTrl f 90 m else -1
def aTrailed (f : Int → Int) (n : Int) (deep : Int → Int) (m k : Int) : Int := if 0 ≤ m ∧ m < n ∧ 0 < deep m ∧ 0 ≤ k then (if fItr f k.toNat m = -1 then -2 else fItr f k.toNat m) else -1
def aLayer (f : Int → Int) (k : Int) : Int := if 0 ≤ k then (if fItr f k.toNat (f (-1)) = -1 then -2 else fItr f k.toNat (f (-1))) else -1
set_option maxRecDepth 20000 in
theorem c_trail (hT : PT σ) (hs : isS s) (e6 : σ 0 6 = s) (hn : 0 ≤ σ (s + 4) 0 ∧ σ (s + 4) 0 ≤ 90) (hp : isP p) (ep : σ s 1 = p) (hd : PD σ p) (hl : ∀ i : Int, 0 ≤ i → i < σ (s + 4) 0 → 0 ≤ σ (s + 5) i ∧ σ (s + 5) i < 5) (hce : ∀ i : Int, 0 ≤ i → i < σ (s + 4) 0 → 0 ≤ σ (s + 6) i ∧ σ (s + 6) i < 48) {m : Int} (h : Q (some (.inl (aTrail (fun k => fBef (σ p 0) (σ (p + 7)) (σ (s + 5)) (σ (s + 6)) (σ (s + 9)) k k.toNat) (σ (s + 4) 0) (σ (s + 9)) m))) shM σ) : sx_Run X 149 [.inr (.inr 0), .inl m] shM σ Q := by
  have k0 := lkS0 hs
  have k1 := lkS1 hs
  have k2 := lkS2 hs
  have k3 := lkS3 hs
  have k4 := lkS4 hs
  have k5 := lkS5 hs
  have k6 := lkS6 hs
  have k7 := lkS7 hs
  have k8 := lkS8 hs
  have k9 := lkS9 hs
  have k10 := lkS10 hs
  have k11 := lkS11 hs
  have k12 := lkS12 hs
  have k13 := lkS13 hs
  have k14 := lkS14 hs
  have m1 := ptM_1 hT hs
  have m2 := ptM_2 hT hs
  have m3 := ptM_3 hT hs
  have m4 := ptM_4 hT hs
  have m5 := ptM_5 hT hs
  have m6 := ptM_6 hT hs
  have m7 := ptM_7 hT hs
  have m8 := ptM_8 hT hs
  have s0 := ptS_0 hT hs
  have s2 := ptS_2 hT hs
  have s3 := ptS_3 hT hs
  have s4 := ptS_4 hT hs
  have s5 := ptS_5 hT hs
  have s6 := ptS_6 hT hs
  have s11 := ptS_11 hT hs
  refine sx_rule2 (own := 11) (cd := kX11_trail) (nL := 5) (by decide +kernel) (by decide +kernel) kX11_trail_ok (by decide +kernel) (Nat.le_of_ble_eq_true rfl) [23] 40 (fun n t L st _ σ' => (t = 23 ∧ ∃ v x i : Int, st = [] ∧ L = [some (.inr (.inr (0))), some (.inl (m)), some (.inl (v)), some (.inl (x)), some (.inl (i))] ∧ (σ = σ' ∧ 0 ≤ m ∧ m < σ (s + 4) 0 ∧ 0 < σ (s + 9) m ∧ -1 ≤ x ∧ x < σ (s + 4) 0 ∧ 0 ≤ i ∧ i ≤ 90 ∧ v = i ∧ v + fTrl (fun k => fBef (σ p 0) (σ (p + 7)) (σ (s + 5)) (σ (s + 6)) (σ (s + 9)) k k.toNat) (90 - i).toNat x = fTrl (fun k => fBef (σ p 0) (σ (p + 7)) (σ (s + 5)) (σ (s + 6)) (σ (s + 9)) k k.toNat) 90 m) ∧ n = (90 - i).toNat)) ?_ ?_
  · skip
    conv => whnf
    refine ⟨(by first | assumption | rfl), ?_⟩
    try simp (disch := omega) only [Int.cast_ofNat_Int, up_s, up_a, up_i, mp_a, mp_ge, cp_a, e6, m1, m2, m3, m4, m5, m6, m7, m8, s0, s2, s3, s4, s5, s6, s11]
    conv => whnf
    refine ⟨(by first | assumption | rfl), ?_⟩
    try simp (disch := omega) only [Int.cast_ofNat_Int, up_s, up_a, up_i, mp_a, mp_ge, cp_a, e6, m1, m2, m3, m4, m5, m6, m7, m8, s0, s2, s3, s4, s5, s6, s11]
    conv => whnf
    refine ⟨Nat.le_of_ble_eq_true rfl, Nat.le_of_ble_eq_true rfl, (by first | assumption | rfl), ?_⟩
    refine c_Mlasts hT hs hn (fun g1 g2 g3 => ?_) (fun g0 => ?_)
    · skip
      conv => whnf
      refine ⟨fun g => ?_, fun g => ?_⟩
      · skip
        conv => whnf
        refine ⟨_, ⟨rfl, _, _, _, rfl, rfl, ?_, rfl⟩⟩
        refine ⟨rfl, by omega, by omega, by omega, by omega, by omega, by omega, by omega, rfl, ?_⟩
        rw [show (90 - 0 : Int).toNat = 90 from rfl]
        omega
      · exact absurd g (by simp [sx_cc])
    · skip
      conv => whnf
      refine ⟨fun g => ?_, fun g => ?_⟩
      · exact absurd g (by simp [sx_cc])
      · skip
        conv => whnf
        refine ⟨fun q9 => by first | (simp at q9; done) | omega, ?_⟩
        exact q_to h (by unfold aTrail; rw [if_neg (by omega)])
  · intro n t L st σ' hk
    obtain ⟨rfl, v, x, i, rfl, rfl, hc, rfl⟩ := hk
    obtain ⟨rfl, hm0, hm1, hm2, hx0, hx1, hi0, hi1, hvi, hv⟩ := hc
    have hbl := fBef_lt (σ p 0) (σ (p + 7)) (σ (s + 5)) (σ (s + 6)) (σ (s + 9)) x x.toNat
    conv => whnf
    refine ⟨fun g => ?_, fun g => ?_⟩
    · simp only [sx_cc, Classical.not_not] at g
      conv => whnf
      refine ⟨fun q9 => by first | (simp at q9; done) | omega, ?_⟩
      have e9 : fTrl (fun k => fBef (σ p 0) (σ (p + 7)) (σ (s + 5)) (σ (s + 6)) (σ (s + 9)) k k.toNat) (90 - i).toNat x = 0 := by
        by_cases e8 : x = -1
        · rw [e8]; exact fTrl_no _ _
        · rw [show (90 - i).toNat = 0 by omega]; rfl
      exact q_to h (by unfold aTrail; rw [if_pos ⟨by omega, by omega, by omega⟩]; omega)
    · simp only [sx_cc, Classical.not_not] at g
      conv => whnf
      refine ⟨fun g => ?_, fun g => ?_⟩
      · simp only [sx_cc, Classical.not_not] at g
        conv => whnf
        refine ⟨fun q9 => by first | (simp at q9; done) | omega, ?_⟩
        have e9 : fTrl (fun k => fBef (σ p 0) (σ (p + 7)) (σ (s + 5)) (σ (s + 6)) (σ (s + 9)) k k.toNat) (90 - i).toNat x = 0 := by
          by_cases e8 : x = -1
          · rw [e8]; exact fTrl_no _ _
          · rw [show (90 - i).toNat = 0 by omega]; rfl
        exact q_to h (by unfold aTrail; rw [if_pos ⟨by omega, by omega, by omega⟩]; omega)
      · simp only [sx_cc, Classical.not_not] at g
        conv => whnf
        refine ⟨⟨by omega, by omega⟩, ?_⟩
        conv => whnf
        refine ⟨(by first | assumption | rfl), ?_⟩
        try simp (disch := omega) only [Int.cast_ofNat_Int, up_s, up_a, up_i, mp_a, mp_ge, cp_a, e6, m1, m2, m3, m4, m5, m6, m7, m8, s0, s2, s3, s4, s5, s6, s11]
        conv => whnf
        refine ⟨Nat.le_of_ble_eq_true rfl, Nat.le_of_ble_eq_true rfl, (by first | assumption | rfl), ?_⟩
        refine c_Sbefore hT hs hn hp ep hd hl hce ⟨by omega, by omega⟩ ?_
        conv => whnf
        refine ⟨⟨by omega, by omega⟩, ?_⟩
        conv => whnf
        refine ⟨_, ?_, ⟨rfl, _, _, _, rfl, rfl, ?_, rfl⟩⟩
        · omega
        · have e7 := fTrl_s (f := (fun k => fBef (σ p 0) (σ (p + 7)) (σ (s + 5)) (σ (s + 6)) (σ (s + 9)) k k.toNat)) (n := 90 - i) (x := x) (by omega) (by omega)
          rw [show 90 - i - 1 = 90 - (i + 1) by omega] at e7
          refine ⟨rfl, by omega, by omega, by omega, by omega, by omega, by omega, by omega, by omega, ?_⟩
          omega
set_option maxRecDepth 20000 in
theorem c_trailed (hT : PT σ) (hs : isS s) (e6 : σ 0 6 = s) (hn : 0 ≤ σ (s + 4) 0 ∧ σ (s + 4) 0 ≤ 90) (hp : isP p) (ep : σ s 1 = p) (hd : PD σ p) (hl : ∀ i : Int, 0 ≤ i → i < σ (s + 4) 0 → 0 ≤ σ (s + 5) i ∧ σ (s + 5) i < 5) (hce : ∀ i : Int, 0 ≤ i → i < σ (s + 4) 0 → 0 ≤ σ (s + 6) i ∧ σ (s + 6) i < 48) {m k : Int} (hkr : k ≤ 2147483647) (h : Q (some (.inl (aTrailed (fun k => fBef (σ p 0) (σ (p + 7)) (σ (s + 5)) (σ (s + 6)) (σ (s + 9)) k k.toNat) (σ (s + 4) 0) (σ (s + 9)) m k))) shM σ) : sx_Run X 150 [.inr (.inr 0), .inl m, .inl k] shM σ Q := by
  have k0 := lkS0 hs
  have k1 := lkS1 hs
  have k2 := lkS2 hs
  have k3 := lkS3 hs
  have k4 := lkS4 hs
  have k5 := lkS5 hs
  have k6 := lkS6 hs
  have k7 := lkS7 hs
  have k8 := lkS8 hs
  have k9 := lkS9 hs
  have k10 := lkS10 hs
  have k11 := lkS11 hs
  have k12 := lkS12 hs
  have k13 := lkS13 hs
  have k14 := lkS14 hs
  have m1 := ptM_1 hT hs
  have m2 := ptM_2 hT hs
  have m3 := ptM_3 hT hs
  have m4 := ptM_4 hT hs
  have m5 := ptM_5 hT hs
  have m6 := ptM_6 hT hs
  have m7 := ptM_7 hT hs
  have m8 := ptM_8 hT hs
  have s0 := ptS_0 hT hs
  have s2 := ptS_2 hT hs
  have s3 := ptS_3 hT hs
  have s4 := ptS_4 hT hs
  have s5 := ptS_5 hT hs
  have s6 := ptS_6 hT hs
  have s11 := ptS_11 hT hs
  refine sx_rule2 (own := 11) (cd := kX11_trailed) (nL := 5) (by decide +kernel) (by decide +kernel) kX11_trailed_ok (by decide +kernel) (Nat.le_of_ble_eq_true rfl) [25] 40 (fun n t L st _ σ' => (t = 25 ∧ ∃ x i : Int, st = [] ∧ L = [some (.inr (.inr (0))), some (.inl (m)), some (.inl (k)), some (.inl (x)), some (.inl (i))] ∧ (σ = σ' ∧ 0 ≤ m ∧ m < σ (s + 4) 0 ∧ 0 < σ (s + 9) m ∧ 0 ≤ k ∧ -1 ≤ x ∧ x < σ (s + 4) 0 ∧ 0 ≤ i ∧ i ≤ k ∧ fItr (fun k => fBef (σ p 0) (σ (p + 7)) (σ (s + 5)) (σ (s + 6)) (σ (s + 9)) k k.toNat) (k - i).toNat x = fItr (fun k => fBef (σ p 0) (σ (p + 7)) (σ (s + 5)) (σ (s + 6)) (σ (s + 9)) k k.toNat) k.toNat m) ∧ n = (x + 1).toNat)) ?_ ?_
  · skip
    conv => whnf
    refine ⟨(by first | assumption | rfl), ?_⟩
    try simp (disch := omega) only [Int.cast_ofNat_Int, up_s, up_a, up_i, mp_a, mp_ge, cp_a, e6, m1, m2, m3, m4, m5, m6, m7, m8, s0, s2, s3, s4, s5, s6, s11]
    conv => whnf
    refine ⟨(by first | assumption | rfl), ?_⟩
    try simp (disch := omega) only [Int.cast_ofNat_Int, up_s, up_a, up_i, mp_a, mp_ge, cp_a, e6, m1, m2, m3, m4, m5, m6, m7, m8, s0, s2, s3, s4, s5, s6, s11]
    conv => whnf
    refine ⟨Nat.le_of_ble_eq_true rfl, Nat.le_of_ble_eq_true rfl, (by first | assumption | rfl), ?_⟩
    refine c_Mlasts hT hs hn (fun g1 g2 g3 => ?_) (fun g0 => ?_)
    · skip
      conv => whnf
      refine ⟨fun g => ?_, fun g => ?_⟩
      · exact absurd g (by simp [sx_cc])
      · skip
        conv => whnf
        refine ⟨fun g => ?_, fun g => ?_⟩
        · simp only [sx_cc, Classical.not_not] at g
          conv => whnf
          refine ⟨_, ⟨rfl, _, _, rfl, rfl, ?_, rfl⟩⟩
          refine ⟨rfl, by omega, by omega, by omega, by omega, by omega, by omega, by omega, by omega, ?_⟩
          rw [show k - 0 = k by omega]
        · simp only [sx_cc, Classical.not_not] at g
          conv => whnf
          refine ⟨fun q9 => by first | (simp at q9; done) | omega, ?_⟩
          exact q_to h (by unfold aTrailed; rw [if_neg (by omega)])
    · skip
      conv => whnf
      refine ⟨fun g => ?_, fun g => ?_⟩
      · skip
        conv => whnf
        refine ⟨fun q9 => by first | (simp at q9; done) | omega, ?_⟩
        exact q_to h (by unfold aTrailed; rw [if_neg (by omega)])
      · exact absurd g (by simp [sx_cc])
  · intro n t L st σ' hk
    obtain ⟨rfl, x, i, rfl, rfl, hc, rfl⟩ := hk
    obtain ⟨rfl, hm0, hm1, hm2, hk0, hx0, hx1, hi0, hi1, hv⟩ := hc
    have hbl := fBef_lt (σ p 0) (σ (p + 7)) (σ (s + 5)) (σ (s + 6)) (σ (s + 9)) x x.toNat
    conv => whnf
    refine ⟨fun g => ?_, fun g => ?_⟩
    · simp only [sx_cc, Classical.not_not] at g
      conv => whnf
      refine ⟨fun g => ?_, fun g => ?_⟩
      · simp only [sx_cc, Classical.not_not] at g
        conv => whnf
        refine ⟨fun q9 => by first | (simp at q9; done) | omega, ?_⟩
        have e9 : fItr (fun k => fBef (σ p 0) (σ (p + 7)) (σ (s + 5)) (σ (s + 6)) (σ (s + 9)) k k.toNat) (k - i).toNat x = x := by
          by_cases e8 : x = -1
          · rw [e8]; exact fItr_no _ _
          · rw [show (k - i).toNat = 0 by omega]; rfl
        rw [e9] at hv
        exact q_to h (by unfold aTrailed; rw [if_pos ⟨by omega, by omega, by omega, by omega⟩, ← hv]; first | (rw [if_pos (by omega)]; done) | (rw [if_neg (by omega)]; done))
      · simp only [sx_cc, Classical.not_not] at g
        conv => whnf
        refine ⟨fun q9 => by first | (simp at q9; done) | omega, ?_⟩
        have e9 : fItr (fun k => fBef (σ p 0) (σ (p + 7)) (σ (s + 5)) (σ (s + 6)) (σ (s + 9)) k k.toNat) (k - i).toNat x = x := by
          by_cases e8 : x = -1
          · rw [e8]; exact fItr_no _ _
          · rw [show (k - i).toNat = 0 by omega]; rfl
        rw [e9] at hv
        exact q_to h (by unfold aTrailed; rw [if_pos ⟨by omega, by omega, by omega, by omega⟩, ← hv]; first | (rw [if_pos (by omega)]; done) | (rw [if_neg (by omega)]; done))
    · simp only [sx_cc, Classical.not_not] at g
      conv => whnf
      refine ⟨fun g => ?_, fun g => ?_⟩
      · simp only [sx_cc, Classical.not_not] at g
        conv => whnf
        refine ⟨fun g => ?_, fun g => ?_⟩
        · simp only [sx_cc, Classical.not_not] at g
          conv => whnf
          refine ⟨fun q9 => by first | (simp at q9; done) | omega, ?_⟩
          have e9 : fItr (fun k => fBef (σ p 0) (σ (p + 7)) (σ (s + 5)) (σ (s + 6)) (σ (s + 9)) k k.toNat) (k - i).toNat x = x := by
            by_cases e8 : x = -1
            · rw [e8]; exact fItr_no _ _
            · rw [show (k - i).toNat = 0 by omega]; rfl
          rw [e9] at hv
          exact q_to h (by unfold aTrailed; rw [if_pos ⟨by omega, by omega, by omega, by omega⟩, ← hv]; first | (rw [if_pos (by omega)]; done) | (rw [if_neg (by omega)]; done))
        · simp only [sx_cc, Classical.not_not] at g
          conv => whnf
          refine ⟨fun q9 => by first | (simp at q9; done) | omega, ?_⟩
          have e9 : fItr (fun k => fBef (σ p 0) (σ (p + 7)) (σ (s + 5)) (σ (s + 6)) (σ (s + 9)) k k.toNat) (k - i).toNat x = x := by
            by_cases e8 : x = -1
            · rw [e8]; exact fItr_no _ _
            · rw [show (k - i).toNat = 0 by omega]; rfl
          rw [e9] at hv
          exact q_to h (by unfold aTrailed; rw [if_pos ⟨by omega, by omega, by omega, by omega⟩, ← hv]; first | (rw [if_pos (by omega)]; done) | (rw [if_neg (by omega)]; done))
      · simp only [sx_cc, Classical.not_not] at g
        conv => whnf
        refine ⟨(by first | assumption | rfl), ?_⟩
        try simp (disch := omega) only [Int.cast_ofNat_Int, up_s, up_a, up_i, mp_a, mp_ge, cp_a, e6, m1, m2, m3, m4, m5, m6, m7, m8, s0, s2, s3, s4, s5, s6, s11]
        conv => whnf
        refine ⟨Nat.le_of_ble_eq_true rfl, Nat.le_of_ble_eq_true rfl, (by first | assumption | rfl), ?_⟩
        refine c_Sbefore hT hs hn hp ep hd hl hce ⟨by omega, by omega⟩ ?_
        conv => whnf
        refine ⟨⟨by omega, by omega⟩, ?_⟩
        conv => whnf
        refine ⟨_, ?_, ⟨rfl, _, _, rfl, rfl, ?_, rfl⟩⟩
        · omega
        · have e7 := fItr_s (f := (fun k => fBef (σ p 0) (σ (p + 7)) (σ (s + 5)) (σ (s + 6)) (σ (s + 9)) k k.toNat)) (n := k - i) (x := x) (by omega) (by omega)
          rw [show k - i - 1 = k - (i + 1) by omega] at e7
          refine ⟨rfl, by omega, by omega, by omega, by omega, by omega, by omega, by omega, by omega, ?_⟩
          rw [← hv, e7]
set_option maxRecDepth 20000 in
theorem c_layers (hT : PT σ) (hs : isS s) (e6 : σ 0 6 = s) (hn : 0 ≤ σ (s + 4) 0 ∧ σ (s + 4) 0 ≤ 90) (h : Q (some (.inl (fTrl (fun x => fLst (σ (s + 9)) (σ (s + 10)) x (σ (s + 4) 0).toNat) 90 (fLst (σ (s + 9)) (σ (s + 10)) (-1) (σ (s + 4) 0).toNat)))) shM σ) : sx_Run X 162 [.inr (.inr 0)] shM σ Q := by
  have k0 := lkS0 hs
  have k1 := lkS1 hs
  have k2 := lkS2 hs
  have k3 := lkS3 hs
  have k4 := lkS4 hs
  have k5 := lkS5 hs
  have k6 := lkS6 hs
  have k7 := lkS7 hs
  have k8 := lkS8 hs
  have k9 := lkS9 hs
  have k10 := lkS10 hs
  have k11 := lkS11 hs
  have k12 := lkS12 hs
  have k13 := lkS13 hs
  have k14 := lkS14 hs
  have m1 := ptM_1 hT hs
  have m2 := ptM_2 hT hs
  have m3 := ptM_3 hT hs
  have m4 := ptM_4 hT hs
  have m5 := ptM_5 hT hs
  have m6 := ptM_6 hT hs
  have m7 := ptM_7 hT hs
  have m8 := ptM_8 hT hs
  have s0 := ptS_0 hT hs
  have s2 := ptS_2 hT hs
  have s3 := ptS_3 hT hs
  have s4 := ptS_4 hT hs
  have s5 := ptS_5 hT hs
  have s6 := ptS_6 hT hs
  have s11 := ptS_11 hT hs
  refine sx_rule2 (own := 11) (cd := kX11_layers) (nL := 4) (by decide +kernel) (by decide +kernel) kX11_layers_ok (by decide +kernel) (Nat.le_of_ble_eq_true rfl) [16] 40 (fun n t L st _ σ' => (t = 16 ∧ ∃ v x i : Int, st = [] ∧ L = [some (.inr (.inr (0))), some (.inl (v)), some (.inl (x)), some (.inl (i))] ∧ (σ = σ' ∧ 0 ≤ i ∧ i ≤ 90 ∧ v = i ∧ v + fTrl (fun x => fLst (σ (s + 9)) (σ (s + 10)) x (σ (s + 4) 0).toNat) (90 - i).toNat x = fTrl (fun x => fLst (σ (s + 9)) (σ (s + 10)) x (σ (s + 4) 0).toNat) 90 (fLst (σ (s + 9)) (σ (s + 10)) (-1) (σ (s + 4) 0).toNat)) ∧ n = (90 - i).toNat)) ?_ ?_
  · skip
    conv => whnf
    refine ⟨(by first | assumption | rfl), ?_⟩
    try simp (disch := omega) only [Int.cast_ofNat_Int, up_s, up_a, up_i, mp_a, mp_ge, cp_a, e6, m1, m2, m3, m4, m5, m6, m7, m8, s0, s2, s3, s4, s5, s6, s11]
    conv => whnf
    refine ⟨(by first | assumption | rfl), ?_⟩
    try simp (disch := omega) only [Int.cast_ofNat_Int, up_s, up_a, up_i, mp_a, mp_ge, cp_a, e6, m1, m2, m3, m4, m5, m6, m7, m8, s0, s2, s3, s4, s5, s6, s11]
    conv => whnf
    refine ⟨Nat.le_of_ble_eq_true rfl, Nat.le_of_ble_eq_true rfl, (by first | assumption | rfl), ?_⟩
    refine c_Mcover hT hs hn ?_
    conv => whnf
    refine ⟨_, ⟨rfl, _, _, _, rfl, rfl, ?_, rfl⟩⟩
    refine ⟨rfl, by omega, by omega, rfl, ?_⟩
    rw [show (90 - 0 : Int).toNat = 90 from rfl]
    omega
  · intro n t L st σ' hk
    obtain ⟨rfl, v, x, i, rfl, rfl, hc, rfl⟩ := hk
    obtain ⟨rfl, hi0, hi1, hvi, hv⟩ := hc
    conv => whnf
    refine ⟨fun g => ?_, fun g => ?_⟩
    · simp only [sx_cc, Classical.not_not] at g
      conv => whnf
      refine ⟨fun q9 => by first | (simp at q9; done) | omega, ?_⟩
      have e9 : fTrl (fun x => fLst (σ (s + 9)) (σ (s + 10)) x (σ (s + 4) 0).toNat) (90 - i).toNat x = 0 := by
        by_cases e8 : x = -1
        · rw [e8]; exact fTrl_no _ _
        · rw [show (90 - i).toNat = 0 by omega]; rfl
      exact q_to h (by omega)
    · simp only [sx_cc, Classical.not_not] at g
      conv => whnf
      refine ⟨fun g => ?_, fun g => ?_⟩
      · simp only [sx_cc, Classical.not_not] at g
        conv => whnf
        refine ⟨fun q9 => by first | (simp at q9; done) | omega, ?_⟩
        have e9 : fTrl (fun x => fLst (σ (s + 9)) (σ (s + 10)) x (σ (s + 4) 0).toNat) (90 - i).toNat x = 0 := by
          by_cases e8 : x = -1
          · rw [e8]; exact fTrl_no _ _
          · rw [show (90 - i).toNat = 0 by omega]; rfl
        exact q_to h (by omega)
      · simp only [sx_cc, Classical.not_not] at g
        conv => whnf
        refine ⟨⟨by omega, by omega⟩, ?_⟩
        conv => whnf
        refine ⟨(by first | assumption | rfl), ?_⟩
        try simp (disch := omega) only [Int.cast_ofNat_Int, up_s, up_a, up_i, mp_a, mp_ge, cp_a, e6, m1, m2, m3, m4, m5, m6, m7, m8, s0, s2, s3, s4, s5, s6, s11]
        conv => whnf
        refine ⟨(by first | assumption | rfl), ?_⟩
        try simp (disch := omega) only [Int.cast_ofNat_Int, up_s, up_a, up_i, mp_a, mp_ge, cp_a, e6, m1, m2, m3, m4, m5, m6, m7, m8, s0, s2, s3, s4, s5, s6, s11]
        conv => whnf
        refine ⟨Nat.le_of_ble_eq_true rfl, Nat.le_of_ble_eq_true rfl, (by first | assumption | rfl), ?_⟩
        refine c_Mcover hT hs hn ?_
        conv => whnf
        refine ⟨⟨by omega, by omega⟩, ?_⟩
        conv => whnf
        refine ⟨_, ?_, ⟨rfl, _, _, _, rfl, rfl, ?_, rfl⟩⟩
        · omega
        · have e7 := fTrl_s (f := (fun x => fLst (σ (s + 9)) (σ (s + 10)) x (σ (s + 4) 0).toNat)) (n := 90 - i) (x := x) (by omega) (by omega)
          rw [show 90 - i - 1 = 90 - (i + 1) by omega] at e7
          refine ⟨rfl, by omega, by omega, by omega, ?_⟩
          omega
set_option maxRecDepth 20000 in
theorem c_layer (hT : PT σ) (hs : isS s) (e6 : σ 0 6 = s) (hn : 0 ≤ σ (s + 4) 0 ∧ σ (s + 4) 0 ≤ 90) {k : Int} (hkr : k ≤ 2147483647) (h : Q (some (.inl (aLayer (fun x => fLst (σ (s + 9)) (σ (s + 10)) x (σ (s + 4) 0).toNat) k))) shM σ) : sx_Run X 163 [.inr (.inr 0), .inl k] shM σ Q := by
  have k0 := lkS0 hs
  have k1 := lkS1 hs
  have k2 := lkS2 hs
  have k3 := lkS3 hs
  have k4 := lkS4 hs
  have k5 := lkS5 hs
  have k6 := lkS6 hs
  have k7 := lkS7 hs
  have k8 := lkS8 hs
  have k9 := lkS9 hs
  have k10 := lkS10 hs
  have k11 := lkS11 hs
  have k12 := lkS12 hs
  have k13 := lkS13 hs
  have k14 := lkS14 hs
  have m1 := ptM_1 hT hs
  have m2 := ptM_2 hT hs
  have m3 := ptM_3 hT hs
  have m4 := ptM_4 hT hs
  have m5 := ptM_5 hT hs
  have m6 := ptM_6 hT hs
  have m7 := ptM_7 hT hs
  have m8 := ptM_8 hT hs
  have s0 := ptS_0 hT hs
  have s2 := ptS_2 hT hs
  have s3 := ptS_3 hT hs
  have s4 := ptS_4 hT hs
  have s5 := ptS_5 hT hs
  have s6 := ptS_6 hT hs
  have s11 := ptS_11 hT hs
  refine sx_rule2 (own := 11) (cd := kX11_layer) (nL := 4) (by decide +kernel) (by decide +kernel) kX11_layer_ok (by decide +kernel) (Nat.le_of_ble_eq_true rfl) [20] 40 (fun n t L st _ σ' => (t = 20 ∧ ∃ x i : Int, st = [] ∧ L = [some (.inr (.inr (0))), some (.inl (k)), some (.inl (x)), some (.inl (i))] ∧ (σ = σ' ∧ 0 ≤ k ∧ 0 ≤ i ∧ i ≤ k ∧ fItr (fun x => fLst (σ (s + 9)) (σ (s + 10)) x (σ (s + 4) 0).toNat) (k - i).toNat x = fItr (fun x => fLst (σ (s + 9)) (σ (s + 10)) x (σ (s + 4) 0).toNat) k.toNat ((fun x => fLst (σ (s + 9)) (σ (s + 10)) x (σ (s + 4) 0).toNat) (-1))) ∧ n = (k - i).toNat)) ?_ ?_
  · skip
    conv => whnf
    refine ⟨fun g => ?_, fun g => ?_⟩
    · simp only [sx_cc, Classical.not_not] at g
      conv => whnf
      refine ⟨(by first | assumption | rfl), ?_⟩
      try simp (disch := omega) only [Int.cast_ofNat_Int, up_s, up_a, up_i, mp_a, mp_ge, cp_a, e6, m1, m2, m3, m4, m5, m6, m7, m8, s0, s2, s3, s4, s5, s6, s11]
      conv => whnf
      refine ⟨(by first | assumption | rfl), ?_⟩
      try simp (disch := omega) only [Int.cast_ofNat_Int, up_s, up_a, up_i, mp_a, mp_ge, cp_a, e6, m1, m2, m3, m4, m5, m6, m7, m8, s0, s2, s3, s4, s5, s6, s11]
      conv => whnf
      refine ⟨Nat.le_of_ble_eq_true rfl, Nat.le_of_ble_eq_true rfl, (by first | assumption | rfl), ?_⟩
      refine c_Mcover hT hs hn ?_
      conv => whnf
      refine ⟨_, ⟨rfl, _, _, rfl, rfl, ?_, rfl⟩⟩
      refine ⟨rfl, by omega, by omega, by omega, ?_⟩
      rw [show k - 0 = k by omega]
    · simp only [sx_cc, Classical.not_not] at g
      conv => whnf
      refine ⟨fun q9 => by first | (simp at q9; done) | omega, ?_⟩
      exact q_to h (by unfold aLayer; rw [if_neg (by omega)])
  · intro n t L st σ' hk
    obtain ⟨rfl, x, i, rfl, rfl, hc, rfl⟩ := hk
    obtain ⟨rfl, hk0, hi0, hi1, hv⟩ := hc
    conv => whnf
    refine ⟨fun g => ?_, fun g => ?_⟩
    · simp only [sx_cc, Classical.not_not] at g
      conv => whnf
      refine ⟨fun g => ?_, fun g => ?_⟩
      · simp only [sx_cc, Classical.not_not] at g
        conv => whnf
        refine ⟨fun q9 => by first | (simp at q9; done) | omega, ?_⟩
        have e9 : fItr (fun x => fLst (σ (s + 9)) (σ (s + 10)) x (σ (s + 4) 0).toNat) (k - i).toNat x = x := by
          by_cases e8 : x = -1
          · rw [e8]; exact fItr_no _ _
          · rw [show (k - i).toNat = 0 by omega]; rfl
        rw [e9] at hv
        exact q_to h (by unfold aLayer; rw [if_pos (by omega), ← hv]; first | (rw [if_pos (by omega)]; done) | (rw [if_neg (by omega)]; done))
      · simp only [sx_cc, Classical.not_not] at g
        conv => whnf
        refine ⟨fun q9 => by first | (simp at q9; done) | omega, ?_⟩
        have e9 : fItr (fun x => fLst (σ (s + 9)) (σ (s + 10)) x (σ (s + 4) 0).toNat) (k - i).toNat x = x := by
          by_cases e8 : x = -1
          · rw [e8]; exact fItr_no _ _
          · rw [show (k - i).toNat = 0 by omega]; rfl
        rw [e9] at hv
        exact q_to h (by unfold aLayer; rw [if_pos (by omega), ← hv]; first | (rw [if_pos (by omega)]; done) | (rw [if_neg (by omega)]; done))
    · simp only [sx_cc, Classical.not_not] at g
      conv => whnf
      refine ⟨fun g => ?_, fun g => ?_⟩
      · simp only [sx_cc, Classical.not_not] at g
        conv => whnf
        refine ⟨fun g => ?_, fun g => ?_⟩
        · simp only [sx_cc, Classical.not_not] at g
          conv => whnf
          refine ⟨fun q9 => by first | (simp at q9; done) | omega, ?_⟩
          have e9 : fItr (fun x => fLst (σ (s + 9)) (σ (s + 10)) x (σ (s + 4) 0).toNat) (k - i).toNat x = x := by
            by_cases e8 : x = -1
            · rw [e8]; exact fItr_no _ _
            · rw [show (k - i).toNat = 0 by omega]; rfl
          rw [e9] at hv
          exact q_to h (by unfold aLayer; rw [if_pos (by omega), ← hv]; first | (rw [if_pos (by omega)]; done) | (rw [if_neg (by omega)]; done))
        · simp only [sx_cc, Classical.not_not] at g
          conv => whnf
          refine ⟨fun q9 => by first | (simp at q9; done) | omega, ?_⟩
          have e9 : fItr (fun x => fLst (σ (s + 9)) (σ (s + 10)) x (σ (s + 4) 0).toNat) (k - i).toNat x = x := by
            by_cases e8 : x = -1
            · rw [e8]; exact fItr_no _ _
            · rw [show (k - i).toNat = 0 by omega]; rfl
          rw [e9] at hv
          exact q_to h (by unfold aLayer; rw [if_pos (by omega), ← hv]; first | (rw [if_pos (by omega)]; done) | (rw [if_neg (by omega)]; done))
      · simp only [sx_cc, Classical.not_not] at g
        conv => whnf
        refine ⟨(by first | assumption | rfl), ?_⟩
        try simp (disch := omega) only [Int.cast_ofNat_Int, up_s, up_a, up_i, mp_a, mp_ge, cp_a, e6, m1, m2, m3, m4, m5, m6, m7, m8, s0, s2, s3, s4, s5, s6, s11]
        conv => whnf
        refine ⟨(by first | assumption | rfl), ?_⟩
        try simp (disch := omega) only [Int.cast_ofNat_Int, up_s, up_a, up_i, mp_a, mp_ge, cp_a, e6, m1, m2, m3, m4, m5, m6, m7, m8, s0, s2, s3, s4, s5, s6, s11]
        conv => whnf
        refine ⟨Nat.le_of_ble_eq_true rfl, Nat.le_of_ble_eq_true rfl, (by first | assumption | rfl), ?_⟩
        refine c_Mcover hT hs hn ?_
        conv => whnf
        refine ⟨⟨by omega, by omega⟩, ?_⟩
        conv => whnf
        refine ⟨_, ?_, ⟨rfl, _, _, rfl, rfl, ?_, rfl⟩⟩
        · omega
        · have e7 := fItr_s (f := (fun x => fLst (σ (s + 9)) (σ (s + 10)) x (σ (s + 4) 0).toNat)) (n := k - i) (x := x) (by omega) (by omega)
          rw [show k - i - 1 = k - (i + 1) by omega] at e7
          refine ⟨rfl, by omega, by omega, by omega, ?_⟩
          rw [← hv, e7]
end SXW3
