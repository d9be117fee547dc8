/-! THE FORECAST, continued: the reference, and the public methods (by wip/whole) -/
section SXF2
variable {X : sx_X} {σ : sx_S} {p : Int} {Q : sx_R}
theorem r32_dryR {σ : sx_S} {t0 i v w : Int} (hr : HR σ 135) (h0 : 0 ≤ i) (h4 : i < 4) (hv : v = fDry (σ 135) t0 i.toNat) (hw : fOdd (σ 135) (t0 + i) = w) : sx_r32 (v * w) := by
  have h1 := fDry_bd hr t0 i.toNat
  have h2 := fPow_3 h0 h4
  have h3 := fOdd_bd hr (t0 + i)
  have := mul_bd (x := v) (y := w) (a := 1000000) (b := 100) (by omega) (by omega) (by omega) (by omega)
  exact ⟨by omega, by omega⟩
set_option maxRecDepth 20000 in
theorem c_Rcov (hT : PT σ) (hr : HR σ 135) {t0 k : Int} (ht0 : 0 ≤ t0) (ht : t0 < 24) (hk0 : 0 ≤ k) (hk : k ≤ 4) (h : Q (some (.inl (fCov (σ 135) t0 k.toNat))) shM σ) : sx_Run X 276 [.inr (.inr 124), .inl t0, .inl k] shM σ Q := by
  have r38 := pt_124_38 hT
  refine sx_rule2 (own := 12) (cd := kX12_coveredBy) (nL := 5) (by decide +kernel) (by decide +kernel) kX12_coveredBy_ok (by decide +kernel) (Nat.le_of_ble_eq_true rfl) [5] 40 (fun n t L st _ σ' => (t = 5 ∧ ∃ v i : Int, st = [] ∧ L = [some (.inr (.inr (124))), some (.inl (t0)), some (.inl (k)), some (.inl (v)), some (.inl (i))] ∧ (σ = σ' ∧ 0 ≤ i ∧ i ≤ k ∧ v = fDry (σ 135) t0 i.toNat) ∧ n = (k - i).toNat)) ?_ ?_
  · skip
    conv => whnf
    refine ⟨_, ⟨rfl, _, _, rfl, rfl, ?_, rfl⟩⟩
    refine ⟨rfl, by omega, by omega, rfl⟩
  · intro n t L st σ' hk
    obtain ⟨rfl, v, i, rfl, rfl, hc, rfl⟩ := hk
    obtain ⟨rfl, hi0, hi1, hv⟩ := hc
    have hb := fDry_bd hr t0 i.toNat
    have hb2 := fPow_4 hi0 (by omega)
    have hbk := fPow_4 hk0 hk
    have hri := hr (t0 + i)
    conv => whnf
    refine ⟨fun g => ?_, fun g => ?_⟩
    · simp only [sx_cc, Classical.not_not] at g
      conv => whnf
      refine ⟨Nat.le_of_ble_eq_true rfl, Nat.le_of_ble_eq_true rfl, ?_⟩
      refine c_Rpow (by omega) (by omega) ?_
      conv => whnf
      refine ⟨(by first | exact ⟨by omega, by omega⟩ | exact r32_dryR hr hi0 (by omega) hv (by unfold fOdd; first | (rw [if_pos ⟨by omega, by omega⟩]; done) | (rw [if_neg (by omega)]; omega; done) | (rw [if_neg (by omega)]; done) | (exfalso; omega))), ?_⟩
      conv => whnf
      refine ⟨fun q9 => by first | (simp at q9; done) | omega, ?_⟩
      have e9 : i = k := by omega
      subst e9
      subst hv
      exact h
    · simp only [sx_cc, Classical.not_not] at g
      conv => whnf
      refine ⟨(by first | exact ⟨by omega, by omega⟩ | exact r32_dryR hr hi0 (by omega) hv (by unfold fOdd; first | (rw [if_pos ⟨by omega, by omega⟩]; done) | (rw [if_neg (by omega)]; omega; done) | (rw [if_neg (by omega)]; done) | (exfalso; omega))), ?_⟩
      conv => whnf
      refine ⟨fun g => ?_, fun g => ?_⟩
      · simp only [sx_cc, Classical.not_not] at g
        conv => whnf
        refine ⟨(by first | exact ⟨by omega, by omega⟩ | exact r32_dryR hr hi0 (by omega) hv (by unfold fOdd; first | (rw [if_pos ⟨by omega, by omega⟩]; done) | (rw [if_neg (by omega)]; omega; done) | (rw [if_neg (by omega)]; done) | (exfalso; omega))), ?_⟩
        conv => whnf
        refine ⟨(by first | exact ⟨by omega, by omega⟩ | exact r32_dryR hr hi0 (by omega) hv (by unfold fOdd; first | (rw [if_pos ⟨by omega, by omega⟩]; done) | (rw [if_neg (by omega)]; omega; done) | (rw [if_neg (by omega)]; done) | (exfalso; omega))), ?_⟩
        conv => whnf
        refine ⟨(by first | exact ⟨by omega, by omega⟩ | exact r32_dryR hr hi0 (by omega) hv (by unfold fOdd; first | (rw [if_pos ⟨by omega, by omega⟩]; done) | (rw [if_neg (by omega)]; omega; done) | (rw [if_neg (by omega)]; done) | (exfalso; omega))), ?_⟩
        conv => whnf
        refine ⟨_, ?_, ⟨rfl, _, _, rfl, rfl, ?_, rfl⟩⟩
        · omega
        · refine ⟨rfl, by omega, by omega, ?_⟩
          rw [fDry_s hi0, ← hv]
          unfold fOdd
          first | (rw [if_pos ⟨by omega, by omega⟩]; done) | (rw [if_neg (by omega), Int.sub_zero]; done) | (rw [if_neg (by omega)]; rfl) | (exfalso; omega)
      · simp only [sx_cc, Classical.not_not] at g
        conv => whnf
        refine ⟨(by first | assumption | rfl), ?_⟩
        try simp (disch := omega) only [Int.cast_ofNat_Int, up_s, up_a, up_i, mp_a, mp_ge, cp_a, r38]
        conv => whnf
        refine ⟨(by first | exact ⟨by omega, by omega⟩ | exact r32_dryR hr hi0 (by omega) hv (by unfold fOdd; first | (rw [if_pos ⟨by omega, by omega⟩]; done) | (rw [if_neg (by omega)]; omega; done) | (rw [if_neg (by omega)]; done) | (exfalso; omega))), ?_⟩
        conv => whnf
        refine ⟨sx_ixI (by first | assumption | rfl) (by omega) (by omega), ?_⟩
        try simp (disch := omega) only [Int.cast_ofNat_Int, up_s, up_a, up_i, mp_a, mp_ge, cp_a, r38]
        conv => whnf
        refine ⟨(by first | exact ⟨by omega, by omega⟩ | exact r32_dryR hr hi0 (by omega) hv (by unfold fOdd; first | (rw [if_pos ⟨by omega, by omega⟩]; done) | (rw [if_neg (by omega)]; omega; done) | (rw [if_neg (by omega)]; done) | (exfalso; omega))), ?_⟩
        conv => whnf
        refine ⟨(by first | exact ⟨by omega, by omega⟩ | exact r32_dryR hr hi0 (by omega) hv (by unfold fOdd; first | (rw [if_pos ⟨by omega, by omega⟩]; done) | (rw [if_neg (by omega)]; omega; done) | (rw [if_neg (by omega)]; done) | (exfalso; omega))), ?_⟩
        conv => whnf
        refine ⟨(by first | exact ⟨by omega, by omega⟩ | exact r32_dryR hr hi0 (by omega) hv (by unfold fOdd; first | (rw [if_pos ⟨by omega, by omega⟩]; done) | (rw [if_neg (by omega)]; omega; done) | (rw [if_neg (by omega)]; done) | (exfalso; omega))), ?_⟩
        conv => whnf
        refine ⟨_, ?_, ⟨rfl, _, _, rfl, rfl, ?_, rfl⟩⟩
        · omega
        · refine ⟨rfl, by omega, by omega, ?_⟩
          rw [fDry_s hi0, ← hv]
          unfold fOdd
          first | (rw [if_pos ⟨by omega, by omega⟩]; done) | (rw [if_neg (by omega), Int.sub_zero]; done) | (rw [if_neg (by omega)]; rfl) | (exfalso; omega)
set_option maxRecDepth 20000 in
theorem c_Rgcd {a b : Int} (ha : 0 ≤ a ∧ a ≤ 100000000) (hb : 0 ≤ b ∧ b ≤ 100000000) (h : Q (some (.inl (fGcd a b))) shM σ) : sx_Run X 277 [.inl a, .inl b] shM σ Q := by
  refine sx_rule2 (own := 12) (cd := kX12_common) (nL := 5) (by decide +kernel) (by decide +kernel) kX12_common_ok (by decide +kernel) (Nat.le_of_ble_eq_true rfl) [4] 40 (fun n t L st _ σ' => (t = 4 ∧ ∃ u v : Int, ∃ w9 : Option sx_V, st = [] ∧ L = [some (.inl (a)), some (.inl (b)), some (.inl (u)), some (.inl (v)), w9] ∧ (σ = σ' ∧ 0 ≤ u ∧ 0 ≤ v ∧ u ≤ 100000000 ∧ v ≤ 100000000 ∧ fGcd a b = fGcd u v) ∧ n = v.toNat)) ?_ ?_
  · skip
    conv => whnf
    refine ⟨_, ⟨rfl, _, _, _, rfl, rfl, ?_, rfl⟩⟩
    refine ⟨rfl, ha.1, hb.1, ha.2, hb.2, rfl⟩
  · intro n t L st σ' hk
    obtain ⟨rfl, u, v, w9, rfl, rfl, hc, rfl⟩ := hk
    obtain ⟨rfl, hu, hv, hu2, hv2, hg⟩ := hc
    conv => whnf
    refine ⟨fun g => ?_, fun g => ?_⟩
    · simp only [sx_cc, Classical.not_not] at g
      conv => whnf
      refine ⟨fun q9 => by first | (simp at q9; done) | omega, ?_⟩
      subst g
      rw [fGcd_0 hu] at hg
      exact q_to h hg
    · simp only [sx_cc, Classical.not_not] at g
      conv => whnf
      refine ⟨by omega, (show sx_r32 _ from ⟨by have := tm_bd hu (show 0 < v by omega); omega, by have := tm_bd hu (show 0 < v by omega); omega⟩), ?_⟩
      conv => whnf
      refine ⟨_, ?_, ⟨rfl, _, _, _, rfl, rfl, ?_, rfl⟩⟩
      · have hb9 := tm_bd hu (show 0 < v by omega)
        omega
      · have hb9 := tm_bd hu (show 0 < v by omega)
        refine ⟨rfl, hv, hb9.1, hv2, by omega, ?_⟩
        rw [hg]; exact fGcd_s hu (by omega)
set_option maxRecDepth 20000 in
theorem c_Rhas (hT : PT σ) (hr : HR σ 135) {a b : Int} (ha0 : 0 ≤ a) (ha : a < 24) (h : Q (some (.inl (fGain (σ 135) a b))) shM σ) : sx_Run X 280 [.inr (.inr 124), .inl a, .inl b] shM σ Q := by
  have hc := fCov_bd (k := 2) hr a (by omega) (by omega)
  have hc2 := tdiv2_bd hc.1
  refine sx_rule0 (own := 12) (cd := kX12_has) (nL := 3) (by decide +kernel) (by decide +kernel) kX12_has_ok (by decide +kernel) (Nat.le_of_ble_eq_true rfl) 40 ?_
  conv => whnf
  refine ⟨fun g => ?_, fun g => ?_⟩
  · simp only [sx_cc, Classical.not_not] at g
    conv => whnf
    refine ⟨Nat.le_of_ble_eq_true rfl, Nat.le_of_ble_eq_true rfl, (by first | assumption | rfl), ?_⟩
    refine c_Rcov hT hr (by omega) (by omega) (by omega) (by omega) ?_
    conv => whnf
    refine ⟨fun q9 => by first | (simp at q9; done) | omega, ?_⟩
    exact q_to h (by unfold fGain; first | (rw [if_pos (by omega)]; rfl) | (rw [if_neg (by omega)]; rfl))
  · simp only [sx_cc, Classical.not_not] at g
    conv => whnf
    refine ⟨Nat.le_of_ble_eq_true rfl, Nat.le_of_ble_eq_true rfl, (by first | assumption | rfl), ?_⟩
    refine c_Rcov hT hr (by omega) (by omega) (by omega) (by omega) ?_
    conv => whnf
    refine ⟨by omega, (show sx_r32 _ from ⟨by first | omega | (simp only [show (2 : Int).toNat = 2 from rfl] at *; omega), by first | omega | (simp only [show (2 : Int).toNat = 2 from rfl] at *; omega)⟩), ?_⟩
    conv => whnf
    refine ⟨fun q9 => by first | (simp at q9; done) | omega, ?_⟩
    exact q_to h (by unfold fGain; first | (rw [if_pos (by omega)]; rfl) | (rw [if_neg (by omega)]; rfl))
set_option maxRecDepth 20000 in
theorem c_Rrest1 (hT : PT σ) (hr : HR σ 135) {a b t0 k : Int} (ht0 : 0 ≤ t0) (ht : t0 < 24) (hk0 : 0 ≤ k) (hkt : t0 + k ≤ 24) (ha : 0 ≤ a ∧ a < 24) (hb : 0 ≤ b ∧ b < 24) (h : Q (some (.inl (if fRst (σ 135) a b t0 k.toNat = true then 1 else 0))) shM σ) : sx_Run X 281 [.inr (.inr 124), .inl t0, .inl k, .inl a, .inl b] shM σ Q := by
  refine sx_rule2 (own := 12) (cd := kX12_isRest) (nL := 6) (by decide +kernel) (by decide +kernel) kX12_isRest_ok (by decide +kernel) (Nat.le_of_ble_eq_true rfl) [3] 40 (fun n t L st _ σ' => (t = 3 ∧ ∃ i : Int, st = [] ∧ L = [some (.inr (.inr (124))), some (.inl (t0)), some (.inl (k)), some (.inl (a)), some (.inl (b)), some (.inl (i))] ∧ (σ = σ' ∧ t0 ≤ i ∧ i ≤ t0 + k ∧ fRst (σ 135) a b t0 (i - t0).toNat = true) ∧ n = (t0 + k - i).toNat)) ?_ ?_
  · skip
    conv => whnf
    refine ⟨_, ⟨rfl, _, rfl, rfl, ?_, rfl⟩⟩
    refine ⟨rfl, by omega, by omega, ?_⟩
    rw [show t0 - t0 = 0 by omega]
    rfl
  · intro n t L st σ' hk
    obtain ⟨rfl, i, rfl, rfl, hc, rfl⟩ := hk
    obtain ⟨rfl, hi0, hi1, hv⟩ := hc
    conv => whnf
    refine ⟨⟨by omega, by omega⟩, ?_⟩
    conv => whnf
    refine ⟨fun g => ?_, fun g => ?_⟩
    · simp only [sx_cc, Classical.not_not] at g
      conv => whnf
      refine ⟨fun q9 => by first | (simp at q9; done) | omega, ?_⟩
      have e9 : i = t0 + k := by omega
      rw [e9, show t0 + k - t0 = k by omega] at hv
      rw [hv] at h
      exact h
    · simp only [sx_cc, Classical.not_not] at g
      conv => whnf
      refine ⟨Nat.le_of_ble_eq_true rfl, Nat.le_of_ble_eq_true rfl, (by first | assumption | rfl), ?_⟩
      refine c_Rhas hT hr (by omega) (by omega) ?_
      conv => whnf
      refine ⟨Nat.le_of_ble_eq_true rfl, Nat.le_of_ble_eq_true rfl, (by first | assumption | rfl), ?_⟩
      refine c_Rhas hT hr (by omega) (by omega) ?_
      conv => whnf
      refine ⟨fun g => ?_, fun g => ?_⟩
      · simp only [sx_cc, Classical.not_not] at g
        conv => whnf
        refine ⟨fun q9 => by first | (simp at q9; done) | omega, ?_⟩
        have e8 : fRst (σ 135) a b t0 (i + 1 - t0).toNat = false := by
          rw [show i + 1 - t0 = (i - t0) + 1 by omega, fRst_s (by omega), hv, show t0 + (i - t0) = i by omega]
          simp only [Bool.true_and, Bool.and_eq_false_iff, decide_eq_false_iff_not]
          omega
        have e7 := fRst_no e8 k.toNat (by omega)
        rw [e7] at h
        exact h
      · simp only [sx_cc, Classical.not_not] at g
        conv => whnf
        refine ⟨Nat.le_of_ble_eq_true rfl, Nat.le_of_ble_eq_true rfl, (by first | assumption | rfl), ?_⟩
        refine c_Rhas hT hr (by omega) (by omega) ?_
        conv => whnf
        refine ⟨Nat.le_of_ble_eq_true rfl, Nat.le_of_ble_eq_true rfl, (by first | assumption | rfl), ?_⟩
        refine c_Rhas hT hr (by omega) (by omega) ?_
        conv => whnf
        refine ⟨fun g => ?_, fun g => ?_⟩
        · simp only [sx_cc, Classical.not_not] at g
          conv => whnf
          refine ⟨⟨by omega, by omega⟩, ?_⟩
          conv => whnf
          refine ⟨_, ?_, ⟨rfl, _, rfl, rfl, ?_, rfl⟩⟩
          · omega
          · refine ⟨rfl, by omega, by omega, ?_⟩
            rw [show i + 1 - t0 = (i - t0) + 1 by omega, fRst_s (by omega), hv, show t0 + (i - t0) = i by omega]
            simp only [Bool.true_and, Bool.and_eq_true, decide_eq_true_eq]
            omega
        · simp only [sx_cc, Classical.not_not] at g
          conv => whnf
          refine ⟨fun q9 => by first | (simp at q9; done) | omega, ?_⟩
          have e8 : fRst (σ 135) a b t0 (i + 1 - t0).toNat = false := by
            rw [show i + 1 - t0 = (i - t0) + 1 by omega, fRst_s (by omega), hv, show t0 + (i - t0) = i by omega]
            simp only [Bool.true_and, Bool.and_eq_false_iff, decide_eq_false_iff_not]
            omega
          have e7 := fRst_no e8 k.toNat (by omega)
          rw [e7] at h
          exact h
set_option maxRecDepth 20000 in
theorem c_Rhours {x y : Int} (h1 : 0 ≤ x → x < 24 → 1 ≤ y → y ≤ 6 → x + y ≤ 24 → Q (some (.inl 1)) shM σ) (h0 : ¬ (0 ≤ x ∧ x < 24 ∧ 1 ≤ y ∧ y ≤ 6 ∧ x + y ≤ 24) → Q (some (.inl 0)) shM σ) : sx_Run X 282 [.inr (.inr 124), .inl x, .inl y] shM σ Q := by
  refine sx_rule0 (own := 12) (cd := kX12_areHours) (nL := 3) (by decide +kernel) (by decide +kernel) kX12_areHours_ok (by decide +kernel) (Nat.le_of_ble_eq_true rfl) 40 ?_
  conv => whnf
  refine ⟨Nat.le_of_ble_eq_true rfl, Nat.le_of_ble_eq_true rfl, ?_⟩
  refine c_Rin (fun g1 g2 => ?_) (fun g0 => ?_)
  · skip
    conv => whnf
    refine ⟨fun g => ?_, fun g => ?_⟩
    · exact absurd g (by simp [sx_cc])
    · skip
      conv => whnf
      refine ⟨Nat.le_of_ble_eq_true rfl, Nat.le_of_ble_eq_true rfl, ?_⟩
      refine c_Rin (fun g1 g2 => ?_) (fun g0 => ?_)
      · skip
        conv => whnf
        refine ⟨fun g => ?_, fun g => ?_⟩
        · exact absurd g (by simp [sx_cc])
        · skip
          conv => whnf
          refine ⟨⟨by omega, by omega⟩, ?_⟩
          conv => whnf
          refine ⟨fun g => ?_, fun g => ?_⟩
          · simp only [sx_cc, Classical.not_not] at g
            conv => whnf
            refine ⟨fun q9 => by first | (simp at q9; done) | omega, ?_⟩
            first | exact h1 (by omega) (by omega) (by omega) (by omega) (by omega) | exact h0 (by omega)
          · simp only [sx_cc, Classical.not_not] at g
            conv => whnf
            refine ⟨fun q9 => by first | (simp at q9; done) | omega, ?_⟩
            first | exact h1 (by omega) (by omega) (by omega) (by omega) (by omega) | exact h0 (by omega)
      · skip
        conv => whnf
        refine ⟨fun g => ?_, fun g => ?_⟩
        · skip
          conv => whnf
          refine ⟨fun q9 => by first | (simp at q9; done) | omega, ?_⟩
          first | exact h1 (by omega) (by omega) (by omega) (by omega) (by omega) | exact h0 (by omega)
        · exact absurd g (by simp [sx_cc])
  · skip
    conv => whnf
    refine ⟨fun g => ?_, fun g => ?_⟩
    · skip
      conv => whnf
      refine ⟨fun q9 => by first | (simp at q9; done) | omega, ?_⟩
      first | exact h1 (by omega) (by omega) (by omega) (by omega) (by omega) | exact h0 (by omega)
    · exact absurd g (by simp [sx_cc])
set_option maxRecDepth 20000 in
theorem c_RrestAt (hT : PT σ) (hr : HR σ 135) {t0 k q : Int} (ht0 : 0 ≤ t0) (ht : t0 < 24) (hk0 : 1 ≤ k) (hk6 : k ≤ 6) (hkt : t0 + k ≤ 24) (h1 : q < 0 → Q (some (.inl (fOut (σ 135) t0 k.toNat k.toNat))) shM σ) (h2 : 0 ≤ q → Q (some (.inl (if fSe (fKo (σ 135) t0 k.toNat q) k.toNat = -1 then -2 else fSe (fKo (σ 135) t0 k.toNat q) k.toNat))) shM σ) : sx_Run X 283 [.inr (.inr 124), .inl t0, .inl k, .inl q] shM σ Q := by
  refine sx_rule2 (own := 12) (cd := kX12_restAt) (nL := 7) (by decide +kernel) (by decide +kernel) kX12_restAt_ok (by decide +kernel) (Nat.le_of_ble_eq_true rfl) [6, 17] 40 (fun n t L st _ σ' => (t = 6 ∧ ∃ v a : Int, ∃ w6 : Option sx_V, st = [] ∧ L = [some (.inr (.inr (124))), some (.inl (t0)), some (.inl (k)), some (.inl (q)), some (.inl (v)), some (.inl (a)), w6] ∧ (σ = σ' ∧ t0 ≤ a ∧ a ≤ t0 + k ∧ v = fOut (σ 135) t0 k.toNat (a - t0).toNat ∧ fSe (fKo (σ 135) t0 k.toNat q) (a - t0).toNat = -1) ∧ n = ((t0 + k - a) * 100 + 99).toNat) ∨ (t = 17 ∧ ∃ v a b : Int, st = [] ∧ L = [some (.inr (.inr (124))), some (.inl (t0)), some (.inl (k)), some (.inl (q)), some (.inl (v)), some (.inl (a)), some (.inl (b))] ∧ (σ = σ' ∧ t0 ≤ a ∧ a < t0 + k ∧ t0 ≤ b ∧ b ≤ t0 + k ∧ v = fOut (σ 135) t0 k.toNat (a - t0).toNat + fIn (σ 135) t0 k.toNat a (b - t0).toNat ∧ fSe (fKo (σ 135) t0 k.toNat q) (a - t0).toNat = -1 ∧ fSe (fKi (σ 135) t0 k.toNat q a) (b - t0).toNat = -1) ∧ n = ((t0 + k - a) * 100 + (t0 + k - b)).toNat)) ?_ ?_
  · skip
    conv => whnf
    refine ⟨_, Or.inl ⟨rfl, _, _, _, rfl, rfl, ?_, rfl⟩⟩
    refine ⟨rfl, by omega, by omega, ?_, ?_⟩ <;> rw [show t0 - t0 = 0 by omega] <;> rfl
  · intro n t L st σ' hk
    rcases hk with hk | hk
    · obtain ⟨rfl, v, a, w6, rfl, rfl, hc, rfl⟩ := hk
      obtain ⟨rfl, ha0, ha1, hv, hs⟩ := hc
      have hbo := fOut_bd (σ 135) t0 (n := k.toNat) (by omega) (a - t0).toNat
      conv => whnf
      refine ⟨⟨by omega, by omega⟩, ?_⟩
      conv => whnf
      refine ⟨fun g => ?_, fun g => ?_⟩
      · simp only [sx_cc, Classical.not_not] at g
        conv => whnf
        refine ⟨fun g => ?_, fun g => ?_⟩
        · simp only [sx_cc, Classical.not_not] at g
          conv => whnf
          refine ⟨fun q9 => by first | (simp at q9; done) | omega, ?_⟩
          have ea : a - t0 = k := by omega
          rw [ea] at hv hs
          first | (have h3 := h1 (by omega); rw [← hv] at h3; exact h3) | (have h3 := h2 (by omega); rw [hs, if_pos rfl] at h3; exact h3)
        · simp only [sx_cc, Classical.not_not] at g
          conv => whnf
          refine ⟨fun q9 => by first | (simp at q9; done) | omega, ?_⟩
          have ea : a - t0 = k := by omega
          rw [ea] at hv hs
          first | (have h3 := h1 (by omega); rw [← hv] at h3; exact h3) | (have h3 := h2 (by omega); rw [hs, if_pos rfl] at h3; exact h3)
      · simp only [sx_cc, Classical.not_not] at g
        conv => whnf
        refine ⟨_, ?_, Or.inr (⟨rfl, _, _, _, rfl, rfl, ?_, rfl⟩)⟩
        · omega
        · refine ⟨rfl, by omega, by omega, by omega, by omega, ?_, hs, ?_⟩
          · rw [show t0 - t0 = 0 by omega, hv]
            show _ = _ + 0
            omega
          · rw [show t0 - t0 = 0 by omega]
            rfl
    · obtain ⟨rfl, v, a, b, rfl, rfl, hc, rfl⟩ := hk
      obtain ⟨rfl, ha0, ha1, hb0, hb1, hv, hs, hs2⟩ := hc
      have hbo := fOut_bd (σ 135) t0 (n := k.toNat) (by omega) (a - t0).toNat
      have hbi := fIn_bd (σ 135) t0 k.toNat a (b - t0).toNat
      have ebt : t0 + (b - t0) = b := by omega
      conv => whnf
      refine ⟨⟨by omega, by omega⟩, ?_⟩
      conv => whnf
      refine ⟨fun g => ?_, fun g => ?_⟩
      · simp only [sx_cc, Classical.not_not] at g
        conv => whnf
        refine ⟨⟨by omega, by omega⟩, ?_⟩
        conv => whnf
        refine ⟨_, ?_, Or.inl ⟨rfl, _, _, _, rfl, rfl, ?_, rfl⟩⟩
        · omega
        · have eb : b - t0 = k := by omega
          rw [eb] at hv hs2
          refine ⟨rfl, by omega, by omega, ?_, ?_⟩
          · rw [show a + 1 - t0 = (a - t0) + 1 by omega, fOut_s (by omega), show t0 + (a - t0) = a by omega]
            omega
          · rw [show a + 1 - t0 = (a - t0) + 1 by omega]
            refine fSe_no (by omega) hs ?_
            unfold fKo
            rw [show t0 + (a - t0) = a by omega]
            exact hs2
      · simp only [sx_cc, Classical.not_not] at g
        conv => whnf
        refine ⟨Nat.le_of_ble_eq_true rfl, Nat.le_of_ble_eq_true rfl, (by first | assumption | rfl), ?_⟩
        refine c_Rrest1 hT hr (by omega) (by omega) (by omega) (by omega) ⟨by omega, by omega⟩ ⟨by omega, by omega⟩ ?_
        by_cases gr : fRst (σ 135) a b t0 k.toNat = true
        · rw [if_pos gr]
          conv => whnf
          refine ⟨fun g => ?_, fun g => ?_⟩
          · skip
            conv => whnf
            refine ⟨fun g => ?_, fun g => ?_⟩
            · simp only [sx_cc, Classical.not_not] at g
              conv => whnf
              refine ⟨⟨by omega, by omega⟩, ?_⟩
              conv => whnf
              refine ⟨⟨by omega, by omega⟩, ?_⟩
              conv => whnf
              refine ⟨_, ?_, Or.inr (⟨rfl, _, _, _, rfl, rfl, ?_, rfl⟩)⟩
              · omega
              · refine ⟨rfl, by omega, by omega, by omega, by omega, ?_, hs, ?_⟩
                · rw [show b + 1 - t0 = (b - t0) + 1 by omega, fIn_s (by omega), ebt]
                  first | (rw [if_pos (by assumption)]; omega) | (rw [if_neg (by assumption)]; omega)
                · rw [show b + 1 - t0 = (b - t0) + 1 by omega]
                  refine fSe_no (by omega) hs2 ?_
                  unfold fKi
                  rw [ebt, if_neg]
                  intro z
                  first | exact absurd z.1 (by assumption) | (have := z.2; omega)
            · simp only [sx_cc, Classical.not_not] at g
              conv => whnf
              refine ⟨⟨by omega, by omega⟩, ?_⟩
              conv => whnf
              refine ⟨⟨by omega, by omega⟩, ?_⟩
              conv => whnf
              refine ⟨fun q9 => by first | (simp at q9; done) | omega, ?_⟩
              have e1 : fKi (σ 135) t0 k.toNat q a (b - t0) = 100 * a + b := by
                unfold fKi
                rw [ebt, if_pos ⟨by assumption, by omega⟩]
              have e2 : fKo (σ 135) t0 k.toNat q (a - t0) = 100 * a + b := by
                unfold fKo
                rw [show t0 + (a - t0) = a by omega, fSe_hit (i := b - t0) (by omega) (by omega) hs2 (by rw [e1]; omega), e1]
              have e3 : fSe (fKo (σ 135) t0 k.toNat q) k.toNat = 100 * a + b := by rw [fSe_hit (i := a - t0) (by omega) (by omega) hs (by rw [e2]; omega), e2]
              have hq : 0 ≤ q := by omega
              have h3 := h2 hq
              rw [e3, if_neg (by omega)] at h3
              exact h3
          · exact absurd g (by simp [sx_cc])
        · rw [if_neg gr]
          conv => whnf
          refine ⟨fun g => ?_, fun g => ?_⟩
          · exact absurd g (by simp [sx_cc])
          · skip
            conv => whnf
            refine ⟨⟨by omega, by omega⟩, ?_⟩
            conv => whnf
            refine ⟨_, ?_, Or.inr (⟨rfl, _, _, _, rfl, rfl, ?_, rfl⟩)⟩
            · omega
            · refine ⟨rfl, by omega, by omega, by omega, by omega, ?_, hs, ?_⟩
              · rw [show b + 1 - t0 = (b - t0) + 1 by omega, fIn_s (by omega), ebt]
                first | (rw [if_pos (by assumption)]; omega) | (rw [if_neg (by assumption)]; omega)
              · rw [show b + 1 - t0 = (b - t0) + 1 by omega]
                refine fSe_no (by omega) hs2 ?_
                unfold fKi
                rw [ebt, if_neg]
                intro z
                first | exact absurd z.1 (by assumption) | (have := z.2; omega)
end SXF2
