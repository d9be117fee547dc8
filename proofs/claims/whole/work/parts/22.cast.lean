/-! THE FORECAST, both sides (by wip/whole) -/
section SXF
variable {X : sx_X} {σ : sx_S} {p : Int} {Q : sx_R}
def HR (σ : sx_S) (a : Int) : Prop := ∀ i : Int, 0 ≤ i → i < 24 → 0 ≤ σ a i ∧ σ a i ≤ 100
theorem r32_dry {σ : sx_S} {a t0 i v w : Int} (hr : HR σ a) (h0 : 0 ≤ i - t0) (h4 : i - t0 < 4) (hv : v = fDry (σ a) t0 (i - t0).toNat) (hw : fOdd (σ a) i = w) : sx_r32 (v * w) := by
  have h1 := fDry_bd hr t0 (i - t0).toNat
  have h2 := fPow_3 h0 h4
  have h3 := fOdd_bd hr i
  have := mul_bd (x := v) (y := w) (a := 1000000) (b := 100) (by omega) (by omega) (by omega) (by omega)
  exact ⟨by omega, by omega⟩
set_option maxRecDepth 20000 in
theorem c_Fwhole (hp : isP p) {k : Int} (hk0 : 0 ≤ k) (hk : k ≤ 4) (h : Q (some (.inl (fPow k.toNat))) shM σ) : sx_Run X 9 [.inr (.inr (p + 9)), .inl k] shM σ Q := by
  refine sx_rule2 (own := 1) (cd := kX1_whole) (nL := 4) (by decide +kernel) (by decide +kernel) kX1_whole_ok (by decide +kernel) (Nat.le_of_ble_eq_true rfl) [4] 40 (fun n t L st _ σ' => (t = 4 ∧ ∃ v i : Int, st = [] ∧ L = [some (.inr (.inr (p + 9))), some (.inl (k)), some (.inl (v)), some (.inl (i))] ∧ (σ = σ' ∧ 0 ≤ i ∧ i ≤ k ∧ v = fPow i.toNat) ∧ n = (k - i).toNat)) ?_ ?_
  · skip
    conv => whnf
    refine ⟨_, ⟨rfl, _, _, rfl, rfl, ?_, rfl⟩⟩
    refine ⟨rfl, by omega, by omega, rfl⟩
  · intro n t L st σ' hk
    obtain ⟨rfl, v, i, rfl, rfl, hc, rfl⟩ := hk
    obtain ⟨rfl, hi0, hi1, hv⟩ := hc
    conv => whnf
    refine ⟨fun g => ?_, fun g => ?_⟩
    · simp only [sx_cc, Classical.not_not] at g
      conv => whnf
      refine ⟨fun q9 => by first | (simp at q9; done) | omega, ?_⟩
      have e9 : i = k := by omega
      subst e9
      subst hv
      exact h
    · simp only [sx_cc, Classical.not_not] at g
      conv => whnf
      refine ⟨(by have h7 := fPow_4 hi0 (by omega); first | exact ⟨by omega, by omega⟩ | (have h8 := fPow_3 hi0 (by omega); exact ⟨by omega, by omega⟩)), ?_⟩
      conv => whnf
      refine ⟨(by have h7 := fPow_4 hi0 (by omega); first | exact ⟨by omega, by omega⟩ | (have h8 := fPow_3 hi0 (by omega); exact ⟨by omega, by omega⟩)), ?_⟩
      conv => whnf
      refine ⟨_, ?_, ⟨rfl, _, _, rfl, rfl, ?_, rfl⟩⟩
      · omega
      · refine ⟨rfl, by omega, by omega, ?_⟩
        rw [fPow_s hi0, hv]
set_option maxRecDepth 20000 in
theorem c_Fodds (hT : PT σ) (hp : isP p) (hr : HR σ (p + 10)) {t0 k : Int} (ht0 : 0 ≤ t0) (ht : t0 < 24) (hk0 : 0 ≤ k) (hk : k ≤ 4) (h : Q (some (.inl (fCov (σ (p + 10)) t0 k.toNat))) shM σ) : sx_Run X 10 [.inr (.inr (p + 9)), .inl t0, .inl k] shM σ Q := by
  have k9 := lkP9 hp
  have k10 := lkP10 hp
  have f0 := ptF_0 hT hp
  refine sx_rule2 (own := 1) (cd := kX1_odds) (nL := 5) (by decide +kernel) (by decide +kernel) kX1_odds_ok (by decide +kernel) (Nat.le_of_ble_eq_true rfl) [5] 40 (fun n t L st _ σ' => (t = 5 ∧ ∃ v i : Int, st = [] ∧ L = [some (.inr (.inr (p + 9))), some (.inl (t0)), some (.inl (k)), some (.inl (v)), some (.inl (i))] ∧ (σ = σ' ∧ t0 ≤ i ∧ i ≤ t0 + k ∧ v = fDry (σ (p + 10)) t0 (i - t0).toNat) ∧ n = (t0 + k - i).toNat)) ?_ ?_
  · skip
    conv => whnf
    refine ⟨_, ⟨rfl, _, _, rfl, rfl, ?_, rfl⟩⟩
    refine ⟨rfl, by omega, by omega, ?_⟩
    rw [show t0 - t0 = 0 by omega]
    rfl
  · intro n t L st σ' hk
    obtain ⟨rfl, v, i, rfl, rfl, hc, rfl⟩ := hk
    obtain ⟨rfl, hi0, hi1, hv⟩ := hc
    have hb := fDry_bd hr t0 (i - t0).toNat
    have hb2 := fPow_4 (i := i - t0) (by omega) (by omega)
    have hbk := fPow_4 hk0 hk
    have hri := hr i
    conv => whnf
    refine ⟨(by first | exact ⟨by omega, by omega⟩ | exact r32_dry hr (by omega) (by omega) hv (by unfold fOdd; first | (rw [if_pos ⟨by omega, by omega⟩]; done) | (rw [if_neg (by omega)]; done) | (exfalso; omega))), ?_⟩
    conv => whnf
    refine ⟨fun g => ?_, fun g => ?_⟩
    · simp only [sx_cc, Classical.not_not] at g
      conv => whnf
      refine ⟨Nat.le_of_ble_eq_true rfl, Nat.le_of_ble_eq_true rfl, (by first | assumption | rfl), ?_⟩
      refine c_Fwhole hp (by omega) (by omega) ?_
      conv => whnf
      refine ⟨(by first | exact ⟨by omega, by omega⟩ | exact r32_dry hr (by omega) (by omega) hv (by unfold fOdd; first | (rw [if_pos ⟨by omega, by omega⟩]; done) | (rw [if_neg (by omega)]; done) | (exfalso; omega))), ?_⟩
      conv => whnf
      refine ⟨fun q9 => by first | (simp at q9; done) | omega, ?_⟩
      have e9 : i = t0 + k := by omega
      rw [e9, show t0 + k - t0 = k by omega] at hv
      subst hv
      exact h
    · simp only [sx_cc, Classical.not_not] at g
      conv => whnf
      refine ⟨fun g => ?_, fun g => ?_⟩
      · simp only [sx_cc, Classical.not_not] at g
        conv => whnf
        refine ⟨(by first | exact ⟨by omega, by omega⟩ | exact r32_dry hr (by omega) (by omega) hv (by unfold fOdd; first | (rw [if_pos ⟨by omega, by omega⟩]; done) | (rw [if_neg (by omega)]; done) | (exfalso; omega))), ?_⟩
        conv => whnf
        refine ⟨(by first | exact ⟨by omega, by omega⟩ | exact r32_dry hr (by omega) (by omega) hv (by unfold fOdd; first | (rw [if_pos ⟨by omega, by omega⟩]; done) | (rw [if_neg (by omega)]; done) | (exfalso; omega))), ?_⟩
        conv => whnf
        refine ⟨_, ?_, ⟨rfl, _, _, rfl, rfl, ?_, rfl⟩⟩
        · omega
        · refine ⟨rfl, by omega, by omega, ?_⟩
          rw [show i + 1 - t0 = (i - t0) + 1 by omega, fDry_s (by omega), show t0 + (i - t0) = i by omega, ← hv]
          unfold fOdd
          first | (rw [if_pos ⟨by omega, by omega⟩]; done) | (rw [if_neg (by omega)]; done) | (exfalso; omega)
      · simp only [sx_cc, Classical.not_not] at g
        conv => whnf
        refine ⟨fun g => ?_, fun g => ?_⟩
        · simp only [sx_cc, Classical.not_not] at g
          conv => whnf
          refine ⟨(by first | exact ⟨by omega, by omega⟩ | exact r32_dry hr (by omega) (by omega) hv (by unfold fOdd; first | (rw [if_pos ⟨by omega, by omega⟩]; done) | (rw [if_neg (by omega)]; done) | (exfalso; omega))), ?_⟩
          conv => whnf
          refine ⟨(by first | exact ⟨by omega, by omega⟩ | exact r32_dry hr (by omega) (by omega) hv (by unfold fOdd; first | (rw [if_pos ⟨by omega, by omega⟩]; done) | (rw [if_neg (by omega)]; done) | (exfalso; omega))), ?_⟩
          conv => whnf
          refine ⟨_, ?_, ⟨rfl, _, _, rfl, rfl, ?_, rfl⟩⟩
          · omega
          · refine ⟨rfl, by omega, by omega, ?_⟩
            rw [show i + 1 - t0 = (i - t0) + 1 by omega, fDry_s (by omega), show t0 + (i - t0) = i by omega, ← hv]
            unfold fOdd
            first | (rw [if_pos ⟨by omega, by omega⟩]; done) | (rw [if_neg (by omega)]; done) | (exfalso; omega)
        · simp only [sx_cc, Classical.not_not] at g
          conv => whnf
          refine ⟨(by first | assumption | rfl), ?_⟩
          try simp (disch := omega) only [Int.cast_ofNat_Int, up_s, up_a, up_i, mp_a, mp_ge, cp_a, f0]
          conv => whnf
          refine ⟨sx_ixI (by first | assumption | rfl) (by omega) (by omega), ?_⟩
          try simp (disch := omega) only [Int.cast_ofNat_Int, up_s, up_a, up_i, mp_a, mp_ge, cp_a, f0]
          conv => whnf
          refine ⟨(by first | exact ⟨by omega, by omega⟩ | exact r32_dry hr (by omega) (by omega) hv (by unfold fOdd; first | (rw [if_pos ⟨by omega, by omega⟩]; done) | (rw [if_neg (by omega)]; done) | (exfalso; omega))), ?_⟩
          conv => whnf
          refine ⟨(by first | exact ⟨by omega, by omega⟩ | exact r32_dry hr (by omega) (by omega) hv (by unfold fOdd; first | (rw [if_pos ⟨by omega, by omega⟩]; done) | (rw [if_neg (by omega)]; done) | (exfalso; omega))), ?_⟩
          conv => whnf
          refine ⟨(by first | exact ⟨by omega, by omega⟩ | exact r32_dry hr (by omega) (by omega) hv (by unfold fOdd; first | (rw [if_pos ⟨by omega, by omega⟩]; done) | (rw [if_neg (by omega)]; done) | (exfalso; omega))), ?_⟩
          conv => whnf
          refine ⟨_, ?_, ⟨rfl, _, _, rfl, rfl, ?_, rfl⟩⟩
          · omega
          · refine ⟨rfl, by omega, by omega, ?_⟩
            rw [show i + 1 - t0 = (i - t0) + 1 by omega, fDry_s (by omega), show t0 + (i - t0) = i by omega, ← hv]
            unfold fOdd
            first | (rw [if_pos ⟨by omega, by omega⟩]; done) | (rw [if_neg (by omega)]; done) | (exfalso; omega)
set_option maxRecDepth 20000 in
theorem c_Fgain (hT : PT σ) (hp : isP p) (hr : HR σ (p + 10)) {a b : Int} (ha0 : 0 ≤ a) (ha : a < 24) (h : Q (some (.inl (fGain (σ (p + 10)) a b))) shM σ) : sx_Run X 11 [.inr (.inr (p + 9)), .inl a, .inl b] shM σ Q := by
  have k9 := lkP9 hp
  have k10 := lkP10 hp
  have hc := fCov_bd (k := 2) hr a (by omega) (by omega)
  have hc2 := tdiv2_bd hc.1
  refine sx_rule0 (own := 1) (cd := kX1_gain) (nL := 4) (by decide +kernel) (by decide +kernel) kX1_gain_ok (by decide +kernel) (Nat.le_of_ble_eq_true rfl) 40 ?_
  conv => whnf
  refine ⟨Nat.le_of_ble_eq_true rfl, Nat.le_of_ble_eq_true rfl, (by first | assumption | rfl), ?_⟩
  refine c_Fodds hT hp hr (by omega) (by omega) (by omega) (by omega) ?_
  conv => whnf
  refine ⟨fun g => ?_, fun g => ?_⟩
  · simp only [sx_cc, Classical.not_not] at g
    conv => whnf
    refine ⟨fun q9 => by first | (simp at q9; done) | omega, ?_⟩
    exact q_to h (by unfold fGain; first | (rw [if_pos (by omega)]; rfl) | (rw [if_neg (by omega)]; rfl))
  · simp only [sx_cc, Classical.not_not] at g
    conv => whnf
    refine ⟨by omega, (show sx_r32 _ from ⟨by first | omega | (simp only [show (2 : Int).toNat = 2 from rfl] at *; omega), by first | omega | (simp only [show (2 : Int).toNat = 2 from rfl] at *; omega)⟩), ?_⟩
    conv => whnf
    refine ⟨fun q9 => by first | (simp at q9; done) | omega, ?_⟩
    exact q_to h (by unfold fGain; first | (rw [if_pos (by omega)]; rfl) | (rw [if_neg (by omega)]; rfl))
set_option maxRecDepth 20000 in
theorem c_Frest (hT : PT σ) (hp : isP p) (hr : HR σ (p + 10)) {a b t0 k : Int} (ht0 : 0 ≤ t0) (ht : t0 < 24) (hk0 : 0 ≤ k) (hkt : t0 + k ≤ 24) (ha : 0 ≤ a ∧ a < 24) (hb : 0 ≤ b ∧ b < 24) (h : Q (some (.inl (if fRst (σ (p + 10)) a b t0 k.toNat = true then 1 else 0))) shM σ) : sx_Run X 12 [.inr (.inr (p + 9)), .inl a, .inl b, .inl t0, .inl k] shM σ Q := by
  have k9 := lkP9 hp
  have k10 := lkP10 hp
  refine sx_rule2 (own := 1) (cd := kX1_isRest) (nL := 8) (by decide +kernel) (by decide +kernel) kX1_isRest_ok (by decide +kernel) (Nat.le_of_ble_eq_true rfl) [19] 40 (fun n t L st _ σ' => (t = 19 ∧ ∃ i : Int, st = [] ∧ L = [some (.inr (.inr (p + 9))), some (.inl (a)), some (.inl (b)), some (.inl (t0)), some (.inl (k)), some (.inl (fGain (σ (p + 10)) a b)), some (.inl (fGain (σ (p + 10)) b a)), some (.inl (i))] ∧ (σ = σ' ∧ t0 ≤ i ∧ i ≤ t0 + k ∧ fRst (σ (p + 10)) a b t0 (i - t0).toNat = true) ∧ n = (t0 + k - i).toNat)) ?_ ?_
  · skip
    conv => whnf
    refine ⟨Nat.le_of_ble_eq_true rfl, Nat.le_of_ble_eq_true rfl, (by first | assumption | rfl), ?_⟩
    refine c_Fgain hT hp hr (by omega) (by omega) ?_
    conv => whnf
    refine ⟨Nat.le_of_ble_eq_true rfl, Nat.le_of_ble_eq_true rfl, (by first | assumption | rfl), ?_⟩
    refine c_Fgain hT hp hr (by omega) (by omega) ?_
    conv => whnf
    refine ⟨_, ⟨rfl, _, rfl, rfl, ?_, rfl⟩⟩
    refine ⟨rfl, by omega, by omega, ?_⟩
    rw [show t0 - t0 = 0 by omega]
    rfl
  · intro n t L st σ' hk
    obtain ⟨rfl, i, rfl, rfl, hc, rfl⟩ := hk
    obtain ⟨rfl, hi0, hi1, hv⟩ := hc
    conv => whnf
    refine ⟨⟨by omega, by omega⟩, ?_⟩
    conv => whnf
    refine ⟨fun g => ?_, fun g => ?_⟩
    · simp only [sx_cc, Classical.not_not] at g
      conv => whnf
      refine ⟨fun q9 => by first | (simp at q9; done) | omega, ?_⟩
      have e9 : i = t0 + k := by omega
      rw [e9, show t0 + k - t0 = k by omega] at hv
      rw [hv] at h
      exact h
    · simp only [sx_cc, Classical.not_not] at g
      conv => whnf
      refine ⟨Nat.le_of_ble_eq_true rfl, Nat.le_of_ble_eq_true rfl, (by first | assumption | rfl), ?_⟩
      refine c_Fgain hT hp hr (by omega) (by omega) ?_
      conv => whnf
      refine ⟨fun g => ?_, fun g => ?_⟩
      · simp only [sx_cc, Classical.not_not] at g
        conv => whnf
        refine ⟨fun q9 => by first | (simp at q9; done) | omega, ?_⟩
        have e8 : fRst (σ (p + 10)) a b t0 (i + 1 - t0).toNat = false := by
          rw [show i + 1 - t0 = (i - t0) + 1 by omega, fRst_s (by omega), hv, show t0 + (i - t0) = i by omega]
          simp only [Bool.true_and, Bool.and_eq_false_iff, decide_eq_false_iff_not]
          omega
        have e7 := fRst_no e8 k.toNat (by omega)
        rw [e7] at h
        exact h
      · simp only [sx_cc, Classical.not_not] at g
        conv => whnf
        refine ⟨Nat.le_of_ble_eq_true rfl, Nat.le_of_ble_eq_true rfl, (by first | assumption | rfl), ?_⟩
        refine c_Fgain hT hp hr (by omega) (by omega) ?_
        conv => whnf
        refine ⟨fun g => ?_, fun g => ?_⟩
        · simp only [sx_cc, Classical.not_not] at g
          conv => whnf
          refine ⟨⟨by omega, by omega⟩, ?_⟩
          conv => whnf
          refine ⟨_, ?_, ⟨rfl, _, rfl, rfl, ?_, rfl⟩⟩
          · omega
          · refine ⟨rfl, by omega, by omega, ?_⟩
            rw [show i + 1 - t0 = (i - t0) + 1 by omega, fRst_s (by omega), hv, show t0 + (i - t0) = i by omega]
            simp only [Bool.true_and, Bool.and_eq_true, decide_eq_true_eq]
            omega
        · simp only [sx_cc, Classical.not_not] at g
          conv => whnf
          refine ⟨fun q9 => by first | (simp at q9; done) | omega, ?_⟩
          have e8 : fRst (σ (p + 10)) a b t0 (i + 1 - t0).toNat = false := by
            rw [show i + 1 - t0 = (i - t0) + 1 by omega, fRst_s (by omega), hv, show t0 + (i - t0) = i by omega]
            simp only [Bool.true_and, Bool.and_eq_false_iff, decide_eq_false_iff_not]
            omega
          have e7 := fRst_no e8 k.toNat (by omega)
          rw [e7] at h
          exact h
set_option maxRecDepth 20000 in
theorem c_way {x : Int} (h1 : 0 ≤ x ∧ x < 4 → Q (some (.inl 1)) shM σ) (h0 : ¬ (0 ≤ x ∧ x < 4) → Q (some (.inl 0)) shM σ) : sx_Run X 171 [.inl x] shM σ Q := by
  refine sx_rule0 (own := 11) (cd := kX11_isWay) (nL := 1) (by decide +kernel) (by decide +kernel) kX11_isWay_ok (by decide +kernel) (Nat.le_of_ble_eq_true rfl) 40 ?_
  conv => whnf
  refine ⟨fun g => ?_, fun g => ?_⟩
  · simp only [sx_cc, Classical.not_not] at g
    conv => whnf
    refine ⟨fun q9 => by first | (simp at q9; done) | omega, ?_⟩
    first | exact h1 (by omega) | exact h0 (by omega)
  · simp only [sx_cc, Classical.not_not] at g
    conv => whnf
    refine ⟨fun g => ?_, fun g => ?_⟩
    · simp only [sx_cc, Classical.not_not] at g
      conv => whnf
      refine ⟨fun q9 => by first | (simp at q9; done) | omega, ?_⟩
      first | exact h1 (by omega) | exact h0 (by omega)
    · simp only [sx_cc, Classical.not_not] at g
      conv => whnf
      refine ⟨fun q9 => by first | (simp at q9; done) | omega, ?_⟩
      first | exact h1 (by omega) | exact h0 (by omega)
set_option maxRecDepth 20000 in
theorem c_casth {x : Int} (h1 : 0 ≤ x ∧ x < 24 → Q (some (.inl 1)) shM σ) (h0 : ¬ (0 ≤ x ∧ x < 24) → Q (some (.inl 0)) shM σ) : sx_Run X 172 [.inl x] shM σ Q := by
  refine sx_rule0 (own := 11) (cd := kX11_isCastHour) (nL := 1) (by decide +kernel) (by decide +kernel) kX11_isCastHour_ok (by decide +kernel) (Nat.le_of_ble_eq_true rfl) 40 ?_
  conv => whnf
  refine ⟨fun g => ?_, fun g => ?_⟩
  · simp only [sx_cc, Classical.not_not] at g
    conv => whnf
    refine ⟨fun q9 => by first | (simp at q9; done) | omega, ?_⟩
    first | exact h1 (by omega) | exact h0 (by omega)
  · simp only [sx_cc, Classical.not_not] at g
    conv => whnf
    refine ⟨fun g => ?_, fun g => ?_⟩
    · simp only [sx_cc, Classical.not_not] at g
      conv => whnf
      refine ⟨fun q9 => by first | (simp at q9; done) | omega, ?_⟩
      first | exact h1 (by omega) | exact h0 (by omega)
    · simp only [sx_cc, Classical.not_not] at g
      conv => whnf
      refine ⟨fun q9 => by first | (simp at q9; done) | omega, ?_⟩
      first | exact h1 (by omega) | exact h0 (by omega)
set_option maxRecDepth 20000 in
theorem c_span {x : Int} (h1 : 1 ≤ x ∧ x ≤ 4 → Q (some (.inl 1)) shM σ) (h0 : ¬ (1 ≤ x ∧ x ≤ 4) → Q (some (.inl 0)) shM σ) : sx_Run X 173 [.inl x] shM σ Q := by
  refine sx_rule0 (own := 11) (cd := kX11_isSpan) (nL := 1) (by decide +kernel) (by decide +kernel) kX11_isSpan_ok (by decide +kernel) (Nat.le_of_ble_eq_true rfl) 40 ?_
  conv => whnf
  refine ⟨fun g => ?_, fun g => ?_⟩
  · simp only [sx_cc, Classical.not_not] at g
    conv => whnf
    refine ⟨fun q9 => by first | (simp at q9; done) | omega, ?_⟩
    first | exact h1 (by omega) | exact h0 (by omega)
  · simp only [sx_cc, Classical.not_not] at g
    conv => whnf
    refine ⟨fun g => ?_, fun g => ?_⟩
    · simp only [sx_cc, Classical.not_not] at g
      conv => whnf
      refine ⟨fun q9 => by first | (simp at q9; done) | omega, ?_⟩
      first | exact h1 (by omega) | exact h0 (by omega)
    · simp only [sx_cc, Classical.not_not] at g
      conv => whnf
      refine ⟨fun q9 => by first | (simp at q9; done) | omega, ?_⟩
      first | exact h1 (by omega) | exact h0 (by omega)
set_option maxRecDepth 20000 in
theorem c_wait {x y : Int} (h1 : 0 ≤ x → x < 24 → 1 ≤ y → y ≤ 6 → x + y ≤ 24 → Q (some (.inl 1)) shM σ) (h0 : ¬ (0 ≤ x ∧ x < 24 ∧ 1 ≤ y ∧ y ≤ 6 ∧ x + y ≤ 24) → Q (some (.inl 0)) shM σ) : sx_Run X 174 [.inl x, .inl y] shM σ Q := by
  refine sx_rule0 (own := 11) (cd := kX11_isWaiting) (nL := 2) (by decide +kernel) (by decide +kernel) kX11_isWaiting_ok (by decide +kernel) (Nat.le_of_ble_eq_true rfl) 40 ?_
  conv => whnf
  refine ⟨Nat.le_of_ble_eq_true rfl, Nat.le_of_ble_eq_true rfl, ?_⟩
  refine c_casth (fun g1 => ?_) (fun g0 => ?_)
  · skip
    conv => whnf
    refine ⟨fun g => ?_, fun g => ?_⟩
    · exact absurd g (by simp [sx_cc])
    · skip
      conv => whnf
      refine ⟨fun g => ?_, fun g => ?_⟩
      · simp only [sx_cc, Classical.not_not] at g
        conv => whnf
        refine ⟨fun q9 => by first | (simp at q9; done) | omega, ?_⟩
        first | exact h1 (by omega) (by omega) (by omega) (by omega) (by omega) | exact h0 (by omega)
      · simp only [sx_cc, Classical.not_not] at g
        conv => whnf
        refine ⟨fun g => ?_, fun g => ?_⟩
        · simp only [sx_cc, Classical.not_not] at g
          conv => whnf
          refine ⟨fun q9 => by first | (simp at q9; done) | omega, ?_⟩
          first | exact h1 (by omega) (by omega) (by omega) (by omega) (by omega) | exact h0 (by omega)
        · simp only [sx_cc, Classical.not_not] at g
          conv => whnf
          refine ⟨⟨by omega, by omega⟩, ?_⟩
          conv => whnf
          refine ⟨fun g => ?_, fun g => ?_⟩
          · simp only [sx_cc, Classical.not_not] at g
            conv => whnf
            refine ⟨fun q9 => by first | (simp at q9; done) | omega, ?_⟩
            first | exact h1 (by omega) (by omega) (by omega) (by omega) (by omega) | exact h0 (by omega)
          · simp only [sx_cc, Classical.not_not] at g
            conv => whnf
            refine ⟨fun q9 => by first | (simp at q9; done) | omega, ?_⟩
            first | exact h1 (by omega) (by omega) (by omega) (by omega) (by omega) | exact h0 (by omega)
  · skip
    conv => whnf
    refine ⟨fun g => ?_, fun g => ?_⟩
    · skip
      conv => whnf
      refine ⟨fun q9 => by first | (simp at q9; done) | omega, ?_⟩
      first | exact h1 (by omega) (by omega) (by omega) (by omega) (by omega) | exact h0 (by omega)
    · exact absurd g (by simp [sx_cc])
theorem euc_end {a b : Int} {i : Nat} (hb : 0 ≤ b) (hab : b ≤ a) (hi : 64 ≤ i) (hp : a * b * 2 ^ (i - 1) ≤ 2 ^ 54) : b = 0 := by
  rcases Int.lt_or_eq_of_le hb with h | h
  · exfalso
    have h1 : 1 * 1 ≤ a * b := Int.mul_le_mul (by omega) (by omega) (by omega) (by omega)
    have h2 : (2 : Int) ^ 63 ≤ 2 ^ (i - 1) := by
      have : 2 ^ 63 ≤ 2 ^ (i - 1) := Nat.pow_le_pow_right (by omega) (by omega)
      exact_mod_cast this
    have h3 : 1 * (2 : Int) ^ 63 ≤ a * b * 2 ^ (i - 1) := Int.mul_le_mul (by omega) h2 (by decide) (by omega)
    have h4 : ((2 : Int) ^ 54) < 1 * 2 ^ 63 := by decide
    omega
  · exact h.symm
theorem euc_step {a b : Int} {i : Nat} (h1 : 1 ≤ i) (hb : 0 < b) (hab : b ≤ a) (hp : a * b * 2 ^ (i - 1) ≤ 2 ^ 54) : b * a.tmod b * 2 ^ (i + 1 - 1) ≤ 2 ^ 54 := by
  have h2 := euc_half hb hab
  have h3 : (2 : Int) ^ (i + 1 - 1) = 2 * 2 ^ (i - 1) := by
    rw [show i + 1 - 1 = (i - 1) + 1 by omega, Int.pow_succ, Int.mul_comm]
  rw [h3, ← Int.mul_assoc, Int.mul_comm (b * a.tmod b) 2]
  have h4 : (0 : Int) ≤ 2 ^ (i - 1) := Int.pow_nonneg (by omega)
  have h5 := Int.mul_le_mul_of_nonneg_right h2 h4
  omega
set_option maxRecDepth 20000 in
theorem c_gcd {a b : Int} (ha : 0 ≤ a ∧ a ≤ 100000000) (hb : 0 ≤ b ∧ b ≤ 100000000) (h : Q (some (.inl (fGcd a b))) shM σ) : sx_Run X 154 [.inl a, .inl b] shM σ Q := by
  refine sx_rule2 (own := 11) (cd := kX11_commonDivisor) (nL := 6) (by decide +kernel) (by decide +kernel) kX11_commonDivisor_ok (by decide +kernel) (Nat.le_of_ble_eq_true rfl) [7] 40 (fun n t L st _ σ' => (t = 7 ∧ ∃ u v i : Int, ∃ w9 : Option sx_V, st = [] ∧ L = [some (.inl (a)), some (.inl (b)), some (.inl (u)), some (.inl (v)), some (.inl (i)), w9] ∧ (σ = σ' ∧ 0 ≤ u ∧ 0 ≤ v ∧ 0 ≤ i ∧ i ≤ 64 ∧ u ≤ 100000000 ∧ v ≤ 100000000 ∧ fGcd a b = fGcd u v ∧ (i = 0 ∨ (v ≤ u ∧ u * v * 2 ^ (i.toNat - 1) ≤ 2 ^ 54))) ∧ n = (64 - i).toNat)) ?_ ?_
  · skip
    conv => whnf
    refine ⟨_, ⟨rfl, _, _, _, _, rfl, rfl, ?_, rfl⟩⟩
    refine ⟨rfl, ha.1, hb.1, by omega, by omega, ha.2, hb.2, rfl, Or.inl rfl⟩
  · intro n t L st σ' hk
    obtain ⟨rfl, u, v, i, w9, rfl, rfl, hc, rfl⟩ := hk
    obtain ⟨rfl, hu, hv, hi0, hi1, hu2, hv2, hg, hq⟩ := hc
    conv => whnf
    refine ⟨fun g => ?_, fun g => ?_⟩
    · simp only [sx_cc, Classical.not_not] at g
      conv => whnf
      refine ⟨fun q9 => by first | (simp at q9; done) | omega, ?_⟩
      have e9 : v = 0 := by
        rcases hq with rfl | ⟨q1, q2⟩
        · omega
        · by_cases e0 : v = 0
          · exact e0
          · exact euc_end hv q1 (by omega) q2
      subst e9
      rw [fGcd_0 hu] at hg
      exact q_to h hg
    · simp only [sx_cc, Classical.not_not] at g
      conv => whnf
      refine ⟨fun g => ?_, fun g => ?_⟩
      · simp only [sx_cc, Classical.not_not] at g
        conv => whnf
        refine ⟨fun q9 => by first | (simp at q9; done) | omega, ?_⟩
        have e9 : v = 0 := by
          rcases hq with rfl | ⟨q1, q2⟩
          · omega
          · by_cases e0 : v = 0
            · exact e0
            · exact euc_end hv q1 (by omega) q2
        subst e9
        rw [fGcd_0 hu] at hg
        exact q_to h hg
      · simp only [sx_cc, Classical.not_not] at g
        conv => whnf
        refine ⟨by omega, (show sx_r32 _ from ⟨by have := tm_bd hu (show 0 < v by omega); omega, by have := tm_bd hu (show 0 < v by omega); omega⟩), ?_⟩
        conv => whnf
        refine ⟨⟨by omega, by omega⟩, ?_⟩
        conv => whnf
        refine ⟨_, ?_, ⟨rfl, _, _, _, _, rfl, rfl, ?_, rfl⟩⟩
        · omega
        · have hb9 := tm_bd hu (show 0 < v by omega)
          refine ⟨rfl, hv, hb9.1, by omega, by omega, hv2, by omega, ?_, Or.inr ⟨by omega, ?_⟩⟩
          · rw [hg]; exact fGcd_s hu (by omega)
          · rw [toNat_s hi0]
            rcases hq with rfl | ⟨q1, q2⟩
            · show v * u.tmod v * 2 ^ 0 ≤ 2 ^ 54
              have h9 := mul_bd (x := v) (y := u.tmod v) (a := 100000000) (b := 100000000) hv hv2 hb9.1 (by omega)
              omega
            · by_cases e0 : i = 0
              · subst e0
                have h9 := mul_bd (x := v) (y := u.tmod v) (a := 100000000) (b := 100000000) hv hv2 hb9.1 (by omega)
                show v * u.tmod v * 2 ^ 0 ≤ 2 ^ 54
                omega
              · exact euc_step (by omega) (by omega) q1 q2
set_option maxRecDepth 20000 in
theorem c_Rin {n lo hi : Int} (h1 : lo ≤ n → n ≤ hi → Q (some (.inl 1)) shM σ) (h0 : ¬ (lo ≤ n ∧ n ≤ hi) → Q (some (.inl 0)) shM σ) : sx_Run X 178 [.inl n, .inl lo, .inl hi] shM σ Q := by
  refine sx_rule0 (own := 12) (cd := kX12_isIn) (nL := 3) (by decide +kernel) (by decide +kernel) kX12_isIn_ok (by decide +kernel) (Nat.le_of_ble_eq_true rfl) 40 ?_
  conv => whnf
  refine ⟨fun g => ?_, fun g => ?_⟩
  · simp only [sx_cc, Classical.not_not] at g
    conv => whnf
    refine ⟨fun q9 => by first | (simp at q9; done) | omega, ?_⟩
    first | exact h1 (by omega) (by omega) | exact h0 (by omega)
  · simp only [sx_cc, Classical.not_not] at g
    conv => whnf
    refine ⟨fun g => ?_, fun g => ?_⟩
    · simp only [sx_cc, Classical.not_not] at g
      conv => whnf
      refine ⟨fun q9 => by first | (simp at q9; done) | omega, ?_⟩
      first | exact h1 (by omega) (by omega) | exact h0 (by omega)
    · simp only [sx_cc, Classical.not_not] at g
      conv => whnf
      refine ⟨fun q9 => by first | (simp at q9; done) | omega, ?_⟩
      first | exact h1 (by omega) (by omega) | exact h0 (by omega)
set_option maxRecDepth 20000 in
theorem c_Rpow {k : Int} (hk0 : 0 ≤ k) (hk : k ≤ 4) (h : Q (some (.inl (fPow k.toNat))) shM σ) : sx_Run X 275 [.inl k] shM σ Q := by
  refine sx_rule2 (own := 12) (cd := kX12_powerOf) (nL := 3) (by decide +kernel) (by decide +kernel) kX12_powerOf_ok (by decide +kernel) (Nat.le_of_ble_eq_true rfl) [4] 40 (fun n t L st _ σ' => (t = 4 ∧ ∃ v i : Int, st = [] ∧ L = [some (.inl (k)), some (.inl (v)), some (.inl (i))] ∧ (σ = σ' ∧ 0 ≤ i ∧ i ≤ k ∧ v = fPow i.toNat) ∧ n = (k - i).toNat)) ?_ ?_
  · skip
    conv => whnf
    refine ⟨_, ⟨rfl, _, _, rfl, rfl, ?_, rfl⟩⟩
    refine ⟨rfl, by omega, by omega, rfl⟩
  · intro n t L st σ' hk
    obtain ⟨rfl, v, i, rfl, rfl, hc, rfl⟩ := hk
    obtain ⟨rfl, hi0, hi1, hv⟩ := hc
    conv => whnf
    refine ⟨fun g => ?_, fun g => ?_⟩
    · simp only [sx_cc, Classical.not_not] at g
      conv => whnf
      refine ⟨fun q9 => by first | (simp at q9; done) | omega, ?_⟩
      have e9 : i = k := by omega
      subst e9
      subst hv
      exact h
    · simp only [sx_cc, Classical.not_not] at g
      conv => whnf
      refine ⟨(by have h7 := fPow_4 hi0 (by omega); first | exact ⟨by omega, by omega⟩ | (have h8 := fPow_3 hi0 (by omega); exact ⟨by omega, by omega⟩)), ?_⟩
      conv => whnf
      refine ⟨(by have h7 := fPow_4 hi0 (by omega); first | exact ⟨by omega, by omega⟩ | (have h8 := fPow_3 hi0 (by omega); exact ⟨by omega, by omega⟩)), ?_⟩
      conv => whnf
      refine ⟨_, ?_, ⟨rfl, _, _, rfl, rfl, ?_, rfl⟩⟩
      · omega
      · refine ⟨rfl, by omega, by omega, ?_⟩
        rw [fPow_s hi0, hv]
end SXF
