/-! THE FORECAST: the public methods (by wip/whole) -/
section SXF3
variable {X : sx_X} {σ σ0 : sx_S} {p : Int} {Q : sx_R}
set_option maxRecDepth 20000 in
theorem c_covered (hT : PT σ) (hp : isP p) (e2 : σ 0 2 = p) (hr : HR σ (p + 10)) {t0 k w : Int} (h : Q (some (.inl (aCovered (σ (p + 10)) t0 k w))) shM σ) : sx_Run X 153 [.inr (.inr 0), .inl t0, .inl k, .inl w] shM σ Q := by
  have k0 := lkP0 hp
  have k9 := lkP9 hp
  have m12 := ptP_12 hT hp
  refine sx_rule0 (own := 11) (cd := kX11_covered) (nL := 7) (by decide +kernel) (by decide +kernel) kX11_covered_ok (by decide +kernel) (Nat.le_of_ble_eq_true rfl) 40 ?_
  conv => whnf
  refine ⟨Nat.le_of_ble_eq_true rfl, Nat.le_of_ble_eq_true rfl, ?_⟩
  refine c_casth (fun g1 => ?_) (fun g0 => ?_)
  · skip
    conv => whnf
    refine ⟨fun g => ?_, fun g => ?_⟩
    · exact absurd g (by simp [sx_cc])
    · skip
      conv => whnf
      refine ⟨Nat.le_of_ble_eq_true rfl, Nat.le_of_ble_eq_true rfl, ?_⟩
      refine c_span (fun g1 => ?_) (fun g0 => ?_)
      · skip
        conv => whnf
        refine ⟨fun g => ?_, fun g => ?_⟩
        · skip
          have hcb := fCov_bd (k := k) hr t0 (by omega) (by omega)
          have hpb := fPow_4 (i := k) (by omega) (by omega)
          have hgp := fGcd_pos (a := fCov (σ (p + 10)) t0 k.toNat) (b := fPow k.toNat) (by omega)
          have hd1 := tdg_bd hcb.1 hgp
          have hd2 := tdg_bd (x := fPow k.toNat) (by omega) hgp
          conv => whnf
          refine ⟨(by first | assumption | rfl), ?_⟩
          try simp (disch := omega) only [Int.cast_ofNat_Int, up_s, up_a, up_i, mp_a, mp_ge, cp_a, e2, m12]
          conv => whnf
          refine ⟨(by first | assumption | rfl), ?_⟩
          try simp (disch := omega) only [Int.cast_ofNat_Int, up_s, up_a, up_i, mp_a, mp_ge, cp_a, e2, m12]
          conv => whnf
          refine ⟨Nat.le_of_ble_eq_true rfl, Nat.le_of_ble_eq_true rfl, (by first | assumption | rfl), ?_⟩
          refine c_Fodds hT hp hr (by omega) (by omega) (by omega) (by omega) ?_
          conv => whnf
          refine ⟨(by first | assumption | rfl), ?_⟩
          try simp (disch := omega) only [Int.cast_ofNat_Int, up_s, up_a, up_i, mp_a, mp_ge, cp_a, e2, m12]
          conv => whnf
          refine ⟨(by first | assumption | rfl), ?_⟩
          try simp (disch := omega) only [Int.cast_ofNat_Int, up_s, up_a, up_i, mp_a, mp_ge, cp_a, e2, m12]
          conv => whnf
          refine ⟨Nat.le_of_ble_eq_true rfl, Nat.le_of_ble_eq_true rfl, (by first | assumption | rfl), ?_⟩
          refine c_Fwhole hp (by omega) (by omega) ?_
          conv => whnf
          refine ⟨Nat.le_of_ble_eq_true rfl, Nat.le_of_ble_eq_true rfl, ?_⟩
          refine c_gcd ⟨by omega, by omega⟩ ⟨by omega, by omega⟩ ?_
          conv => whnf
          refine ⟨fun g => ?_, fun g => ?_⟩
          · simp only [sx_cc, Classical.not_not] at g
            conv => whnf
            refine ⟨fun g => ?_, fun g => ?_⟩
            · skip
              conv => whnf
              refine ⟨by omega, (show sx_r32 _ from ⟨by omega, by omega⟩), ?_⟩
              conv => whnf
              refine ⟨fun q9 => by first | (simp at q9; done) | omega, ?_⟩
              exact q_to h (by unfold aCovered; first | (rw [if_neg (by omega)]; done) | (rw [if_pos ⟨by omega, by omega, by omega, by omega, by omega, by omega⟩]; first | (rw [if_pos (by omega)]; done) | (rw [if_neg (by omega)]; done)) | (exfalso; omega))
            conv => whnf
            refine ⟨fun g => ?_, fun g => ?_⟩
            · skip
              conv => whnf
              refine ⟨by omega, (show sx_r32 _ from ⟨by omega, by omega⟩), ?_⟩
              conv => whnf
              refine ⟨fun q9 => by first | (simp at q9; done) | omega, ?_⟩
              exact q_to h (by unfold aCovered; first | (rw [if_neg (by omega)]; done) | (rw [if_pos ⟨by omega, by omega, by omega, by omega, by omega, by omega⟩]; first | (rw [if_pos (by omega)]; done) | (rw [if_neg (by omega)]; done)) | (exfalso; omega))
            conv => whnf
            refine ⟨fun q9 => by first | (simp at q9; done) | omega, ?_⟩
            exact q_to h (by unfold aCovered; first | (rw [if_neg (by omega)]; done) | (rw [if_pos ⟨by omega, by omega, by omega, by omega, by omega, by omega⟩]; first | (rw [if_pos (by omega)]; done) | (rw [if_neg (by omega)]; done)) | (exfalso; omega))
          · simp only [sx_cc, Classical.not_not] at g
            conv => whnf
            refine ⟨fun q9 => by first | (simp at q9; done) | omega, ?_⟩
            exact q_to h (by unfold aCovered; first | (rw [if_neg (by omega)]; done) | (rw [if_pos ⟨by omega, by omega, by omega, by omega, by omega, by omega⟩]; first | (rw [if_pos (by omega)]; done) | (rw [if_neg (by omega)]; done)) | (exfalso; omega))
        · exact absurd g (by simp [sx_cc])
      · skip
        conv => whnf
        refine ⟨fun g => ?_, fun g => ?_⟩
        · exact absurd g (by simp [sx_cc])
        · skip
          conv => whnf
          refine ⟨fun q9 => by first | (simp at q9; done) | omega, ?_⟩
          exact q_to h (by unfold aCovered; first | (rw [if_neg (by omega)]; done) | (rw [if_pos ⟨by omega, by omega, by omega, by omega, by omega, by omega⟩]; first | (rw [if_pos (by omega)]; done) | (rw [if_neg (by omega)]; done)) | (exfalso; omega))
  · skip
    conv => whnf
    refine ⟨fun g => ?_, fun g => ?_⟩
    · skip
      conv => whnf
      refine ⟨fun q9 => by first | (simp at q9; done) | omega, ?_⟩
      exact q_to h (by unfold aCovered; first | (rw [if_neg (by omega)]; done) | (rw [if_pos ⟨by omega, by omega, by omega, by omega, by omega, by omega⟩]; first | (rw [if_pos (by omega)]; done) | (rw [if_neg (by omega)]; done)) | (exfalso; omega))
    · exact absurd g (by simp [sx_cc])
set_option maxRecDepth 20000 in
theorem r_covered (e0 : σ0 = sx_up σ 124 2 0) (hT : PT σ0) (hr : HR σ0 135) {t0 k w : Int} (h : Q (some (.inl (aCovered (σ0 135) t0 k w))) shM σ0) : sx_Run X 278 [.inr (.inr 124), .inl t0, .inl k, .inl w] shM σ Q := by
  refine sx_rule0 (own := 12) (cd := kX12_covered) (nL := 5) (by decide +kernel) (by decide +kernel) kX12_covered_ok (by decide +kernel) (Nat.le_of_ble_eq_true rfl) 40 ?_
  conv => whnf
  refine ⟨(by first | assumption | rfl), ?_⟩
  try simp (disch := omega) only [Int.cast_ofNat_Int, up_s, up_a, up_i, mp_a, mp_ge, cp_a]
  rw [← e0]
  conv => whnf
  refine ⟨Nat.le_of_ble_eq_true rfl, Nat.le_of_ble_eq_true rfl, ?_⟩
  refine c_Rin (fun g1 g2 => ?_) (fun g0 => ?_)
  · skip
    conv => whnf
    refine ⟨fun g => ?_, fun g => ?_⟩
    · exact absurd g (by simp [sx_cc])
    · skip
      conv => whnf
      refine ⟨Nat.le_of_ble_eq_true rfl, Nat.le_of_ble_eq_true rfl, ?_⟩
      refine c_Rin (fun g1 g2 => ?_) (fun g0 => ?_)
      · skip
        conv => whnf
        refine ⟨fun g => ?_, fun g => ?_⟩
        · exact absurd g (by simp [sx_cc])
        · skip
          conv => whnf
          refine ⟨Nat.le_of_ble_eq_true rfl, Nat.le_of_ble_eq_true rfl, ?_⟩
          refine c_Rin (fun g1 g2 => ?_) (fun g0 => ?_)
          · skip
            conv => whnf
            refine ⟨fun g => ?_, fun g => ?_⟩
            · skip
              have hcb := fCov_bd (k := k) hr t0 (by omega) (by omega)
              have hpb := fPow_4 (i := k) (by omega) (by omega)
              have hgp := fGcd_pos (a := fCov (σ0 135) t0 k.toNat) (b := fPow k.toNat) (by omega)
              have hd1 := tdg_bd hcb.1 hgp
              have hd2 := tdg_bd (x := fPow k.toNat) (by omega) hgp
              conv => whnf
              refine ⟨Nat.le_of_ble_eq_true rfl, Nat.le_of_ble_eq_true rfl, (by first | assumption | rfl), ?_⟩
              refine c_Rcov hT hr (by omega) (by omega) (by omega) (by omega) ?_
              conv => whnf
              refine ⟨fun g => ?_, fun g => ?_⟩
              · simp only [sx_cc, Classical.not_not] at g
                conv => whnf
                refine ⟨Nat.le_of_ble_eq_true rfl, Nat.le_of_ble_eq_true rfl, ?_⟩
                refine c_Rpow (by omega) (by omega) ?_
                conv => whnf
                refine ⟨Nat.le_of_ble_eq_true rfl, Nat.le_of_ble_eq_true rfl, ?_⟩
                refine c_Rpow (by omega) (by omega) ?_
                conv => whnf
                refine ⟨Nat.le_of_ble_eq_true rfl, Nat.le_of_ble_eq_true rfl, ?_⟩
                refine c_Rgcd ⟨by omega, by omega⟩ ⟨by omega, by omega⟩ ?_
                conv => whnf
                refine ⟨by omega, (show sx_r32 _ from ⟨by omega, by omega⟩), ?_⟩
                conv => whnf
                refine ⟨fun q9 => by first | (simp at q9; done) | omega, ?_⟩
                exact q_to h (by unfold aCovered; first | (rw [if_neg (by omega)]; done) | (rw [if_pos ⟨by omega, by omega, by omega, by omega, by omega, by omega⟩]; first | (rw [if_pos (by omega)]; done) | (rw [if_neg (by omega)]; done)) | (exfalso; omega))
              · simp only [sx_cc, Classical.not_not] at g
                conv => whnf
                refine ⟨Nat.le_of_ble_eq_true rfl, Nat.le_of_ble_eq_true rfl, ?_⟩
                refine c_Rpow (by omega) (by omega) ?_
                conv => whnf
                refine ⟨Nat.le_of_ble_eq_true rfl, Nat.le_of_ble_eq_true rfl, ?_⟩
                refine c_Rgcd ⟨by omega, by omega⟩ ⟨by omega, by omega⟩ ?_
                conv => whnf
                refine ⟨by omega, (show sx_r32 _ from ⟨by omega, by omega⟩), ?_⟩
                conv => whnf
                refine ⟨fun q9 => by first | (simp at q9; done) | omega, ?_⟩
                exact q_to h (by unfold aCovered; first | (rw [if_neg (by omega)]; done) | (rw [if_pos ⟨by omega, by omega, by omega, by omega, by omega, by omega⟩]; first | (rw [if_pos (by omega)]; done) | (rw [if_neg (by omega)]; done)) | (exfalso; omega))
            · exact absurd g (by simp [sx_cc])
          · skip
            conv => whnf
            refine ⟨fun g => ?_, fun g => ?_⟩
            · exact absurd g (by simp [sx_cc])
            · skip
              conv => whnf
              refine ⟨fun q9 => by first | (simp at q9; done) | omega, ?_⟩
              exact q_to h (by unfold aCovered; first | (rw [if_neg (by omega)]; done) | (rw [if_pos ⟨by omega, by omega, by omega, by omega, by omega, by omega⟩]; first | (rw [if_pos (by omega)]; done) | (rw [if_neg (by omega)]; done)) | (exfalso; omega))
      · skip
        conv => whnf
        refine ⟨fun g => ?_, fun g => ?_⟩
        · skip
          conv => whnf
          refine ⟨fun q9 => by first | (simp at q9; done) | omega, ?_⟩
          exact q_to h (by unfold aCovered; first | (rw [if_neg (by omega)]; done) | (rw [if_pos ⟨by omega, by omega, by omega, by omega, by omega, by omega⟩]; first | (rw [if_pos (by omega)]; done) | (rw [if_neg (by omega)]; done)) | (exfalso; omega))
        · exact absurd g (by simp [sx_cc])
  · skip
    conv => whnf
    refine ⟨fun g => ?_, fun g => ?_⟩
    · skip
      conv => whnf
      refine ⟨fun q9 => by first | (simp at q9; done) | omega, ?_⟩
      exact q_to h (by unfold aCovered; first | (rw [if_neg (by omega)]; done) | (rw [if_pos ⟨by omega, by omega, by omega, by omega, by omega, by omega⟩]; first | (rw [if_pos (by omega)]; done) | (rw [if_neg (by omega)]; done)) | (exfalso; omega))
    · exact absurd g (by simp [sx_cc])
set_option maxRecDepth 20000 in
theorem c_best (hT : PT σ) (hp : isP p) (e2 : σ 0 2 = p) (hr : HR σ (p + 10)) {a b k : Int} (h : Q (some (.inl (aBest (σ (p + 10)) a b k))) shM σ) : sx_Run X 155 [.inr (.inr 0), .inl a, .inl b, .inl k] shM σ Q := by
  have k0 := lkP0 hp
  have k9 := lkP9 hp
  have m12 := ptP_12 hT hp
  refine sx_rule2 (own := 11) (cd := kX11_best) (nL := 6) (by decide +kernel) (by decide +kernel) kX11_best_ok (by decide +kernel) (Nat.le_of_ble_eq_true rfl) [36] 40 (fun n t L st _ σ' => (t = 36 ∧ ∃ v i : Int, st = [] ∧ L = [some (.inr (.inr (0))), some (.inl (a)), some (.inl (b)), some (.inl (k)), some (.inl (v)), some (.inl (i))] ∧ (σ = σ' ∧ 0 ≤ a ∧ a ≤ b ∧ b < 24 ∧ 1 ≤ k ∧ k ≤ 4 ∧ a + 1 ≤ i ∧ i ≤ b + 1 ∧ v = fBst (σ (p + 10)) k.toNat a (i - (a + 1)).toNat) ∧ n = (b + 1 - i).toNat)) ?_ ?_
  · skip
    conv => whnf
    refine ⟨Nat.le_of_ble_eq_true rfl, Nat.le_of_ble_eq_true rfl, ?_⟩
    refine c_casth (fun g1 => ?_) (fun g0 => ?_)
    · skip
      conv => whnf
      refine ⟨fun g => ?_, fun g => ?_⟩
      · exact absurd g (by simp [sx_cc])
      · skip
        conv => whnf
        refine ⟨Nat.le_of_ble_eq_true rfl, Nat.le_of_ble_eq_true rfl, ?_⟩
        refine c_casth (fun g1 => ?_) (fun g0 => ?_)
        · skip
          conv => whnf
          refine ⟨fun g => ?_, fun g => ?_⟩
          · exact absurd g (by simp [sx_cc])
          · skip
            conv => whnf
            refine ⟨fun g => ?_, fun g => ?_⟩
            · simp only [sx_cc, Classical.not_not] at g
              conv => whnf
              refine ⟨fun q9 => by first | (simp at q9; done) | omega, ?_⟩
              exact q_to h (by unfold aBest; rw [if_neg (by omega)])
            · simp only [sx_cc, Classical.not_not] at g
              conv => whnf
              refine ⟨Nat.le_of_ble_eq_true rfl, Nat.le_of_ble_eq_true rfl, ?_⟩
              refine c_span (fun g1 => ?_) (fun g0 => ?_)
              · skip
                conv => whnf
                refine ⟨fun g => ?_, fun g => ?_⟩
                · skip
                  conv => whnf
                  refine ⟨⟨by omega, by omega⟩, ?_⟩
                  conv => whnf
                  refine ⟨_, ⟨rfl, _, _, rfl, rfl, ?_, rfl⟩⟩
                  refine ⟨rfl, by omega, by omega, by omega, by omega, by omega, by omega, by omega, ?_⟩
                  rw [show a + 1 - (a + 1) = 0 by omega]
                  rfl
                · exact absurd g (by simp [sx_cc])
              · skip
                conv => whnf
                refine ⟨fun g => ?_, fun g => ?_⟩
                · exact absurd g (by simp [sx_cc])
                · skip
                  conv => whnf
                  refine ⟨fun q9 => by first | (simp at q9; done) | omega, ?_⟩
                  exact q_to h (by unfold aBest; rw [if_neg (by omega)])
        · skip
          conv => whnf
          refine ⟨fun g => ?_, fun g => ?_⟩
          · skip
            conv => whnf
            refine ⟨fun q9 => by first | (simp at q9; done) | omega, ?_⟩
            exact q_to h (by unfold aBest; rw [if_neg (by omega)])
          · exact absurd g (by simp [sx_cc])
    · skip
      conv => whnf
      refine ⟨fun g => ?_, fun g => ?_⟩
      · skip
        conv => whnf
        refine ⟨fun q9 => by first | (simp at q9; done) | omega, ?_⟩
        exact q_to h (by unfold aBest; rw [if_neg (by omega)])
      · exact absurd g (by simp [sx_cc])
  · intro n t L st σ' hk
    obtain ⟨rfl, v, i, rfl, rfl, hc, rfl⟩ := hk
    obtain ⟨rfl, h1, h2, h3, h4, h5, h6, h7, hv⟩ := hc
    have hbb := fBst_bd (σ (p + 10)) k.toNat a (i - (a + 1)).toNat
    conv => whnf
    refine ⟨fun g => ?_, fun g => ?_⟩
    · simp only [sx_cc, Classical.not_not] at g
      conv => whnf
      refine ⟨fun q9 => by first | (simp at q9; done) | omega, ?_⟩
      have e9 : i - (a + 1) = b - a := by omega
      rw [e9] at hv
      exact q_to h (by unfold aBest; rw [if_pos ⟨by omega, by omega, by omega, by omega, by omega⟩, hv])
    · simp only [sx_cc, Classical.not_not] at g
      conv => whnf
      refine ⟨(by first | assumption | rfl), ?_⟩
      try simp (disch := omega) only [Int.cast_ofNat_Int, up_s, up_a, up_i, mp_a, mp_ge, cp_a, e2, m12]
      conv => whnf
      refine ⟨(by first | assumption | rfl), ?_⟩
      try simp (disch := omega) only [Int.cast_ofNat_Int, up_s, up_a, up_i, mp_a, mp_ge, cp_a, e2, m12]
      conv => whnf
      refine ⟨Nat.le_of_ble_eq_true rfl, Nat.le_of_ble_eq_true rfl, (by first | assumption | rfl), ?_⟩
      refine c_Fodds hT hp hr (by omega) (by omega) (by omega) (by omega) ?_
      conv => whnf
      refine ⟨(by first | assumption | rfl), ?_⟩
      try simp (disch := omega) only [Int.cast_ofNat_Int, up_s, up_a, up_i, mp_a, mp_ge, cp_a, e2, m12]
      conv => whnf
      refine ⟨(by first | assumption | rfl), ?_⟩
      try simp (disch := omega) only [Int.cast_ofNat_Int, up_s, up_a, up_i, mp_a, mp_ge, cp_a, e2, m12]
      conv => whnf
      refine ⟨Nat.le_of_ble_eq_true rfl, Nat.le_of_ble_eq_true rfl, (by first | assumption | rfl), ?_⟩
      refine c_Fodds hT hp hr (by omega) (by omega) (by omega) (by omega) ?_
      conv => whnf
      refine ⟨fun g => ?_, fun g => ?_⟩
      · simp only [sx_cc, Classical.not_not] at g
        conv => whnf
        refine ⟨⟨by omega, by omega⟩, ?_⟩
        conv => whnf
        refine ⟨_, ?_, ⟨rfl, _, _, rfl, rfl, ?_, rfl⟩⟩
        · omega
        · refine ⟨rfl, by omega, by omega, by omega, by omega, by omega, by omega, by omega, ?_⟩
          rw [show i + 1 - (a + 1) = (i - (a + 1)) + 1 by omega, fBst_s (by omega), show a + 1 + (i - (a + 1)) = i by omega, ← hv]
          first | (rw [if_pos (by omega)]; done) | (rw [if_neg (by omega)]; done)
      · simp only [sx_cc, Classical.not_not] at g
        conv => whnf
        refine ⟨⟨by omega, by omega⟩, ?_⟩
        conv => whnf
        refine ⟨_, ?_, ⟨rfl, _, _, rfl, rfl, ?_, rfl⟩⟩
        · omega
        · refine ⟨rfl, by omega, by omega, by omega, by omega, by omega, by omega, by omega, ?_⟩
          rw [show i + 1 - (a + 1) = (i - (a + 1)) + 1 by omega, fBst_s (by omega), show a + 1 + (i - (a + 1)) = i by omega, ← hv]
          first | (rw [if_pos (by omega)]; done) | (rw [if_neg (by omega)]; done)
set_option maxRecDepth 20000 in
theorem r_best (e0 : σ0 = sx_up σ 124 2 0) (hT : PT σ0) (hr : HR σ0 135) {a b k : Int} (h : Q (some (.inl (aBest (σ0 135) a b k))) shM σ0) : sx_Run X 279 [.inr (.inr 124), .inl a, .inl b, .inl k] shM σ Q := by
  refine sx_rule2 (own := 12) (cd := kX12_best) (nL := 6) (by decide +kernel) (by decide +kernel) kX12_best_ok (by decide +kernel) (Nat.le_of_ble_eq_true rfl) [44] 40 (fun n t L st _ σ' => (t = 44 ∧ ∃ v i : Int, st = [] ∧ L = [some (.inr (.inr (124))), some (.inl (a)), some (.inl (b)), some (.inl (k)), some (.inl (v)), some (.inl (i))] ∧ (σ0 = σ' ∧ 0 ≤ a ∧ a ≤ b ∧ b < 24 ∧ 1 ≤ k ∧ k ≤ 4 ∧ a + 1 ≤ i ∧ i ≤ b + 1 ∧ v = fBst (σ0 135) k.toNat a (i - (a + 1)).toNat) ∧ n = (b + 1 - i).toNat)) ?_ ?_
  · skip
    conv => whnf
    refine ⟨(by first | assumption | rfl), ?_⟩
    try simp (disch := omega) only [Int.cast_ofNat_Int, up_s, up_a, up_i, mp_a, mp_ge, cp_a]
    rw [← e0]
    conv => whnf
    refine ⟨Nat.le_of_ble_eq_true rfl, Nat.le_of_ble_eq_true rfl, ?_⟩
    refine c_Rin (fun g1 g2 => ?_) (fun g0 => ?_)
    · skip
      conv => whnf
      refine ⟨fun g => ?_, fun g => ?_⟩
      · exact absurd g (by simp [sx_cc])
      · skip
        conv => whnf
        refine ⟨Nat.le_of_ble_eq_true rfl, Nat.le_of_ble_eq_true rfl, ?_⟩
        refine c_Rin (fun g1 g2 => ?_) (fun g0 => ?_)
        · skip
          conv => whnf
          refine ⟨fun g => ?_, fun g => ?_⟩
          · exact absurd g (by simp [sx_cc])
          · skip
            conv => whnf
            refine ⟨Nat.le_of_ble_eq_true rfl, Nat.le_of_ble_eq_true rfl, ?_⟩
            refine c_Rin (fun g1 g2 => ?_) (fun g0 => ?_)
            · skip
              conv => whnf
              refine ⟨fun g => ?_, fun g => ?_⟩
              · skip
                conv => whnf
                refine ⟨⟨by omega, by omega⟩, ?_⟩
                conv => whnf
                refine ⟨_, ⟨rfl, _, _, rfl, rfl, ?_, rfl⟩⟩
                refine ⟨rfl, by omega, by omega, by omega, by omega, by omega, by omega, by omega, ?_⟩
                rw [show a + 1 - (a + 1) = 0 by omega]
                rfl
              · exact absurd g (by simp [sx_cc])
            · skip
              conv => whnf
              refine ⟨fun g => ?_, fun g => ?_⟩
              · exact absurd g (by simp [sx_cc])
              · skip
                conv => whnf
                refine ⟨fun q9 => by first | (simp at q9; done) | omega, ?_⟩
                exact q_to h (by unfold aBest; rw [if_neg (by omega)])
        · skip
          conv => whnf
          refine ⟨fun g => ?_, fun g => ?_⟩
          · skip
            conv => whnf
            refine ⟨fun q9 => by first | (simp at q9; done) | omega, ?_⟩
            exact q_to h (by unfold aBest; rw [if_neg (by omega)])
          · exact absurd g (by simp [sx_cc])
    · skip
      conv => whnf
      refine ⟨fun g => ?_, fun g => ?_⟩
      · skip
        conv => whnf
        refine ⟨fun q9 => by first | (simp at q9; done) | omega, ?_⟩
        exact q_to h (by unfold aBest; rw [if_neg (by omega)])
      · exact absurd g (by simp [sx_cc])
  · intro n t L st σ' hk
    obtain ⟨rfl, v, i, rfl, rfl, hc, rfl⟩ := hk
    obtain ⟨rfl, h1, h2, h3, h4, h5, h6, h7, hv⟩ := hc
    have hbb := fBst_bd (σ0 135) k.toNat a (i - (a + 1)).toNat
    conv => whnf
    refine ⟨fun g => ?_, fun g => ?_⟩
    · simp only [sx_cc, Classical.not_not] at g
      conv => whnf
      refine ⟨fun q9 => by first | (simp at q9; done) | omega, ?_⟩
      have e9 : i - (a + 1) = b - a := by omega
      rw [e9] at hv
      exact q_to h (by unfold aBest; rw [if_pos ⟨by omega, by omega, by omega, by omega, by omega⟩, hv])
    · simp only [sx_cc, Classical.not_not] at g
      conv => whnf
      refine ⟨Nat.le_of_ble_eq_true rfl, Nat.le_of_ble_eq_true rfl, (by first | assumption | rfl), ?_⟩
      refine c_Rcov hT hr (by omega) (by omega) (by omega) (by omega) ?_
      conv => whnf
      refine ⟨Nat.le_of_ble_eq_true rfl, Nat.le_of_ble_eq_true rfl, (by first | assumption | rfl), ?_⟩
      refine c_Rcov hT hr (by omega) (by omega) (by omega) (by omega) ?_
      conv => whnf
      refine ⟨fun g => ?_, fun g => ?_⟩
      · simp only [sx_cc, Classical.not_not] at g
        conv => whnf
        refine ⟨⟨by omega, by omega⟩, ?_⟩
        conv => whnf
        refine ⟨_, ?_, ⟨rfl, _, _, rfl, rfl, ?_, rfl⟩⟩
        · omega
        · refine ⟨rfl, by omega, by omega, by omega, by omega, by omega, by omega, by omega, ?_⟩
          rw [show i + 1 - (a + 1) = (i - (a + 1)) + 1 by omega, fBst_s (by omega), show a + 1 + (i - (a + 1)) = i by omega, ← hv]
          first | (rw [if_pos (by omega)]; done) | (rw [if_neg (by omega)]; done)
      · simp only [sx_cc, Classical.not_not] at g
        conv => whnf
        refine ⟨⟨by omega, by omega⟩, ?_⟩
        conv => whnf
        refine ⟨_, ?_, ⟨rfl, _, _, rfl, rfl, ?_, rfl⟩⟩
        · omega
        · refine ⟨rfl, by omega, by omega, by omega, by omega, by omega, by omega, by omega, ?_⟩
          rw [show i + 1 - (a + 1) = (i - (a + 1)) + 1 by omega, fBst_s (by omega), show a + 1 + (i - (a + 1)) = i by omega, ← hv]
          first | (rw [if_pos (by omega)]; done) | (rw [if_neg (by omega)]; done)
end SXF3
