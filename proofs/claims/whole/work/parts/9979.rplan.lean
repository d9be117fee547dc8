/-! THE PLAN THAT IS READ (by wip/whole) -/
section SXS5
variable {X : sx_X} {Q : sx_R} {σ σ0 σ' σ1 σ2 s s' r r1 : sx_S} {tx : Int → Int} {n9 p i : Int}
theorem fEv_cg2 {kd pt ot kd' pt' ot' nm : Int → Int} {lo hi : Int} (h : ∀ y : Int, lo ≤ y → y < hi → kd' y = kd y ∧ pt' y = pt y ∧ (3 ≤ kd y → ot' y = ot y) ∧ 0 ≤ kd y) : ∀ n : Nat, lo + n ≤ hi → fEv kd' pt' ot' nm lo n = fEv kd pt ot nm lo n
  | 0, _ => rfl
  | n + 1, hn => by
    have h1 := fEv_cg2 (nm := nm) h n (by omega)
    obtain ⟨a1, a2, a3, a4⟩ := h (lo + n) (by omega) (by omega)
    have h2 : ∀ g : Int → Int, fOp kd' pt' ot' nm g (lo + n) = fOp kd pt ot nm g (lo + n) := fun g => by
      unfold fOp
      rw [a1, a2]
      by_cases e0 : kd (lo + n) = 0
      · rw [if_pos e0, if_pos e0]
      · rw [if_neg e0, if_neg e0]
        by_cases e1 : kd (lo + n) = 1
        · rw [if_pos e1, if_pos e1]
        · rw [if_neg e1, if_neg e1]
          by_cases e2 : kd (lo + n) = 2
          · rw [if_pos e2, if_pos e2]
          · rw [if_neg e2, if_neg e2, a3 (by omega)]
    unfold fEv
    rw [h1]
    cases fEv kd pt ot nm lo n with
    | none => rfl
    | some g => simp only [h2]
theorem fLaw_cg2 {kd pt ot kd' pt' ot' nm : Int → Int} {lo hi : Int} (hl : lo ≤ hi) (h : ∀ y : Int, lo ≤ y → y < hi → kd' y = kd y ∧ pt' y = pt y ∧ (3 ≤ kd y → ot' y = ot y) ∧ 0 ≤ kd y) : fLaw kd' pt' ot' nm lo hi = fLaw kd pt ot nm lo hi := by
  unfold fLaw
  rw [fEv_cg2 h (hi - lo).toNat (by omega)]
theorem fKd_bd {c : Int} (h : c = 17 ∨ c = 18 ∨ (25 ≤ c ∧ c ≤ 34)) : 3 ≤ fKd c ∧ fKd c ≤ 14 := by
  unfold fKd
  repeat' split
  all_goals omega
theorem fPn_bd2 {c : Int} (h : 10 ≤ c ∧ c ≤ 16) : 0 ≤ fPn c ∧ fPn c < 7 := by
  unfold fPn
  repeat' split
  all_goals omega
theorem cpl_rP (hp : 2 ≤ p ∧ p ≤ 17) (hc : cpl p s r) (hw : wT p s) (hK : pKp 142 r r1) : rP r1 (fPl p s) := by
  obtain ⟨⟨c18, c19, c20, c21, c22, c51, c23⟩, ⟨c24, c25, c26, c27, c28, c29⟩, ck, cg, cfn, cwn, chl, chb, clw, ckn⟩ := hc
  obtain ⟨wz, hk, hwe, hsd, hki, hgr, hfo, hwg, hga, hho, hhl, hhc, hhb, hlw⟩ := hw
  obtain ⟨z0, z1, z2, z3, z4, z5⟩ := wz
  obtain ⟨_, q1, q2⟩ := hK
  have H : ∀ (a n y : Int), fHalf a = n → 127 ≤ a → a < 142 → 0 ≤ y → y < n → r1 a y = r a (n + y) := fun a n y e y0 y1 y2 y3 => by rw [← e]; exact q2 a y y0 y1 y2 (by rw [e]; exact y3)
  have k127 := fun y => H 127 48 y (by decide) (by decide) (by decide)
  have k128 := fun y => H 128 48 y (by decide) (by decide) (by decide)
  have k129 := fun y => H 129 3 y (by decide) (by decide) (by decide)
  have k130 := fun y => H 130 5 y (by decide) (by decide) (by decide)
  have k131 := fun y => H 131 5 y (by decide) (by decide) (by decide)
  have k132 := fun y => H 132 5 y (by decide) (by decide) (by decide)
  have k133 := fun y => H 133 5 y (by decide) (by decide) (by decide)
  have k134 := fun y => H 134 5 y (by decide) (by decide) (by decide)
  have k135 := fun y => H 135 24 y (by decide) (by decide) (by decide)
  have k136 := fun y => H 136 3 y (by decide) (by decide) (by decide)
  have k137 := fun y => H 137 3 y (by decide) (by decide) (by decide)
  have k138 := fun y => H 138 3 y (by decide) (by decide) (by decide)
  have k139 := fun y => H 139 64 y (by decide) (by decide) (by decide)
  have k140 := fun y => H 140 64 y (by decide) (by decide) (by decide)
  have k141 := fun y => H 141 64 y (by decide) (by decide) (by decide)
  have told : ∀ k : Int, 0 ≤ k → k < 3 → ¬ r1 136 (fLk k) = 0 → (s (p + 13) k < s (p + 14) k ∧ r1 137 (fLk k) = s (p + 13) k ∧ r1 138 (fLk k) = s (p + 14) k) ∧ (0 ≤ s (p + 13) k ∧ s (p + 14) k ≤ 64) ∧ (∀ y : Int, s (p + 13) k ≤ y → y < s (p + 14) k → pWi (s (p + 11)) (s (p + 12)) (kdF (s (p + 11))) (ptF (s (p + 11)) (s (p + 12)) (s (p + 13) k)) (otF (s (p + 11)) (s (p + 13) k)) (dpF (s (p + 11)) (s (p + 13) k)) (ixF (s (p + 11)) (s (p + 13) k)) (s (p + 13) k) y) ∧ (∀ y : Int, s (p + 13) k ≤ y → y < s (p + 14) k → r1 139 y = kdF (s (p + 11)) y ∧ r1 140 y = ptF (s (p + 11)) (s (p + 12)) (s (p + 13) k) y ∧ (3 ≤ kdF (s (p + 11)) y → r1 141 y = otF (s (p + 11)) (s (p + 13) k) y)) := fun k k0 k1 hz => by
    have hf := fLk_in ⟨k0, k1⟩
    rw [k136 _ hf.1 hf.2] at hz
    rcases clw k k0 k1 with ⟨h1, _⟩ | ⟨_, h2, h3, h4⟩
    · exact absurd h1 hz
    · rcases hlw k k0 k1 with h5 | ⟨h5, h6, h7, h8, h9, h10⟩
      · omega
      · refine ⟨⟨h2, by rw [k137 _ hf.1 hf.2]; exact h3, by rw [k138 _ hf.1 hf.2]; exact h4⟩, ⟨h5, by omega⟩, fun y y0 y1 => (pW_F h8 h9 h10).2.2.2 y y0 y1, fun y y0 y1 => ?_⟩
        rw [k139 y (by omega) (by omega), k140 y (by omega) (by omega), k141 y (by omega) (by omega)]
        exact ckn k y k0 k1 y0 y1
  refine ⟨(q1 12 (by decide) (by decide)).trans c18, (q1 13 (by decide) (by decide)).trans c19, (q1 14 (by decide) (by decide)).trans c20, (q1 15 (by decide) (by decide)).trans c21, ?_, (q1 17 (by decide) (by decide)).trans c23, fun c y0 y1 => (k127 c y0 y1).trans (ck c y0 y1), fun c y0 y1 => (k128 c y0 y1).trans (cg c y0 y1), fun f y0 y1 => ?_, fun f y0 y1 => ?_, fun f y0 y1 => ?_, fun f y0 y1 => ?_, fun f y0 y1 => ?_, fun f y0 y1 => ?_, fun f y0 y1 => ?_, fun f y0 y1 => (k135 f y0 y1).trans (chl f y0 y1), fun k nm k0 k1 hz => ?_, fun k k0 k1 hz => ?_, fun k nm k0 k1 hz => ?_⟩
  · exact (q1 16 (by decide) (by decide)).trans (c22.trans hwe)
  · have y1 : f < s p 4 := y1
    exact (k129 f y0 (by omega)).trans (cfn f y0 y1)
  · have y1 : f < s p 6 := y1
    exact (k130 f y0 (by omega)).trans (cwn f y0 y1).1
  · have y1 : f < s p 6 := y1
    exact (k131 f y0 (by omega)).trans (cwn f y0 y1).2.1
  · have y1 : f < s p 6 := y1
    exact (k132 f y0 (by omega)).trans (cwn f y0 y1).2.2.1
  · have y1 : f < s p 6 := y1
    exact (k133 f y0 (by omega)).trans (cwn f y0 y1).2.2.2.1
  · have y1 : f < s p 6 := y1
    exact (k134 f y0 (by omega)).trans (cwn f y0 y1).2.2.2.2
  · rw [k134 f y0 y1]; exact chb f y0 y1
  · have hf := fLk_in ⟨k0, k1⟩
    rw [k136 _ hf.1 hf.2] at hz
    rcases clw k k0 k1 with ⟨_, h1⟩ | ⟨h1, _⟩
    · exact if_pos h1
    · omega
  · obtain ⟨⟨t1, t2, t3⟩, t4, t5, t6⟩ := told k k0 k1 hz
    rw [t2, t3]
    refine ⟨⟨t4.1, t1, t4.2⟩, fun y y0 y1 => ?_⟩
    obtain ⟨u1, u2, u3⟩ := t6 y y0 y1
    obtain ⟨v0, v1, v2, v3⟩ := t5 y y0 y1
    unfold pKn pKl
    rw [u1, u2]
    rcases v3 with ⟨a1, a2, a3, a4, a5, _⟩ | ⟨a1, a2, a3, a4, a5, _⟩ | ⟨a1, a2, a3, a4, _⟩ | ⟨a1, a2, a3, a4, a5, _⟩
    · rw [a2]
      refine ⟨⟨by omega, by omega, fun _ => by rw [← a3]; exact a4, fun z => by omega, fun z => by omega, fun z => by omega⟩, fun z => by omega, fun z => by omega⟩
    · have h1 := fPn_bd2 ⟨a1, a2⟩
      rw [a3, a4]
      exact ⟨⟨by omega, by omega, fun z => by omega, fun _ => h1, fun z => by omega, fun z => by omega⟩, fun z => by omega, fun z => by omega⟩
    · have h1 := v2 (dpF (s (p + 11)) (s (p + 13) k) y - 1) (by omega) (by omega)
      rw [a2, a4]
      exact ⟨⟨by omega, by omega, fun z => by omega, fun z => by omega, fun _ => by omega, fun z => by omega⟩, fun _ => h1, fun z => by omega⟩
    · have h1 := v2 (dpF (s (p + 11)) (s (p + 13) k) y - 2) (by omega) (by omega)
      have h2 := v2 (dpF (s (p + 11)) (s (p + 13) k) y - 1) (by omega) (by omega)
      have h3 := fKd_bd a1
      have h4 := u3 (by omega)
      rw [h4, a2, a4, a5]
      exact ⟨⟨by omega, by omega, fun z => by omega, fun z => by omega, fun _ => by omega, fun _ => by omega⟩, fun _ => h1, fun _ => h2⟩
  · obtain ⟨⟨t1, t2, t3⟩, t4, t5, t6⟩ := told k k0 k1 hz
    rw [t2, t3]
    show (if s (p + 14) k ≤ s (p + 13) k then none else _) = _
    rw [if_neg (by omega)]
    refine (fLaw_cg2 (by omega) (fun y y0 y1 => ?_)).symm
    obtain ⟨u1, u2, u3⟩ := t6 y y0 y1
    refine ⟨u1, u2, u3, ?_⟩
    obtain ⟨v0, v1, v2, v3⟩ := t5 y y0 y1
    rcases v3 with ⟨_, a2, _⟩ | ⟨_, _, a2, _⟩ | ⟨_, a2, _⟩ | ⟨a1, a2, _⟩
    · omega
    · omega
    · omega
    · have h3 := fKd_bd a1; omega
end SXS5
