/-! WAYS THAT LEAVE LEAST: the one with nothing left -/
section SXN2
variable {P : aP} {A : aM} {N to c d n : Int} {G H F F' : Int → Int} {tl : Int → Int}
def fG0 (to : Int) : Int → Int := fun c => if c = to then 0 else fBig
theorem pJ_0 (hto : 0 ≤ to ∧ to < N) : pJ P N to tl (fG0 to) := by
  refine ⟨if_pos rfl, fun c y0 y1 => ?_, fun c y0 y1 y2 y3 => absurd (if_neg y2) y3⟩
  by_cases e : c = to
  · refine Or.inr ?_
    have h := cnG_lt (N := N) (G := fG0 to) (c := c) ⟨y0, y1⟩
    rw [show fG0 to c = 0 from if_pos e]
    omega
  · exact Or.inl (if_neg e)
/-- a step towards it -/
theorem nbr (wp : wP P) (hc : 0 ≤ c ∧ c < P.w * P.h) (hto : 0 ≤ to ∧ to < P.w * P.h) (hne : ¬ c = to) : ∃ m : Int, pNb P c m ∧ fFar P.w m to < fFar P.w c to := by
  have v1 := wp.w
  have v2 := wp.h
  have a1 := tm_bd hc.1 (show 0 < P.w by omega)
  have a2 := td_bd hc.1 (show 0 < P.w by omega) hc.2
  have b1 := tm_bd hto.1 (show 0 < P.w by omega)
  have b2 := td_bd hto.1 (show 0 < P.w by omega) hto.2
  have hd : ¬ (c.tmod P.w = to.tmod P.w ∧ c.tdiv P.w = to.tdiv P.w) := fun z => by
    have e1 := Int.tmod_add_mul_tdiv c P.w
    have e2 := Int.tmod_add_mul_tdiv to P.w
    rw [z.1, z.2] at e1
    exact hne (e1.symm.trans e2)
  have key : ∀ y : Int, 0 ≤ y → y < 4 → (0 ≤ c.tmod P.w + fDx y ∧ c.tmod P.w + fDx y < P.w ∧ 0 ≤ c.tdiv P.w + fDy y ∧ c.tdiv P.w + fDy y < P.h) → fAbs (c.tmod P.w + fDx y - to.tmod P.w) + fAbs (c.tdiv P.w + fDy y - to.tdiv P.w) < fFar P.w c to → ∃ m : Int, pNb P c m ∧ fFar P.w m to < fFar P.w c to := by
    intro y y0 y1 hk hf
    have eb : fBes P.w P.h c y = (c.tdiv P.w + fDy y) * P.w + (c.tmod P.w + fDx y) := if_pos hk
    have h3 := tdm (show 0 < P.w by omega) ⟨hk.1, hk.2.1⟩ hk.2.2.1
    rw [← eb] at h3
    have hnn : ¬ fBes P.w P.h c y = -1 := fun z => by
      have h4 : 0 ≤ (c.tdiv P.w + fDy y) * P.w := Int.mul_nonneg hk.2.2.1 (by omega)
      rw [eb] at z
      omega
    refine ⟨_, ⟨y, y0, y1, rfl, hnn⟩, ?_⟩
    show fAbs ((fBes P.w P.h c y).tmod P.w - to.tmod P.w) + fAbs ((fBes P.w P.h c y).tdiv P.w - to.tdiv P.w) < _
    rw [h3.1, h3.2]
    exact hf
  have ef : fFar P.w c to = fAbs (c.tmod P.w - to.tmod P.w) + fAbs (c.tdiv P.w - to.tdiv P.w) := rfl
  by_cases k1 : c.tmod P.w < to.tmod P.w
  · refine key 1 (by decide) (by decide) ?_ ?_
    · rw [show fDx 1 = 1 from rfl, show fDy 1 = 0 from rfl]; omega
    · rw [ef, show fDx 1 = 1 from rfl, show fDy 1 = 0 from rfl]
      unfold fAbs
      repeat (first | omega | split)
  · by_cases k2 : to.tmod P.w < c.tmod P.w
    · refine key 3 (by decide) (by decide) ?_ ?_
      · rw [show fDx 3 = -1 from rfl, show fDy 3 = 0 from rfl]; omega
      · rw [ef, show fDx 3 = -1 from rfl, show fDy 3 = 0 from rfl]
        unfold fAbs
        repeat (first | omega | split)
    · by_cases k3 : c.tdiv P.w < to.tdiv P.w
      · refine key 2 (by decide) (by decide) ?_ ?_
        · rw [show fDx 2 = 0 from rfl, show fDy 2 = 1 from rfl]; omega
        · rw [ef, show fDx 2 = 0 from rfl, show fDy 2 = 1 from rfl]
          unfold fAbs
          repeat (first | omega | split)
      · refine key 0 (by decide) (by decide) ?_ ?_
        · rw [show fDx 0 = 0 from rfl, show fDy 0 = -1 from rfl]; omega
        · rw [ef, show fDx 0 = 0 from rfl, show fDy 0 = -1 from rfl]
          unfold fAbs
          repeat (first | omega | split)
theorem fFar_nn (a b w : Int) : 0 ≤ fFar w a b := by
  unfold fFar fAbs
  repeat (first | omega | split)
/-- all are reached -/
theorem pFx_all (wp : wP P) (hN : N = P.w * P.h) (ht : ∀ n : Int, tl n = 1 ∨ tl n = 101) (hto : 0 ≤ to ∧ to < N) (h : pJ P N to tl G) (hf : pFx P N tl G) : ∀ (k : Nat) (c : Int), 0 ≤ c → c < N → fFar P.w c to ≤ k → ¬ G c = fBig := by
  intro k
  induction k with
  | zero =>
    intro c y0 y1 y2 z
    by_cases e : c = to
    · rw [e, h.1] at z; exact absurd z (by decide)
    · obtain ⟨m, m1, m2⟩ := nbr wp (c := c) (to := to) ⟨y0, by omega⟩ ⟨hto.1, by omega⟩ e
      have h9 := fFar_nn m to P.w
      omega
  | succ k ih =>
    intro c y0 y1 y2 z
    by_cases e : c = to
    · rw [e, h.1] at z; exact absurd z (by decide)
    · obtain ⟨m, m1, m2⟩ := nbr wp (c := c) (to := to) ⟨y0, by omega⟩ ⟨hto.1, by omega⟩ e
      have mb := pNb_in m1
      have h8 := ih m mb.1 (by omega) (by omega)
      have h7 := hf c m y0 y1 m1 h8
      have h5 := ht m
      rcases h.2.1 m mb.1 (by omega) with q | q
      · exact h8 q
      · have h6 := cnG_lt (N := N) (G := G) (c := m) ⟨mb.1, by omega⟩
        have h4 := wp.wh
        have e1 : (fBig : Int) = 9999900 := rfl
        rw [z, e1] at h7
        omega
/-- the least of all -/
theorem pFx_le (hN : N = P.w * P.h) (ht : ∀ n : Int, tl n = 1 ∨ tl n = 101) (h : pJ P N to tl G) (hf : pFx P N tl G) (ha : ∀ c : Int, 0 ≤ c → c < N → ¬ G c = fBig) (h' : pJ P N to tl H) : ∀ (k : Nat) (c : Int), 0 ≤ c → c < N → ¬ H c = fBig → H c ≤ k → G c ≤ H c := by
  intro k
  induction k with
  | zero =>
    intro c y0 y1 y2 y3
    have h0 := pJ_nn h' ⟨y0, y1⟩
    by_cases e : c = to
    · rw [e, h.1, h'.1]; exact Int.le_refl _
    · obtain ⟨m, m1, m2, m3⟩ := h'.2.2 c y0 y1 e y2
      have mb := pNb_in m1
      have h1 := pJ_nn h' (c := m) ⟨mb.1, by omega⟩
      have h5 := ht m
      omega
  | succ k ih =>
    intro c y0 y1 y2 y3
    by_cases e : c = to
    · rw [e, h.1, h'.1]; exact Int.le_refl _
    · obtain ⟨m, m1, m2, m3⟩ := h'.2.2 c y0 y1 e y2
      have mb := pNb_in m1
      have h5 := ht m
      have h9 := ih m mb.1 (by omega) m2 (by omega)
      have h8 := hf c m y0 y1 m1 (ha m mb.1 (by omega))
      omega
/-- settled: as in the least -/
def cnS (N : Int) (G F : Int → Int) : Int := fCnt (fun c => decide (F c = G c)) N.toNat
theorem least_un : ∀ (k : Nat) (c : Int), 0 ≤ c → c < N → ¬ F c = G c → G c ≤ k → (∀ d : Int, 0 ≤ d → d < N → 0 ≤ G d) → ∃ d : Int, 0 ≤ d ∧ d < N ∧ ¬ F d = G d ∧ ∀ e : Int, 0 ≤ e → e < N → G e < G d → F e = G e := by
  intro k
  induction k with
  | zero =>
    intro c y0 y1 y2 y3 hp
    refine ⟨c, y0, y1, y2, fun e z0 z1 z2 => ?_⟩
    have := hp e z0 z1
    omega
  | succ k ih =>
    intro c y0 y1 y2 y3 hp
    by_cases q : ∀ e : Int, 0 ≤ e → e < N → G e < G c → F e = G e
    · exact ⟨c, y0, y1, y2, q⟩
    · have q2 : ∃ e : Int, 0 ≤ e ∧ e < N ∧ G e < G c ∧ ¬ F e = G e := by
        apply Classical.byContradiction
        intro z
        apply q
        intro e z0 z1 z2
        by_cases w : F e = G e
        · exact w
        · exact absurd ⟨e, z0, z1, z2, w⟩ z
      obtain ⟨e, z0, z1, z2, z3⟩ := q2
      exact ih e z0 z1 z3 (by omega) hp
/-- a round settles one more -/
theorem round_s (hN : N = P.w * P.h) (ht : ∀ n : Int, tl n = 1 ∨ tl n = 101) (h : pJ P N to tl G) (ha : ∀ c : Int, 0 ≤ c → c < N → ¬ G c = fBig) (hto : F to = G to) (hge : ∀ c : Int, 0 ≤ c → c < N → G c ≤ F' c) (hle : ∀ c : Int, 0 ≤ c → c < N → F' c ≤ F c) (hr : ∀ c m : Int, 0 ≤ c → c < N → pNb P c m → F m = G m → F' c ≤ G m + tl m) : (∀ c : Int, 0 ≤ c → c < N → F c = G c) ∨ (cnS N G F < cnS N G F' ∧ ∃ c : Int, 0 ≤ c ∧ c < N ∧ ¬ F' c = F c) := by
  by_cases q : ∀ c : Int, 0 ≤ c → c < N → F c = G c
  · exact Or.inl q
  · refine Or.inr ?_
    have q2 : ∃ c : Int, 0 ≤ c ∧ c < N ∧ ¬ F c = G c := by
      apply Classical.byContradiction
      intro z
      apply q
      intro e z0 z1
      by_cases w : F e = G e
      · exact w
      · exact absurd ⟨e, z0, z1, w⟩ z
    obtain ⟨c0, c1, c2, c3⟩ := q2
    obtain ⟨d, d1, d2, d3, d4⟩ := least_un (F := F) (G := G) (N := N) (G c0).toNat c0 c1 c2 c3 (by omega) (fun e z0 z1 => pJ_nn h ⟨z0, z1⟩)
    have hdt : ¬ d = to := fun z => d3 (by rw [z]; exact hto)
    obtain ⟨m, m1, m2, m3⟩ := h.2.2 d d1 d2 hdt (ha d d1 d2)
    have mb := pNb_in m1
    have h5 := ht m
    have h9 := d4 m mb.1 (by omega) (by omega)
    have h8 := hr d m d1 d2 m1 h9
    have h7 := hge d d1 d2
    have h6 : F' d = G d := by omega
    refine ⟨?_, d, d1, d2, fun z => d3 (by rw [← z]; exact h6)⟩
    unfold cnS
    refine fCnt_less (c := d) d1 N.toNat (by omega) (fun i y0 y1 y2 => ?_) (decide_eq_false d3) (decide_eq_true h6)
    have y3 := of_decide_eq_true y2
    have y4 := hge i y0 (by omega)
    have y5 := hle i y0 (by omega)
    exact decide_eq_true (by omega)
theorem cnS_all (h : N ≤ cnS N G F) (hN : 0 ≤ N) : ∀ c : Int, 0 ≤ c → c < N → F c = G c := by
  intro c y0 y1
  by_cases e : F c = G c
  · exact e
  · exfalso
    have h2 := fCnt_less (b := fun c => decide (F c = G c)) (b' := fun _ => true) y0 N.toNat (by omega) (fun i _ _ _ => rfl) (decide_eq_false e) rfl
    have h3 := fCnt_le (fun _ => true) N.toNat
    unfold cnS at h
    omega
end SXN2
