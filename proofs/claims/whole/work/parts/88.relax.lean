/-! WAYS THAT LEAVE LEAST: relaxing, purely -/
section SXN1
variable {P : aP} {A : aM} {N to c d n : Int} {G H : Int → Int} {tl : Int → Int}
/-- a cell not reached yet -/
def fBig : Int := 9999900
def cnG (N : Int) (G : Int → Int) (c : Int) : Int := fCnt (fun d => decide (G d < G c)) N.toNat
/-- n lies beside c -/
def pNb (P : aP) (c n : Int) : Prop := ∃ y : Int, 0 ≤ y ∧ y < 4 ∧ n = fBes P.w P.h c y ∧ ¬ n = -1
def pJ (P : aP) (N to : Int) (tl G : Int → Int) : Prop := G to = 0 ∧ (∀ c : Int, 0 ≤ c → c < N → G c = fBig ∨ (0 ≤ G c ∧ G c % 100 ≤ cnG N G c ∧ G c / 100 ≤ G c % 100)) ∧ (∀ c : Int, 0 ≤ c → c < N → ¬ c = to → ¬ G c = fBig → ∃ n : Int, pNb P c n ∧ ¬ G n = fBig ∧ G n + tl n ≤ G c)
theorem cnG_lt (hc : 0 ≤ c ∧ c < N) : 0 ≤ cnG N G c ∧ cnG N G c ≤ N - 1 := by
  have h1 := fCnt_le (fun d => decide (G d < G c)) N.toNat
  have h2 := fCnt_less (b := fun d => decide (G d < G c)) (b' := fun _ => true) hc.1 N.toNat (by omega) (fun i _ _ _ => rfl) (decide_eq_false (by omega)) rfl
  have h3 := fCnt_le (fun _ => true) N.toNat
  unfold cnG
  omega
theorem pNb_in (h : pNb P c n) : 0 ≤ n ∧ n < P.w * P.h := by
  obtain ⟨y, h1, h2, h3, h4⟩ := h
  rw [h3] at h4 ⊢
  exact fBes_b h4
/-- a step of relaxing keeps it -/
theorem pJ_s (hN : N = P.w * P.h ∧ N ≤ 48) (ht : ∀ n : Int, tl n = 1 ∨ tl n = 101) (hto : 0 ≤ to ∧ to < N) (h : pJ P N to tl G) (hc : 0 ≤ c ∧ c < N) (hn : pNb P c n) (hr : ¬ G n = fBig) (hl : G n + tl n < G c) : pJ P N to tl (fU G c (G n + tl n)) ∧ ¬ c = to ∧ 0 ≤ G n + tl n ∧ G n + tl n < fBig := by
  obtain ⟨h1, h2, h3⟩ := h
  have hnb := pNb_in hn
  have htn := ht n
  have e1 : (fBig : Int) = 9999900 := rfl
  have hgn : 0 ≤ G n ∧ G n % 100 ≤ cnG N G n ∧ G n / 100 ≤ G n % 100 := by
    rcases h2 n hnb.1 (by omega) with z | z
    · exact absurd z hr
    · exact z
  have hcn := cnG_lt (N := N) (G := G) (c := n) ⟨hnb.1, by omega⟩
  have hct : ¬ c = to := fun z => by rw [z, h1] at hl; omega
  have hnc : ¬ n = c := fun z => by subst z; omega
  have hsm : G n + tl n < fBig := by rw [e1]; omega
  have hcu : cnG N G n + 1 ≤ cnG N (fU G c (G n + tl n)) c := by
    unfold cnG
    refine fCnt_less (c := n) hnb.1 N.toNat (by omega) (fun i y0 y1 y2 => ?_) (decide_eq_false (by omega)) (decide_eq_true ?_)
    · have y3 := of_decide_eq_true y2
      by_cases e : i = c
      · rw [e] at y3; omega
      · refine decide_eq_true ?_
        rw [fU_n e, fU_s]; omega
    · rw [fU_n hnc, fU_s]; omega
  have hmo : ∀ d : Int, ¬ d = c → cnG N G d ≤ cnG N (fU G c (G n + tl n)) d := fun d hd => by
    unfold cnG
    refine fCnt_mono N.toNat (fun i y0 y1 y2 => ?_)
    have y3 := of_decide_eq_true y2
    refine decide_eq_true ?_
    rw [fU_n hd]
    by_cases e : i = c
    · rw [e, fU_s]; rw [e] at y3; omega
    · rw [fU_n e]; exact y3
  refine ⟨⟨?_, fun d y0 y1 => ?_, fun d y0 y1 y2 y3 => ?_⟩, hct, by omega, hsm⟩
  · rw [fU_n (fun z => hct z.symm)]; exact h1
  · by_cases e : d = c
    · subst e
      refine Or.inr ?_
      rw [fU_s]
      exact ⟨by omega, by omega, by omega⟩
    · rw [fU_n e]
      have h9 := hmo d e
      rcases h2 d y0 y1 with z | z
      · exact Or.inl z
      · exact Or.inr ⟨z.1, by omega, z.2.2⟩
  · by_cases e : d = c
    · subst e
      exact ⟨n, hn, by rw [fU_n hnc]; exact hr, by rw [fU_n hnc, fU_s]; exact Int.le_refl _⟩
    · rw [fU_n e] at y3 ⊢
      obtain ⟨m, m1, m2, m3⟩ := h3 d y0 y1 y2 y3
      refine ⟨m, m1, ?_, ?_⟩
      · by_cases e9 : m = c
        · rw [e9, fU_s]; omega
        · rw [fU_n e9]; exact m2
      · by_cases e9 : m = c
        · rw [e9, fU_s]; rw [e9] at m3; omega
        · rw [fU_n e9]; exact m3
/-- nothing left to relax -/
def pFx (P : aP) (N : Int) (tl G : Int → Int) : Prop := ∀ c n : Int, 0 ≤ c → c < N → pNb P c n → ¬ G n = fBig → G c ≤ G n + tl n
theorem fSum_u {f : Int → Int} {v : Int} : ∀ k : Nat, 0 ≤ c → c < k → fSum (fU f c v) k = fSum f k - f c + v
  | 0, _, h => by omega
  | k + 1, h0, h1 => by
    show fSum (fU f c v) k + fU f c v (k : Int) = fSum f k + f (k : Int) - f c + v
    by_cases e : c = (k : Int)
    · have h9 : ∀ j : Nat, j ≤ k → fSum (fU f c v) j = fSum f j := by
        intro j
        induction j with
        | zero => intro _; rfl
        | succ j ih =>
          intro hj
          show fSum (fU f c v) j + fU f c v (j : Int) = fSum f j + f (j : Int)
          rw [ih (by omega), fU_n (by omega)]
      rw [h9 k (Nat.le_refl _), e, fU_s]; omega
    · rw [fSum_u k h0 (by omega), fU_n (fun z => e z.symm)]; omega
theorem fSum_nn {f : Int → Int} : ∀ k : Nat, (∀ i : Int, 0 ≤ i → i < k → 0 ≤ f i) → 0 ≤ fSum f k
  | 0, _ => Int.le_refl _
  | k + 1, h => by
    have h1 := fSum_nn k (fun i y0 y1 => h i y0 (by omega))
    have h2 := h (k : Int) (by omega) (by omega)
    show 0 ≤ fSum f k + f (k : Int)
    omega
theorem pJ_nn (h : pJ P N to tl G) (hc : 0 ≤ c ∧ c < N) : 0 ≤ G c := by
  rcases h.2.1 c hc.1 hc.2 with z | z
  · rw [z]; decide
  · exact z.1
/-- there is one with nothing left -/
theorem pJ_ex (hN : N = P.w * P.h ∧ N ≤ 48) (ht : ∀ n : Int, tl n = 1 ∨ tl n = 101) (hto : 0 ≤ to ∧ to < N) : ∀ (k : Nat) (G : Int → Int), pJ P N to tl G → fSum G N.toNat ≤ k → ∃ H : Int → Int, pJ P N to tl H ∧ pFx P N tl H := by
  intro k
  induction k with
  | zero =>
    intro G h hs
    by_cases q : pFx P N tl G
    · exact ⟨G, h, q⟩
    · exfalso
      unfold pFx at q
      apply q
      intro c n y0 y1 y2 y3
      by_cases e : G c ≤ G n + tl n
      · exact e
      · exfalso
        have h9 := pJ_s hN ht hto h ⟨y0, y1⟩ y2 y3 (by omega)
        have h8 := fSum_u (f := G) (c := c) (v := G n + tl n) N.toNat y0 (by omega)
        have h7 := fSum_nn (f := fU G c (G n + tl n)) N.toNat (fun i z0 z1 => pJ_nn h9.1 ⟨z0, by omega⟩)
        omega
  | succ k ih =>
    intro G h hs
    by_cases q : pFx P N tl G
    · exact ⟨G, h, q⟩
    · have q2 : ∃ c n : Int, 0 ≤ c ∧ c < N ∧ pNb P c n ∧ ¬ G n = fBig ∧ G n + tl n < G c := by
        apply Classical.byContradiction
        intro z
        apply q
        intro c n y0 y1 y2 y3
        by_cases e : G c ≤ G n + tl n
        · exact e
        · exact absurd ⟨c, n, y0, y1, y2, y3, by omega⟩ z
      obtain ⟨c, n, y0, y1, y2, y3, y4⟩ := q2
      have h9 := pJ_s hN ht hto h ⟨y0, y1⟩ y2 y3 y4
      have h8 := fSum_u (f := G) (c := c) (v := G n + tl n) N.toNat y0 (by omega)
      exact ih _ h9.1 (by omega)
end SXN1
