/-! WORDTYPE: its loops -/
section SXW5
variable {X : sx_X} {aK aV : Nat} {σ : sx_S} {Lt : Int}
def pPrev (Lt c : Int) : Prop := ∀ d : Int, 0 ≤ d → d < c → ¬ pSame Lt d
def pIn (Lt c b k : Int) : Prop := (b = 1 ∧ ∀ i : Int, 0 ≤ i → i < k → fWc (6 * c + i) = fChr Lt i) ∨ (b = 0 ∧ ¬ pSame Lt c)
def fLt (Lt k : Int) : Int := Lt / 2 ^ (25 - 5 * k).toNat % 32
def kWT (Lt : Int) (σ : sx_S) (n t : Nat) (L : sx_L) (st : List sx_V) (_ : sx_H) (σ' : sx_S) : Prop := σ' = σ ∧
  ((t = 2 ∧ ∃ (c : Int) (w2 w3 w4 : Option sx_V), st = [] ∧ L = [some (.inr (.inr 33)), some (.inl c), w2, w3, w4] ∧ (0 ≤ c ∧ c ≤ 20) ∧ pPrev Lt c ∧ n = (40 * (20 - c)).toNat) ∨
  (t = 12 ∧ ∃ (c b k : Int) (w4 : Option sx_V), st = [] ∧ L = [some (.inr (.inr 33)), some (.inl c), some (.inl b), some (.inl k), w4] ∧ (0 ≤ c ∧ c < 20) ∧ (0 ≤ k ∧ k ≤ 6) ∧ pPrev Lt c ∧ pIn Lt c b k ∧ n = (40 * (20 - c) - 1 - 4 * k).toNat) ∨
  (t = 38 ∧ ∃ c k : Int, st = [] ∧ L = [some (.inr (.inr 33)), some (.inl c), some (.inl 1), some (.inl k), some (.inl (fLt Lt k))] ∧ (0 ≤ c ∧ c < 20) ∧ (0 ≤ k ∧ k < 6) ∧ pPrev Lt c ∧ pIn Lt c 1 k ∧ n = (40 * (20 - c) - 2 - 4 * k).toNat) ∨
  (t = 49 ∧ ∃ c k : Int, st = [.inl (fWc (6 * c + k))] ∧ L = [some (.inr (.inr 33)), some (.inl c), some (.inl 1), some (.inl k), some (.inl (fLt Lt k))] ∧ (0 ≤ c ∧ c < 20) ∧ (0 ≤ k ∧ k < 6) ∧ pPrev Lt c ∧ pIn Lt c 1 k ∧ n = (40 * (20 - c) - 3 - 4 * k).toNat))
theorem fLt_bd (h : 0 ≤ Lt) (k : Int) : 0 ≤ fLt Lt k ∧ fLt Lt k < 32 := by
  unfold fLt
  exact ⟨Int.emod_nonneg _ (by decide), Int.emod_lt_of_pos _ (by decide)⟩
theorem pIn_s {c k : Int} (h : pIn Lt c 1 k) (e : fWc (6 * c + k) = fChr Lt k) : pIn Lt c 1 (k + 1) := by
  rcases h with ⟨_, h⟩ | ⟨h, _⟩
  · refine Or.inl ⟨rfl, fun i y0 y1 => ?_⟩
    by_cases q : i = k
    · rw [q]; exact e
    · exact h i y0 (by omega)
  · exact absurd h (by decide)
theorem pIn_n {c k : Int} (hk : 0 ≤ k ∧ k < 6) (e : ¬ fWc (6 * c + k) = fChr Lt k) : pIn Lt c 0 (k + 1) := Or.inr ⟨rfl, fun h => e (h k hk.1 hk.2)⟩
theorem pIn_6 {c b : Int} (h : pIn Lt c b 6) (hb : ¬ b = 0) : pSame Lt c := by
  rcases h with ⟨_, h⟩ | ⟨h, _⟩
  · exact h
  · exact absurd h hb
theorem pIn_0 {c k : Int} (h : pIn Lt c 0 k) : ¬ pSame Lt c := by
  rcases h with ⟨h, _⟩ | ⟨_, h⟩
  · exact absurd h (by decide)
  · exact h
theorem pPrev_s {c : Int} (h : pPrev Lt c) (hn : ¬ pSame Lt c) : pPrev Lt (c + 1) := fun d y0 y1 => by
  by_cases q : d = c
  · rw [q]; exact hn
  · exact h d y0 (by omega)
set_option maxRecDepth 20000 in
theorem c_WT (hz : zW X aK aV) : sx_WT X := by
  intro σ Q Lt eL hL h
  refine sx_ruleX (own := 2) (cd := kW) (by decide +kernel) (by decide +kernel) kW_ok (by decide +kernel) [2, 12, 38, 49] 40 (kWT Lt σ) ?_ ?_
  · conv => whnf
    exact ⟨_, rfl, Or.inl ⟨rfl, 0, _, _, _, rfl, rfl, ⟨by decide, by decide⟩, fun d y0 y1 => by omega, rfl⟩⟩
  · intro n t L st σ' hk
    obtain ⟨rfl, hk⟩ := hk
    rcases hk with ⟨rfl, c, w2, w3, w4, rfl, rfl, hc, hp, rfl⟩ | ⟨rfl, c, b, k, w4, rfl, rfl, hc, hk, hp, hi, rfl⟩ | ⟨rfl, c, k, rfl, rfl, hc, hk, hp, hi, rfl⟩ | ⟨rfl, c, k, rfl, rfl, hc, hk, hp, hi, rfl⟩
    · left
      conv => whnf
      refine ⟨fun g => ?_, fun g => ?_⟩
      · simp only [sx_cc, Classical.not_not] at g
        conv => whnf
        refine ⟨fun q9 => by first | (simp at q9; done) | omega, ?_⟩
        rw [wt_none hL (fun d y0 y1 => hp d y0 (by omega))] at h
        exact h
      · simp only [sx_cc, Classical.not_not] at g
        conv => whnf
        refine ⟨_, ?_, rfl, Or.inr (Or.inl ⟨rfl, c, 1, 0, _, rfl, rfl, ⟨hc.1, by omega⟩, ⟨by decide, by decide⟩, hp, Or.inl ⟨rfl, fun i y0 y1 => by omega⟩, rfl⟩)⟩
        omega
    · left
      have hend : ∀ {b k : Int}, (k = 6 ∨ b = 0) → pIn Lt c b k → (b = 0 → pPrev Lt (c + 1)) ∧ (¬ b = 0 → pSame Lt c) := fun {b k} q hi => by
        refine ⟨fun e => ?_, fun e => ?_⟩
        · subst e; exact pPrev_s hp (pIn_0 hi)
        · rcases q with q | q
          · subst q; exact pIn_6 hi e
          · exact absurd q e
      conv => whnf
      refine ⟨fun g => ?_, fun g => ?_⟩
      · simp only [sx_cc, Classical.not_not] at g
        have hk6 : k = 6 := by omega
        obtain ⟨q1, q2⟩ := hend (Or.inl hk6) hi
        conv => whnf
        refine ⟨fun g => ?_, fun g => ?_⟩
        · simp only [sx_cc, Classical.not_not] at g
          conv => whnf
          refine ⟨⟨by omega, by omega⟩, ?_⟩
          conv => whnf
          refine ⟨_, ?_, rfl, Or.inl ⟨rfl, c + 1, _, _, _, rfl, rfl, ⟨by omega, by omega⟩, q1 g, rfl⟩⟩
          omega
        · simp only [sx_cc, Classical.not_not] at g
          conv => whnf
          refine ⟨fun q9 => by first | (simp at q9; done) | omega, ?_⟩
          rw [wt_first hL hc (q2 g) hp] at h
          exact h
      · simp only [sx_cc, Classical.not_not] at g
        conv => whnf
        refine ⟨fun g2 => ?_, fun g2 => ?_⟩
        · simp only [sx_cc, Classical.not_not] at g2
          obtain ⟨q1, q2⟩ := hend (Or.inr g2) hi
          conv => whnf
          refine ⟨fun g => ?_, fun g => ?_⟩
          · simp only [sx_cc, Classical.not_not] at g
            conv => whnf
            refine ⟨⟨by omega, by omega⟩, ?_⟩
            conv => whnf
            refine ⟨_, ?_, rfl, Or.inl ⟨rfl, c + 1, _, _, _, rfl, rfl, ⟨by omega, by omega⟩, q1 g, rfl⟩⟩
            omega
          · simp only [sx_cc, Classical.not_not] at g
            exact absurd g2 g
        · simp only [sx_cc, Classical.not_not] at g2
          have hb1 : b = 1 := by
            rcases hi with q | q
            · exact q.1
            · exact absurd q.1 g2
          subst hb1
          conv => whnf
          refine ⟨rfl, ?_⟩
          conv => whnf
          refine ⟨⟨by omega, by omega⟩, ?_⟩
          conv => whnf
          refine ⟨⟨by omega, by omega⟩, ?_⟩
          conv => whnf
          have e4 : sx_and (sx_shr (σ' 33 6) (25 - 5 * k)) 31 = fLt Lt k := by
            rw [eL, show (25 - 5 * k : Int) = ((25 - 5 * k).toNat : Int) by omega, shr_and _ (by omega) (by omega)]
            rfl
          refine ⟨_, ?_, rfl, Or.inr (Or.inr (Or.inl ⟨rfl, c, k, rfl, ?_, hc, ⟨hk.1, by omega⟩, hp, hi, rfl⟩))⟩
          · omega
          · rw [← e4]; rfl
    · right
      intro p e s m args below meth cc R Qf hF hn
      exact wt_chr hz hc hk p e s m args below meth cc R Qf hF (hn 49 _ _ _ ⟨_, by omega, rfl, Or.inr (Or.inr (Or.inr ⟨rfl, c, k, rfl, rfl, hc, hk, hp, hi, rfl⟩))⟩)
    · left
      have hb := fLt_bd (k := k) hL.1
      have hnx : ∀ v : Int, (v = fWc (6 * c + k) → v = fChr Lt k) → True := fun _ _ => trivial
      have hch : fChr Lt k = if fLt Lt k = 0 then 32 else 96 + fLt Lt k := rfl
      conv => whnf
      refine ⟨fun g => ?_, fun g => ?_⟩
      · simp only [sx_cc, Classical.not_not] at g
        rw [if_neg g] at hch
        conv => whnf
        refine ⟨⟨by omega, by omega⟩, ?_⟩
        conv => whnf
        refine ⟨fun g3 => ?_, fun g3 => ?_⟩
        · simp only [sx_cc, Classical.not_not] at g3
          conv => whnf
          refine ⟨⟨by omega, by omega⟩, ?_⟩
          conv => whnf
          refine ⟨_, ?_, rfl, Or.inr (Or.inl ⟨rfl, c, 0, k + 1, _, rfl, rfl, hc, ⟨by omega, by omega⟩, hp, pIn_n hk (by rw [hch]; exact g3), rfl⟩)⟩
          omega
        · simp only [sx_cc, Classical.not_not] at g3
          conv => whnf
          refine ⟨⟨by omega, by omega⟩, ?_⟩
          conv => whnf
          refine ⟨_, ?_, rfl, Or.inr (Or.inl ⟨rfl, c, 1, k + 1, _, rfl, rfl, hc, ⟨by omega, by omega⟩, hp, pIn_s hi (by rw [hch]; exact g3), rfl⟩)⟩
          omega
      · simp only [sx_cc, Classical.not_not] at g
        rw [if_pos g] at hch
        conv => whnf
        refine ⟨fun g3 => ?_, fun g3 => ?_⟩
        · simp only [sx_cc, Classical.not_not] at g3
          conv => whnf
          refine ⟨⟨by omega, by omega⟩, ?_⟩
          conv => whnf
          refine ⟨_, ?_, rfl, Or.inr (Or.inl ⟨rfl, c, 0, k + 1, _, rfl, rfl, hc, ⟨by omega, by omega⟩, hp, pIn_n hk (by rw [hch]; exact g3), rfl⟩)⟩
          omega
        · simp only [sx_cc, Classical.not_not] at g3
          conv => whnf
          refine ⟨⟨by omega, by omega⟩, ?_⟩
          conv => whnf
          refine ⟨_, ?_, rfl, Or.inr (Or.inl ⟨rfl, c, 1, k + 1, _, rfl, rfl, hc, ⟨by omega, by omega⟩, hp, pIn_s hi (by rw [hch]; exact g3), rfl⟩)⟩
          omega
end SXW5
