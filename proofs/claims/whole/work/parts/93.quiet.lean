/-! WAYS THAT LEAVE LEAST, reference side (by wip/whole) -/
section SXN6
variable {X : sx_X} {Q : sx_R} {p to N : Int} {σ σ0 σ' σ1 σ2 : sx_S} {P : aP} {A : aM} {G : Int → Int}
def gOf (σ : sx_S) : Int → Int := fun c => if σ 163 c = 99999 then fBig else 100 * σ 163 c + σ 164 c
abbrev FQ (a i : Int) : Prop := a = 163 ∨ a = 164
theorem FQ_pts : ptL.all (fun q => decide (¬ FQ q.1 q.2.1)) = true := by decide +kernel
theorem fr.ptq {σ σ' : sx_S} (h : fr FQ σ σ') (hT : PT σ) : PT σ' := hT.fr (fun q hq => h _ _ (of_decide_eq_true (List.all_eq_true.mp FQ_pts q hq)))
theorem frq_gr (h : fr FQ σ σ') (g : GR 0 P A σ) : GR 0 P A σ' := g.of (h.ptq g.pt) (fun a i z1 z2 => h _ _ (by unfold FQ; omega)) (fun i z => h _ _ (by unfold FQ; omega))
/-- what stands in the rows is as G has it -/
def pDe (N : Int) (σ : sx_S) : Prop := ∀ c : Int, 0 ≤ c → c < N → ¬ σ 163 c = 99999 → (0 ≤ σ 163 c ∧ σ 163 c ≤ 47) ∧ (0 ≤ σ 164 c ∧ σ 164 c ≤ 47)
theorem gOf_r {c : Int} (h : ¬ σ 163 c = 99999) : gOf σ c = 100 * σ 163 c + σ 164 c := if_neg h
theorem gOf_b {c : Int} (h : σ 163 c = 99999) : gOf σ c = fBig := if_pos h
theorem gOf_nb (hd : pDe N σ) {c : Int} (hc : 0 ≤ c ∧ c < N) : gOf σ c = fBig ↔ σ 163 c = 99999 := by
  constructor
  · intro z
    by_cases e : σ 163 c = 99999
    · exact e
    · have h1 := hd c hc.1 hc.2 e
      rw [gOf_r e, show (fBig : Int) = 9999900 from rfl] at z
      omega
  · exact gOf_b
theorem gOf_u {c s w : Int} (hs : ¬ s = 99999) : gOf (sx_up (sx_up σ 163 c s) 164 c w) = fU (gOf σ) c (100 * s + w) := by
  funext d
  unfold gOf
  by_cases e : d = c
  · subst e
    rw [fU_s, up_a (by decide), up_s, up_s, if_neg hs]
  · rw [fU_n e, up_a (by decide), up_i e, up_i e, up_a (by decide)]
theorem pJ_cg {tl H : Int → Int} (hN : N = P.w * P.h) (hto : 0 ≤ to ∧ to < N) (e : ∀ c : Int, 0 ≤ c → c < N → H c = G c) (h : pJ P N to tl G) : pJ P N to tl H := by
  have hc : ∀ c : Int, 0 ≤ c → c < N → cnG N H c = cnG N G c := fun c y0 y1 => fCnt_cg (fun i z0 z1 => by rw [e i z0 (by omega), e c y0 y1])
  refine ⟨(e to hto.1 hto.2).trans h.1, fun c y0 y1 => ?_, fun c y0 y1 y2 y3 => ?_⟩
  · rw [e c y0 y1, hc c y0 y1]; exact h.2.1 c y0 y1
  · rw [e c y0 y1] at y3 ⊢
    obtain ⟨n, n1, n2, n3⟩ := h.2.2 c y0 y1 y2 y3
    have nb := pNb_in n1
    exact ⟨n, n1, by rw [e n nb.1 (by omega)]; exact n2, by rw [e n nb.1 (by omega)]; exact n3⟩
theorem fSum_le {f : Int → Int} {m : Int} : ∀ k : Nat, (∀ i : Int, 0 ≤ i → i < k → f i ≤ m) → fSum f k ≤ m * k
  | 0, _ => by show (0 : Int) ≤ m * ((0 : Nat) : Int); omega
  | k + 1, h => by
    have h1 := fSum_le k (fun i y0 y1 => h i y0 (by omega))
    have h2 := h (k : Int) (by omega) (by omega)
    have h3 : m * ((k + 1 : Nat) : Int) = m * (k : Int) + m := by rw [show ((k + 1 : Nat) : Int) = (k : Int) + 1 by omega, Int.mul_add, Int.mul_one]
    show fSum f k + f (k : Int) ≤ _
    omega
theorem pJ_st5 (hN : N = P.w * P.h ∧ N ≤ 48) {tl : Int → Int} (h : pJ P N to tl G) {c : Int} (hc : 0 ≤ c ∧ c < N) (hr : ¬ G c = fBig) : 0 ≤ G c ∧ 0 ≤ G c % 100 ∧ G c % 100 ≤ 47 ∧ G c / 100 ≤ 47 := by
  have h1 := cnG_lt (N := N) (G := G) hc
  rcases h.2.1 c hc.1 hc.2 with z | z
  · exact absurd z hr
  · omega
def fNw (P : aP) (A : aM) (c : Int) : Int := if P.ki c = 0 ∧ aTop A c = -1 then 1 else 0
theorem fNw_tl (c : Int) : fTl P A c = 100 * fNw P A c + 1 ∧ 0 ≤ fNw P A c ∧ fNw P A c ≤ 1 := by
  unfold fTl fNw; split <;> omega
set_option maxRecDepth 20000 in
theorem a_Rnew {c9 c : Int} (wp : wP P) (wm : wM P A c9) (gi : GR 0 P A σ) (hc : 0 ≤ c ∧ c < (P.w * P.h)) (h : Q (some (.inl (fNw P A c))) shM σ) : sx_Run X 270 [.inr (.inr 124), .inl c] shM σ Q := by
  have r30 := pt_124_30 gi.pt
  have v4 := wp.wh
  have eki := gi.rp.ki c hc.1 (by omega)
  have htb := aTop_bd wm c
  refine sx_rule0 (own := 12) (cd := kX12_newAt) (nL := 2) (by decide +kernel) (by decide +kernel) kX12_newAt_ok (by decide +kernel) (Nat.le_of_ble_eq_true rfl) 40 ?_
  conv => whnf
  refine ⟨(by first | assumption | rfl), ?_⟩
  try simp (disch := omega) only [Int.cast_ofNat_Int, up_s, up_a, up_i, mp_a, mp_ge]
  try simp only [r30]
  try simp only [eki]
  conv => whnf
  refine ⟨sx_ixI (by first | assumption | rfl) (by omega) (by omega), ?_⟩
  try simp (disch := omega) only [Int.cast_ofNat_Int, up_s, up_a, up_i, mp_a, mp_ge]
  try simp only [r30]
  try simp only [eki]
  conv => whnf
  refine ⟨fun g => ?_, fun g => ?_⟩
  · simp only [sx_cc, Classical.not_not] at g
    conv => whnf
    refine ⟨fun q9 => by first | (simp at q9; done) | omega, ?_⟩
    first | (rw [show fNw P A c = 1 from if_pos ⟨by assumption, by omega⟩] at h; exact h) | (rw [show fNw P A c = 0 from if_neg (fun z9 => absurd z9.1 (by assumption))] at h; exact h) | (rw [show fNw P A c = 0 from if_neg (fun z9 => by have z8 := z9.2; omega)] at h; exact h)
  · simp only [sx_cc, Classical.not_not] at g
    conv => whnf
    refine ⟨Nat.le_of_ble_eq_true rfl, Nat.le_of_ble_eq_true rfl, (by first | assumption | rfl), ?_⟩
    refine a_Rread (Or.inl rfl) wm gi ?_
    conv => whnf
    refine ⟨fun g => ?_, fun g => ?_⟩
    · simp only [sx_cc, Classical.not_not] at g
      conv => whnf
      refine ⟨fun q9 => by first | (simp at q9; done) | omega, ?_⟩
      first | (rw [show fNw P A c = 1 from if_pos ⟨by assumption, by omega⟩] at h; exact h) | (rw [show fNw P A c = 0 from if_neg (fun z9 => absurd z9.1 (by assumption))] at h; exact h) | (rw [show fNw P A c = 0 from if_neg (fun z9 => by have z8 := z9.2; omega)] at h; exact h)
    · simp only [sx_cc, Classical.not_not] at g
      conv => whnf
      refine ⟨fun q9 => by first | (simp at q9; done) | omega, ?_⟩
      first | (rw [show fNw P A c = 1 from if_pos ⟨by assumption, by omega⟩] at h; exact h) | (rw [show fNw P A c = 0 from if_neg (fun z9 => absurd z9.1 (by assumption))] at h; exact h) | (rw [show fNw P A c = 0 from if_neg (fun z9 => by have z8 := z9.2; omega)] at h; exact h)
set_option maxRecDepth 20000 in
theorem c_Rquiet {c9 : Int} (wp : wP P) (wm : wM P A c9) (g0 : GR 0 P A σ) (hto : 0 ≤ to ∧ to < (P.w * P.h)) (h : ∀ σ', fr FQ σ σ' → pDe (P.w * P.h) σ' → pJ P (P.w * P.h) to (fTl P A) (gOf σ') → pFx P (P.w * P.h) (fTl P A) (gOf σ') → Q none shM σ') : sx_Run X 271 [.inr (.inr 124), .inl to] shM σ Q := by
  have v4 := wp.wh
  refine sx_rule2 (own := 12) (cd := kX12_layQuiet) (nL := 7) (by decide +kernel) (by decide +kernel) kX12_layQuiet_ok (by decide +kernel) (Nat.le_of_ble_eq_true rfl) [2, 40, 48, 59] 40 (fun n t L st _ σ' => (t = 2 ∧ ∃ i : Int, ∃ w3 : Option sx_V, ∃ w4 : Option sx_V, ∃ w5 : Option sx_V, ∃ w6 : Option sx_V, st = [] ∧ L = [some (.inr (.inr (124))), some (.inl (to)), some (.inl (i)), w3, w4, w5, w6] ∧ (fr FQ σ σ' ∧ (∀ d : Int, 0 ≤ d → d < i → σ' 163 d = 99999) ∧ 0 ≤ i ∧ i ≤ (P.w * P.h)) ∧ n = (100000000000000 - i).toNat) ∨ (t = 40 ∧ ∃ v : Int, ∃ w3 : Option sx_V, ∃ w4 : Option sx_V, ∃ w5 : Option sx_V, ∃ w6 : Option sx_V, st = [] ∧ L = [some (.inr (.inr (124))), some (.inl (to)), some (.inl (v)), w3, w4, w5, w6] ∧ (fr FQ σ σ' ∧ pDe (P.w * P.h) σ' ∧ pJ P (P.w * P.h) to (fTl P A) (gOf σ') ∧ fSum (gOf σ') (P.w * P.h).toNat ≤ 1000000000 ∧ (v = 0 ∨ v = 1) ∧ (v = 0 → pFx P (P.w * P.h) (fTl P A) (gOf σ'))) ∧ n = (fSum (gOf σ') (P.w * P.h).toNat * 10000 + 5000 * v).toNat) ∨ (t = 48 ∧ ∃ v c : Int, ∃ w4 : Option sx_V, ∃ w5 : Option sx_V, ∃ w6 : Option sx_V, st = [] ∧ L = [some (.inr (.inr (124))), some (.inl (to)), some (.inl (v)), some (.inl (c)), w4, w5, w6] ∧ (fr FQ σ σ' ∧ pDe (P.w * P.h) σ' ∧ pJ P (P.w * P.h) to (fTl P A) (gOf σ') ∧ fSum (gOf σ') (P.w * P.h).toNat ≤ 1000000000 ∧ (v = 0 ∨ v = 1) ∧ (v = 0 → (∀ d m : Int, 0 ≤ d → d < c → pNb P d m → ¬ gOf σ' m = fBig → gOf σ' d ≤ gOf σ' m + fTl P A m)) ∧ 0 ≤ c ∧ c ≤ (P.w * P.h)) ∧ n = (fSum (gOf σ') (P.w * P.h).toNat * 10000 + 4000 + 5000 * v - 8 * c).toNat) ∨ (t = 59 ∧ ∃ v c y : Int, ∃ w5 : Option sx_V, ∃ w6 : Option sx_V, st = [] ∧ L = [some (.inr (.inr (124))), some (.inl (to)), some (.inl (v)), some (.inl (c)), some (.inl (y)), w5, w6] ∧ (fr FQ σ σ' ∧ pDe (P.w * P.h) σ' ∧ pJ P (P.w * P.h) to (fTl P A) (gOf σ') ∧ fSum (gOf σ') (P.w * P.h).toNat ≤ 1000000000 ∧ (v = 0 ∨ v = 1) ∧ (v = 0 → (∀ d m : Int, 0 ≤ d → d < c → pNb P d m → ¬ gOf σ' m = fBig → gOf σ' d ≤ gOf σ' m + fTl P A m) ∧ (∀ z : Int, 0 ≤ z → z < y → ¬ fBes P.w P.h c z = -1 → ¬ gOf σ' (fBes P.w P.h c z) = fBig → gOf σ' c ≤ gOf σ' (fBes P.w P.h c z) + fTl P A (fBes P.w P.h c z))) ∧ 0 ≤ c ∧ c < (P.w * P.h) ∧ 0 ≤ y ∧ y ≤ 4) ∧ n = (fSum (gOf σ') (P.w * P.h).toNat * 10000 + 4000 + 5000 * v - 8 * c - 1 - y).toNat)) ?_ ?_
  · skip
    conv => whnf
    refine ⟨_, Or.inl ⟨rfl, _, _, _, _, _, rfl, rfl, ?_, rfl⟩⟩
    exact ⟨fr.rfl, fun d y0 y1 => by omega, by omega, by omega⟩
  · intro n t L st σ' hk
    rcases hk with hk | hk | hk | hk
    · obtain ⟨rfl, i, w3, w4, w5, w6, rfl, rfl, hc, rfl⟩ := hk
      obtain ⟨hfi, hini, hi0, hi1⟩ := hc
      have gi := frq_gr hfi g0
      have Tc := gi.pt
      have r78 := pt_124_78 Tc
      have r79 := pt_124_79 Tc
      conv => whnf
      refine ⟨Nat.le_of_ble_eq_true rfl, Nat.le_of_ble_eq_true rfl, (by first | assumption | rfl), ?_⟩
      refine c_Rcells (gi.rp.rd wp) ?_
      rw [gi.rp.w, gi.rp.h]
      conv => whnf
      refine ⟨fun g => ?_, fun g => ?_⟩
      · simp only [sx_cc, Classical.not_not] at g
        conv => whnf
        refine ⟨(by first | assumption | rfl), ?_⟩
        try simp (disch := omega) only [Int.cast_ofNat_Int, up_s, up_a, up_i, mp_a, mp_ge]
        try simp only [r78]
        try simp only [r79]
        conv => whnf
        refine ⟨sx_ixI (by first | assumption | rfl) (by omega) (by omega), ?_⟩
        conv => whnf
        refine ⟨(by first | assumption | rfl), ?_⟩
        try simp (disch := omega) only [Int.cast_ofNat_Int, up_s, up_a, up_i, mp_a, mp_ge]
        try simp only [r78]
        try simp only [r79]
        conv => whnf
        refine ⟨sx_ixI (by first | assumption | rfl) (by omega) (by omega), ?_⟩
        generalize e3 : sx_up (sx_up σ' 163 to 0) 164 to 0 = σ3
        have f3 : fr FQ σ' σ3 := fun a i z9 => by unfold FQ at z9; rw [← e3, up_a (by omega), up_a (by omega)]
        have g3 : ∀ c : Int, 0 ≤ c → c < (P.w * P.h) → gOf σ3 c = fG0 to c := fun c y0 y1 => by
          by_cases e9 : c = to
          · rw [e9, ← e3, gOf_u (by decide), fU_s, show fG0 to to = 0 from if_pos rfl]; rfl
          · rw [← e3, gOf_u (by decide), fU_n e9, show fG0 to c = fBig from if_neg e9]; exact gOf_b (hini c y0 (by omega))
        have hj0 : pJ P (P.w * P.h) to (fTl P A) (gOf σ3) := pJ_cg rfl hto g3 (pJ_0 hto)
        have hd0 : pDe (P.w * P.h) σ3 := fun c y0 y1 y2 => by
          by_cases e9 : c = to
          · rw [e9, ← e3, up_a (by decide), up_s, up_s]; decide
          · exfalso; apply y2; rw [← e3, up_a (by decide), up_i e9]; exact hini c y0 (by omega)
        have hsum : fSum (gOf σ3) (P.w * P.h).toNat ≤ 1000000000 := by
          have h9 := fSum_le (f := gOf σ3) (m := 9999900) (P.w * P.h).toNat (fun i y0 y1 => by rw [g3 i y0 (by omega)]; unfold fG0; split; decide; exact Int.le_refl _)
          omega
        have hsn : 0 ≤ fSum (gOf σ3) (P.w * P.h).toNat := fSum_nn _ (fun i z0 z1 => pJ_nn hj0 ⟨z0, by omega⟩)
        conv => whnf
        refine ⟨_, ?_, Or.inr (Or.inl ⟨rfl, _, _, _, _, _, rfl, rfl, ?_, rfl⟩)⟩
        · omega
        · exact ⟨hfi.trans f3, hd0, hj0, hsum, Or.inr rfl, fun z9 => absurd z9 (by decide)⟩
      · simp only [sx_cc, Classical.not_not] at g
        conv => whnf
        refine ⟨(by first | assumption | rfl), ?_⟩
        try simp (disch := omega) only [Int.cast_ofNat_Int, up_s, up_a, up_i, mp_a, mp_ge]
        try simp only [r78]
        try simp only [r79]
        conv => whnf
        refine ⟨sx_ixI (by first | assumption | rfl) (by omega) (by omega), ?_⟩
        conv => whnf
        refine ⟨⟨by omega, by omega⟩, ?_⟩
        conv => whnf
        refine ⟨_, ?_, Or.inl ⟨rfl, _, _, _, _, _, rfl, rfl, ?_, rfl⟩⟩
        · omega
        · refine ⟨hfi.trans (fun a j z9 => by unfold FQ at z9; rw [up_a (by omega)]), fun d y0 y1 => ?_, by omega, by omega⟩
          by_cases e9 : d = i
          · rw [e9, up_s]; rfl
          · rw [up_i e9]; exact hini d y0 (by omega)
    · obtain ⟨rfl, v, w3, w4, w5, w6, rfl, rfl, hc, rfl⟩ := hk
      obtain ⟨hfi, hde, hj, hsb, hv1, hfx⟩ := hc
      have gi := frq_gr hfi g0
      have Tc := gi.pt
      have r78 := pt_124_78 Tc
      have r79 := pt_124_79 Tc
      have hnn : 0 ≤ fSum (gOf σ') (P.w * P.h).toNat := fSum_nn _ (fun i z0 z1 => pJ_nn hj ⟨z0, by omega⟩)
      conv => whnf
      refine ⟨fun g => ?_, fun g => ?_⟩
      · simp only [sx_cc, Classical.not_not] at g
        conv => whnf
        refine ⟨rfl, ?_⟩
        exact h _ hfi hde hj (hfx (by omega))
      · simp only [sx_cc, Classical.not_not] at g
        conv => whnf
        refine ⟨_, ?_, Or.inr (Or.inr (Or.inl ⟨rfl, _, _, _, _, _, rfl, rfl, ?_, rfl⟩))⟩
        · omega
        · exact ⟨hfi, hde, hj, hsb, Or.inl rfl, fun _ d m y0 y1 => by omega, by omega, by omega⟩
    · obtain ⟨rfl, v, c, w4, w5, w6, rfl, rfl, hc, rfl⟩ := hk
      obtain ⟨hfi, hde, hj, hsb, hv1, hfx, hc0, hc1⟩ := hc
      have gi := frq_gr hfi g0
      have Tc := gi.pt
      have r78 := pt_124_78 Tc
      have r79 := pt_124_79 Tc
      have hnn : 0 ≤ fSum (gOf σ') (P.w * P.h).toNat := fSum_nn _ (fun i z0 z1 => pJ_nn hj ⟨z0, by omega⟩)
      conv => whnf
      refine ⟨Nat.le_of_ble_eq_true rfl, Nat.le_of_ble_eq_true rfl, (by first | assumption | rfl), ?_⟩
      refine c_Rcells (gi.rp.rd wp) ?_
      rw [gi.rp.w, gi.rp.h]
      conv => whnf
      refine ⟨fun g => ?_, fun g => ?_⟩
      · simp only [sx_cc, Classical.not_not] at g
        conv => whnf
        refine ⟨_, ?_, Or.inr (Or.inl ⟨rfl, _, _, _, _, _, rfl, rfl, ?_, rfl⟩)⟩
        · rcases hv1 with e9 | e9 <;> omega
        · exact ⟨hfi, hde, hj, hsb, hv1, fun z9 d m y0 y1 y2 y3 => hfx z9 d m y0 (by omega) y2 y3⟩
      · simp only [sx_cc, Classical.not_not] at g
        conv => whnf
        refine ⟨_, ?_, Or.inr (Or.inr (Or.inr (⟨rfl, _, _, _, _, _, rfl, rfl, ?_, rfl⟩)))⟩
        · omega
        · exact ⟨hfi, hde, hj, hsb, hv1, fun z9 => ⟨hfx z9, fun z z0 z1 => by omega⟩, by omega, by omega, by omega, by omega⟩
    · obtain ⟨rfl, v, c, y, w5, w6, rfl, rfl, hc, rfl⟩ := hk
      obtain ⟨hfi, hde, hj, hsb, hv1, hfx, hc0, hc1, hy0, hy1⟩ := hc
      have gi := frq_gr hfi g0
      have Tc := gi.pt
      have r78 := pt_124_78 Tc
      have r79 := pt_124_79 Tc
      have hnn : 0 ≤ fSum (gOf σ') (P.w * P.h).toNat := fSum_nn _ (fun i z0 z1 => pJ_nn hj ⟨z0, by omega⟩)
      conv => whnf
      refine ⟨fun g => ?_, fun g => ?_⟩
      · simp only [sx_cc, Classical.not_not] at g
        conv => whnf
        refine ⟨⟨by omega, by omega⟩, ?_⟩
        conv => whnf
        refine ⟨_, ?_, Or.inr (Or.inr (Or.inl ⟨rfl, _, _, _, _, _, rfl, rfl, ?_, rfl⟩))⟩
        · omega
        · refine ⟨hfi, hde, hj, hsb, hv1, fun z9 d m y0 y1 y2 y3 => ?_, by omega, by omega⟩
          by_cases e9 : d = c
          · rw [e9] at y2 ⊢
            obtain ⟨z, z0, z1, z2, z3⟩ := y2
            rw [z2] at y3 z3 ⊢
            exact (hfx z9).2 z z0 (by omega) z3 y3
          · exact (hfx z9).1 d m y0 (by omega) y2 y3
      · simp only [sx_cc, Classical.not_not] at g
        conv => whnf
        refine ⟨Nat.le_of_ble_eq_true rfl, Nat.le_of_ble_eq_true rfl, (by first | assumption | rfl), ?_⟩
        refine c_Rbeside (gi.rp.rd wp) hc0 (by rw [gi.rp.w, gi.rp.h]; omega) ?_
        rw [gi.rp.w, gi.rp.h]
        have hbo := fBes_o (P := P) (a := c) (y := y)
        conv => whnf
        refine ⟨fun g => ?_, fun g => ?_⟩
        · simp only [sx_cc, Classical.not_not] at g
          conv => whnf
          refine ⟨⟨by omega, by omega⟩, ?_⟩
          conv => whnf
          refine ⟨_, ?_, Or.inr (Or.inr (Or.inr (⟨rfl, _, _, _, _, _, rfl, rfl, ?_, rfl⟩)))⟩
          · omega
          · exact ⟨hfi, hde, hj, hsb, hv1, fun z9 => ⟨(hfx z9).1, fun z z0 z1 z2 z3 => by
              by_cases e9 : z = y
              · rw [e9] at z2 z3 ⊢
                first | exact absurd hrn z3 | omega | (by_cases e8 : σ' 163 c = 99999; (have h9 := egb e8; omega); (have h9 := egc e8; have h8 := hdc e8; omega))
              · exact (hfx z9).2 z z0 (by omega) z2 z3⟩, hc0, hc1, by omega, by omega⟩
        · simp only [sx_cc, Classical.not_not] at g
          have hu : 0 ≤ fBes P.w P.h c y ∧ fBes P.w P.h c y < (P.w * P.h) := (by omega)
          conv => whnf
          refine ⟨(by first | assumption | rfl), ?_⟩
          try simp (disch := omega) only [Int.cast_ofNat_Int, up_s, up_a, up_i, mp_a, mp_ge]
          try simp only [r78]
          try simp only [r79]
          conv => whnf
          refine ⟨sx_ixI (by first | assumption | rfl) (by omega) (by omega), ?_⟩
          try simp (disch := omega) only [Int.cast_ofNat_Int, up_s, up_a, up_i, mp_a, mp_ge]
          try simp only [r78]
          try simp only [r79]
          conv => whnf
          refine ⟨fun g => ?_, fun g => ?_⟩
          · simp only [sx_cc, Classical.not_not] at g
            have hrn : ¬ gOf σ' (fBes P.w P.h c y) = fBig := fun z9 => absurd ((gOf_nb hde hu).mp z9) (by assumption)
            have egn := gOf_r (σ := σ') (c := fBes P.w P.h c y) (by assumption)
            have hdn := hde _ hu.1 hu.2 (by assumption)
            have hdc := hde c hc0 (by omega)
            have egc := gOf_r (σ := σ') (c := c)
            have egb := gOf_b (σ := σ') (c := c)
            have efb : (fBig : Int) = 9999900 := rfl
            conv => whnf
            refine ⟨(by first | assumption | rfl), ?_⟩
            try simp (disch := omega) only [Int.cast_ofNat_Int, up_s, up_a, up_i, mp_a, mp_ge]
            try simp only [r78]
            try simp only [r79]
            conv => whnf
            refine ⟨sx_ixI (by first | assumption | rfl) (by omega) (by omega), ?_⟩
            try simp (disch := omega) only [Int.cast_ofNat_Int, up_s, up_a, up_i, mp_a, mp_ge]
            try simp only [r78]
            try simp only [r79]
            conv => whnf
            refine ⟨Nat.le_of_ble_eq_true rfl, Nat.le_of_ble_eq_true rfl, (by first | assumption | rfl), ?_⟩
            refine a_Rnew wp wm gi hu ?_
            have hnw : fTl P A (fBes P.w P.h c y) = 100 * fNw P A (fBes P.w P.h c y) + 1 ∧ 0 ≤ fNw P A (fBes P.w P.h c y) ∧ fNw P A (fBes P.w P.h c y) ≤ 1 := fNw_tl _
            conv => whnf
            refine ⟨⟨by omega, by omega⟩, ?_⟩
            conv => whnf
            refine ⟨(by first | assumption | rfl), ?_⟩
            try simp (disch := omega) only [Int.cast_ofNat_Int, up_s, up_a, up_i, mp_a, mp_ge]
            try simp only [r78]
            try simp only [r79]
            conv => whnf
            refine ⟨sx_ixI (by first | assumption | rfl) (by omega) (by omega), ?_⟩
            try simp (disch := omega) only [Int.cast_ofNat_Int, up_s, up_a, up_i, mp_a, mp_ge]
            try simp only [r78]
            try simp only [r79]
            conv => whnf
            refine ⟨fun g => ?_, fun g => ?_⟩
            · simp only [sx_cc, Classical.not_not] at g
              conv => whnf
              refine ⟨⟨by omega, by omega⟩, ?_⟩
              conv => whnf
              refine ⟨_, ?_, Or.inr (Or.inr (Or.inr (⟨rfl, _, _, _, _, _, rfl, rfl, ?_, rfl⟩)))⟩
              · omega
              · exact ⟨hfi, hde, hj, hsb, hv1, fun z9 => ⟨(hfx z9).1, fun z z0 z1 z2 z3 => by
                  by_cases e9 : z = y
                  · rw [e9] at z2 z3 ⊢
                    first | exact absurd hrn z3 | omega | (by_cases e8 : σ' 163 c = 99999; (have h9 := egb e8; omega); (have h9 := egc e8; have h8 := hdc e8; omega))
                  · exact (hfx z9).2 z z0 (by omega) z2 z3⟩, hc0, hc1, by omega, by omega⟩
            · simp only [sx_cc, Classical.not_not] at g
              conv => whnf
              refine ⟨(by first | assumption | rfl), ?_⟩
              try simp (disch := omega) only [Int.cast_ofNat_Int, up_s, up_a, up_i, mp_a, mp_ge]
              try simp only [r78]
              try simp only [r79]
              conv => whnf
              refine ⟨sx_ixI (by first | assumption | rfl) (by omega) (by omega), ?_⟩
              try simp (disch := omega) only [Int.cast_ofNat_Int, up_s, up_a, up_i, mp_a, mp_ge]
              try simp only [r78]
              try simp only [r79]
              conv => whnf
              refine ⟨fun g => ?_, fun g => ?_⟩
              · simp only [sx_cc, Classical.not_not] at g
                conv => whnf
                refine ⟨(by first | assumption | rfl), ?_⟩
                try simp (disch := omega) only [Int.cast_ofNat_Int, up_s, up_a, up_i, mp_a, mp_ge]
                try simp only [r78]
                try simp only [r79]
                conv => whnf
                refine ⟨sx_ixI (by first | assumption | rfl) (by omega) (by omega), ?_⟩
                conv => whnf
                refine ⟨(by first | assumption | rfl), ?_⟩
                try simp (disch := omega) only [Int.cast_ofNat_Int, up_s, up_a, up_i, mp_a, mp_ge]
                try simp only [r78]
                try simp only [r79]
                conv => whnf
                refine ⟨(by first | assumption | rfl), ?_⟩
                try simp (disch := omega) only [Int.cast_ofNat_Int, up_s, up_a, up_i, mp_a, mp_ge]
                try simp only [r78]
                try simp only [r79]
                conv => whnf
                refine ⟨sx_ixI (by first | assumption | rfl) (by omega) (by omega), ?_⟩
                try simp (disch := omega) only [Int.cast_ofNat_Int, up_s, up_a, up_i, mp_a, mp_ge]
                try simp only [r78]
                try simp only [r79]
                conv => whnf
                refine ⟨⟨by omega, by omega⟩, ?_⟩
                conv => whnf
                refine ⟨sx_ixI (by first | assumption | rfl) (by omega) (by omega), ?_⟩
                have hlt : gOf σ' (fBes P.w P.h c y) + fTl P A (fBes P.w P.h c y) < gOf σ' c := by
                  by_cases e9 : σ' 163 c = 99999
                  · have h9 := egb e9; omega
                  · have h9 := egc e9; have h8 := hdc e9; omega
                have hst := pJ_s (c := c) ⟨rfl, by omega⟩ fTl_o hto hj ⟨hc0, by omega⟩ ⟨y, by omega, by omega, rfl, by omega⟩ hrn hlt
                have hsu := fSum_u (f := gOf σ') (c := c) (v := gOf σ' (fBes P.w P.h c y) + fTl P A (fBes P.w P.h c y)) (P.w * P.h).toNat hc0 (by omega)
                generalize e5 : sx_up (sx_up σ' 163 c _) 164 c _ = σ5
                have hg5 : gOf σ5 = fU (gOf σ') c (gOf σ' (fBes P.w P.h c y) + fTl P A (fBes P.w P.h c y)) := by
                  rw [← e5, gOf_u (by omega)]
                  congr 1
                  omega
                rw [← hg5] at hst hsu
                conv => whnf
                refine ⟨⟨by omega, by omega⟩, ?_⟩
                conv => whnf
                refine ⟨_, ?_, Or.inr (Or.inr (Or.inr (⟨rfl, _, _, _, _, _, rfl, rfl, ?_, rfl⟩)))⟩
                · rcases hv1 with e9 | e9 <;> omega
                · have f5 : fr FQ σ' σ5 := fun a i z9 => by unfold FQ at z9; rw [← e5, up_a (by omega), up_a (by omega)]
                  have d5 : pDe (P.w * P.h) σ5 := fun d y0 y1 y2 => by
                    by_cases e9 : d = c
                    · subst e9
                      have h7 := pJ_st5 (N := (P.w * P.h)) ⟨rfl, by omega⟩ hst.1 ⟨y0, y1⟩ (by rw [hg5, fU_s]; have := hst.2.2.2; omega)
                      rw [← e5, up_a (by decide), up_s, up_s]
                      rw [hg5, fU_s] at h7
                      omega
                    · rw [← e5, up_a (by decide), up_i e9] at y2
                      rw [← e5, up_a (by decide), up_i e9, up_i e9, up_a (by decide)]
                      exact hde d y0 y1 y2
                  exact ⟨hfi.trans f5, d5, hst.1, by omega, Or.inr rfl, fun z9 => absurd z9 (by decide), hc0, hc1, by omega, by omega⟩
              · simp only [sx_cc, Classical.not_not] at g
                conv => whnf
                refine ⟨(by first | assumption | rfl), ?_⟩
                try simp (disch := omega) only [Int.cast_ofNat_Int, up_s, up_a, up_i, mp_a, mp_ge]
                try simp only [r78]
                try simp only [r79]
                conv => whnf
                refine ⟨sx_ixI (by first | assumption | rfl) (by omega) (by omega), ?_⟩
                try simp (disch := omega) only [Int.cast_ofNat_Int, up_s, up_a, up_i, mp_a, mp_ge]
                try simp only [r78]
                try simp only [r79]
                conv => whnf
                refine ⟨⟨by omega, by omega⟩, ?_⟩
                conv => whnf
                refine ⟨(by first | assumption | rfl), ?_⟩
                try simp (disch := omega) only [Int.cast_ofNat_Int, up_s, up_a, up_i, mp_a, mp_ge]
                try simp only [r78]
                try simp only [r79]
                conv => whnf
                refine ⟨sx_ixI (by first | assumption | rfl) (by omega) (by omega), ?_⟩
                try simp (disch := omega) only [Int.cast_ofNat_Int, up_s, up_a, up_i, mp_a, mp_ge]
                try simp only [r78]
                try simp only [r79]
                conv => whnf
                refine ⟨fun g => ?_, fun g => ?_⟩
                · simp only [sx_cc, Classical.not_not] at g
                  conv => whnf
                  refine ⟨(by first | assumption | rfl), ?_⟩
                  try simp (disch := omega) only [Int.cast_ofNat_Int, up_s, up_a, up_i, mp_a, mp_ge]
                  try simp only [r78]
                  try simp only [r79]
                  conv => whnf
                  refine ⟨sx_ixI (by first | assumption | rfl) (by omega) (by omega), ?_⟩
                  conv => whnf
                  refine ⟨(by first | assumption | rfl), ?_⟩
                  try simp (disch := omega) only [Int.cast_ofNat_Int, up_s, up_a, up_i, mp_a, mp_ge]
                  try simp only [r78]
                  try simp only [r79]
                  conv => whnf
                  refine ⟨(by first | assumption | rfl), ?_⟩
                  try simp (disch := omega) only [Int.cast_ofNat_Int, up_s, up_a, up_i, mp_a, mp_ge]
                  try simp only [r78]
                  try simp only [r79]
                  conv => whnf
                  refine ⟨sx_ixI (by first | assumption | rfl) (by omega) (by omega), ?_⟩
                  try simp (disch := omega) only [Int.cast_ofNat_Int, up_s, up_a, up_i, mp_a, mp_ge]
                  try simp only [r78]
                  try simp only [r79]
                  conv => whnf
                  refine ⟨⟨by omega, by omega⟩, ?_⟩
                  conv => whnf
                  refine ⟨sx_ixI (by first | assumption | rfl) (by omega) (by omega), ?_⟩
                  have hlt : gOf σ' (fBes P.w P.h c y) + fTl P A (fBes P.w P.h c y) < gOf σ' c := by
                    by_cases e9 : σ' 163 c = 99999
                    · have h9 := egb e9; omega
                    · have h9 := egc e9; have h8 := hdc e9; omega
                  have hst := pJ_s (c := c) ⟨rfl, by omega⟩ fTl_o hto hj ⟨hc0, by omega⟩ ⟨y, by omega, by omega, rfl, by omega⟩ hrn hlt
                  have hsu := fSum_u (f := gOf σ') (c := c) (v := gOf σ' (fBes P.w P.h c y) + fTl P A (fBes P.w P.h c y)) (P.w * P.h).toNat hc0 (by omega)
                  generalize e5 : sx_up (sx_up σ' 163 c _) 164 c _ = σ5
                  have hg5 : gOf σ5 = fU (gOf σ') c (gOf σ' (fBes P.w P.h c y) + fTl P A (fBes P.w P.h c y)) := by
                    rw [← e5, gOf_u (by omega)]
                    congr 1
                    omega
                  rw [← hg5] at hst hsu
                  conv => whnf
                  refine ⟨⟨by omega, by omega⟩, ?_⟩
                  conv => whnf
                  refine ⟨_, ?_, Or.inr (Or.inr (Or.inr (⟨rfl, _, _, _, _, _, rfl, rfl, ?_, rfl⟩)))⟩
                  · rcases hv1 with e9 | e9 <;> omega
                  · have f5 : fr FQ σ' σ5 := fun a i z9 => by unfold FQ at z9; rw [← e5, up_a (by omega), up_a (by omega)]
                    have d5 : pDe (P.w * P.h) σ5 := fun d y0 y1 y2 => by
                      by_cases e9 : d = c
                      · subst e9
                        have h7 := pJ_st5 (N := (P.w * P.h)) ⟨rfl, by omega⟩ hst.1 ⟨y0, y1⟩ (by rw [hg5, fU_s]; have := hst.2.2.2; omega)
                        rw [← e5, up_a (by decide), up_s, up_s]
                        rw [hg5, fU_s] at h7
                        omega
                      · rw [← e5, up_a (by decide), up_i e9] at y2
                        rw [← e5, up_a (by decide), up_i e9, up_i e9, up_a (by decide)]
                        exact hde d y0 y1 y2
                    exact ⟨hfi.trans f5, d5, hst.1, by omega, Or.inr rfl, fun z9 => absurd z9 (by decide), hc0, hc1, by omega, by omega⟩
                · simp only [sx_cc, Classical.not_not] at g
                  conv => whnf
                  refine ⟨⟨by omega, by omega⟩, ?_⟩
                  conv => whnf
                  refine ⟨_, ?_, Or.inr (Or.inr (Or.inr (⟨rfl, _, _, _, _, _, rfl, rfl, ?_, rfl⟩)))⟩
                  · omega
                  · exact ⟨hfi, hde, hj, hsb, hv1, fun z9 => ⟨(hfx z9).1, fun z z0 z1 z2 z3 => by
                      by_cases e9 : z = y
                      · rw [e9] at z2 z3 ⊢
                        first | exact absurd hrn z3 | omega | (by_cases e8 : σ' 163 c = 99999; (have h9 := egb e8; omega); (have h9 := egc e8; have h8 := hdc e8; omega))
                      · exact (hfx z9).2 z z0 (by omega) z2 z3⟩, hc0, hc1, by omega, by omega⟩
          · simp only [sx_cc, Classical.not_not] at g
            have hrn : gOf σ' (fBes P.w P.h c y) = fBig := gOf_b (by assumption)
            conv => whnf
            refine ⟨⟨by omega, by omega⟩, ?_⟩
            conv => whnf
            refine ⟨_, ?_, Or.inr (Or.inr (Or.inr (⟨rfl, _, _, _, _, _, rfl, rfl, ?_, rfl⟩)))⟩
            · omega
            · exact ⟨hfi, hde, hj, hsb, hv1, fun z9 => ⟨(hfx z9).1, fun z z0 z1 z2 z3 => by
                by_cases e9 : z = y
                · rw [e9] at z2 z3 ⊢
                  first | exact absurd hrn z3 | omega | (by_cases e8 : σ' 163 c = 99999; (have h9 := egb e8; omega); (have h9 := egc e8; have h8 := hdc e8; omega))
                · exact (hfx z9).2 z z0 (by omega) z2 z3⟩, hc0, hc1, by omega, by omega⟩
end SXN6
