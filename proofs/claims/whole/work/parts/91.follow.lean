/-! WAYS THAT LEAVE LEAST: the way followed (by wip/whole) -/
section SXN4
variable {X : sx_X} {Q : sx_R} {p to N : Int} {σ σ0 σ' σ1 σ2 : sx_S} {P : aP} {A : aM} {G tl : Int → Int}
theorem FFo_pts : ptL.all (fun q => decide (¬ q.1 = 118 ∧ ¬ (q.1 = 117 ∧ q.2.1 = 1))) = true := by decide +kernel
abbrev pOn (P : aP) (tl G : Int → Int) (c y : Int) : Prop := ¬ fBes P.w P.h c y = -1 ∧ G (fBes P.w P.h c y) + tl (fBes P.w P.h c y) = G c
def fNxt (P : aP) (tl G : Int → Int) (c : Int) : Int := if pOn P tl G c 0 then fBes P.w P.h c 0 else if pOn P tl G c 1 then fBes P.w P.h c 1 else if pOn P tl G c 2 then fBes P.w P.h c 2 else if pOn P tl G c 3 then fBes P.w P.h c 3 else c
theorem fNxt_y {c y : Int} (hy : 0 ≤ y ∧ y < 4) (hn : ∀ z : Int, 0 ≤ z → z < y → ¬ pOn P tl G c z) (ho : pOn P tl G c y) : fNxt P tl G c = fBes P.w P.h c y := by
  unfold fNxt
  rcases (show y = 0 ∨ y = 1 ∨ y = 2 ∨ y = 3 by omega) with e | e | e | e <;> subst e
  · rw [if_pos ho]
  · rw [if_neg (hn 0 (by decide) (by decide)), if_pos ho]
  · rw [if_neg (hn 0 (by decide) (by decide)), if_neg (hn 1 (by decide) (by decide)), if_pos ho]
  · rw [if_neg (hn 0 (by decide) (by decide)), if_neg (hn 1 (by decide) (by decide)), if_neg (hn 2 (by decide) (by decide)), if_pos ho]
theorem fNxt_o {c : Int} (ho : ∃ y : Int, 0 ≤ y ∧ y < 4 ∧ pOn P tl G c y) : ∃ y : Int, 0 ≤ y ∧ y < 4 ∧ pOn P tl G c y ∧ (∀ z : Int, 0 ≤ z → z < y → ¬ pOn P tl G c z) ∧ fNxt P tl G c = fBes P.w P.h c y := by
  obtain ⟨y, y0, y1, y2⟩ := ho
  by_cases a0 : pOn P tl G c 0
  · exact ⟨0, by decide, by decide, a0, fun z z0 z1 => by omega, fNxt_y (by decide) (fun z z0 z1 => by omega) a0⟩
  · have n1 : ∀ z : Int, 0 ≤ z → z < 1 → ¬ pOn P tl G c z := fun z z0 z1 => by rw [show z = 0 by omega]; exact a0
    by_cases a1 : pOn P tl G c 1
    · exact ⟨1, by decide, by decide, a1, n1, fNxt_y (by decide) n1 a1⟩
    · have n2 : ∀ z : Int, 0 ≤ z → z < 2 → ¬ pOn P tl G c z := fun z z0 z1 => by
        by_cases e : z = 1
        · rw [e]; exact a1
        · exact n1 z z0 (by omega)
      by_cases a2 : pOn P tl G c 2
      · exact ⟨2, by decide, by decide, a2, n2, fNxt_y (by decide) n2 a2⟩
      · have n3 : ∀ z : Int, 0 ≤ z → z < 3 → ¬ pOn P tl G c z := fun z z0 z1 => by
          by_cases e : z = 2
          · rw [e]; exact a2
          · exact n2 z z0 (by omega)
        have e : y = 3 := by
          apply Classical.byContradiction
          intro w
          exact n3 y y0 (by omega) y2
        subst e
        exact ⟨3, by decide, by decide, y2, n3, fNxt_y (by decide) n3 y2⟩
/-- the least: J, nothing left, all reached -/
def pMn (P : aP) (N to : Int) (tl G : Int → Int) : Prop := pJ P N to tl G ∧ pFx P N tl G ∧ ∀ c : Int, 0 ≤ c → c < N → ¬ G c = fBig
theorem pMn_st (hN : N = P.w * P.h ∧ N ≤ 48) (h : pMn P N to tl G) {c : Int} (hc : 0 ≤ c ∧ c < N) : 0 ≤ G c ∧ 0 ≤ G c % 100 ∧ G c % 100 ≤ 47 ∧ G c ≤ 4747 := by
  have h1 := cnG_lt (N := N) (G := G) hc
  rcases h.1.2.1 c hc.1 hc.2 with z | z
  · exact absurd z (h.2.2 c hc.1 hc.2)
  · omega
theorem pMn_n (hN : N = P.w * P.h ∧ N ≤ 48) (ht : ∀ n : Int, tl n = 1 ∨ tl n = 101) (h : pMn P N to tl G) {c : Int} (hc : 0 ≤ c ∧ c < N) (hne : ¬ c = to) : ∃ y : Int, 0 ≤ y ∧ y < 4 ∧ pOn P tl G c y := by
  obtain ⟨n, hn, h2, h3⟩ := h.1.2.2 c hc.1 hc.2 hne (h.2.2 c hc.1 hc.2)
  have h4 := h.2.1 c n hc.1 hc.2 hn h2
  obtain ⟨y, y0, y1, y2, y3⟩ := hn
  refine ⟨y, y0, y1, by rw [← y2]; exact y3, ?_⟩
  rw [← y2]
  omega
theorem pMn_x (hN : N = P.w * P.h ∧ N ≤ 48) (ht : ∀ n : Int, tl n = 1 ∨ tl n = 101) (h : pMn P N to tl G) {c : Int} (hc : 0 ≤ c ∧ c < N) (hne : ¬ c = to) : (0 ≤ fNxt P tl G c ∧ fNxt P tl G c < N) ∧ G (fNxt P tl G c) % 100 = G c % 100 - 1 := by
  obtain ⟨y, y0, y1, y2, y3, y4⟩ := fNxt_o (pMn_n hN ht h hc hne)
  have hb := fBes_b y2.1
  have h1 := pMn_st hN h (c := fBes P.w P.h c y) ⟨hb.1, by omega⟩
  have h2 := pMn_st hN h hc
  have h3 := ht (fBes P.w P.h c y)
  have h4 := y2.2
  rw [y4]
  omega
theorem pMn_to (h : pMn P N to tl G) : G to = 0 := h.1.1
def fCh (P : aP) (tl G : Int → Int) (a : Int) : Nat → Int
  | 0 => a
  | k + 1 => fNxt P tl G (fCh P tl G a k)
theorem fCh_s {a k : Int} (h : 0 ≤ k) : fCh P tl G a (k + 1).toNat = fNxt P tl G (fCh P tl G a k.toNat) := by
  rw [toNat_s h]; rfl
theorem fCh_st (hN : N = P.w * P.h ∧ N ≤ 48) (ht : ∀ n : Int, tl n = 1 ∨ tl n = 101) (hto : 0 ≤ to ∧ to < N) (h : pMn P N to tl G) {a : Int} (ha : 0 ≤ a ∧ a < N) : ∀ k : Nat, (k : Int) ≤ G a % 100 → (0 ≤ fCh P tl G a k ∧ fCh P tl G a k < N) ∧ G (fCh P tl G a k) % 100 = G a % 100 - k
  | 0, _ => ⟨ha, by show G a % 100 = G a % 100 - ((0 : Nat) : Int); omega⟩
  | k + 1, hk => by
    obtain ⟨h1, h2⟩ := fCh_st hN ht hto h ha k (by omega)
    have hne : ¬ fCh P tl G a k = to := fun z => by rw [z, h.1.1] at h2; omega
    have h3 := pMn_x hN ht h h1 hne
    refine ⟨h3.1, ?_⟩
    show G (fNxt P tl G (fCh P tl G a k)) % 100 = _
    rw [h3.2, h2]; omega
/-- at its end it is there, and not ahead of it -/
theorem fCh_to (hN : N = P.w * P.h ∧ N ≤ 48) (ht : ∀ n : Int, tl n = 1 ∨ tl n = 101) (h : pMn P N to tl G) {c : Int} (hc : 0 ≤ c ∧ c < N) : c = to ↔ G c % 100 = 0 := by
  constructor
  · intro e; rw [e, h.1.1]; rfl
  · intro e
    by_cases q : c = to
    · exact q
    · exfalso
      have h1 := pMn_x hN ht h hc q
      have h2 := pMn_st hN h h1.1
      omega
set_option maxRecDepth 20000 in
theorem c_next (hp : isP p) (wp : wP P) (hT : PT σ) (gp : cP p σ P) (htl : ∀ d : Int, 0 ≤ d → d < (P.w * P.h) → σ 119 d = tl d) (hF : ∀ d : Int, 0 ≤ d → d < (P.w * P.h) → σ 120 d = G d) (ht : ∀ n : Int, tl n = 1 ∨ tl n = 101) (hMn : pMn P (P.w * P.h) to tl G) {c : Int} (hc0 : 0 ≤ c ∧ c < (P.w * P.h)) (h : Q (some (.inl (fNxt P tl G c))) shM σ) : sx_Run X 68 [.inr (.inr 117), .inr (.inr p), .inl c] shM σ Q := by
  have q0 := lkP0 hp
  have v4 := wp.wh
  have a3 := pt_117_3 hT
  have a4 := pt_117_4 hT
  have hN : (P.w * P.h) = P.w * P.h ∧ (P.w * P.h) ≤ 48 := ⟨rfl, by omega⟩
  have eF := hF c hc0.1 hc0.2
  refine sx_rule2 (own := 7) (cd := kX7_nextCell) (nL := 5) (by decide +kernel) (by decide +kernel) kX7_nextCell_ok (by decide +kernel) (Nat.le_of_ble_eq_true rfl) [2] 40 (fun n t L st _ σ' => (t = 2 ∧ ∃ y : Int, ∃ w4 : Option sx_V, st = [] ∧ L = [some (.inr (.inr (117))), some (.inr (.inr (p))), some (.inl (c)), some (.inl (y)), w4] ∧ (σ' = σ ∧ (∀ z : Int, 0 ≤ z → z < y → ¬ pOn P tl G c z) ∧ 0 ≤ y ∧ y ≤ 4) ∧ n = (4 - y).toNat)) ?_ ?_
  · skip
    conv => whnf
    refine ⟨_, ⟨rfl, _, _, rfl, rfl, ?_, rfl⟩⟩
    exact ⟨rfl, fun z z0 z1 => by omega, by omega, by omega⟩
  · intro n t L st σ' hk
    obtain ⟨rfl, y, w4, rfl, rfl, hc, rfl⟩ := hk
    obtain ⟨rfl, hno, hy0, hy1⟩ := hc
    conv => whnf
    refine ⟨fun g => ?_, fun g => ?_⟩
    · simp only [sx_cc, Classical.not_not] at g
      conv => whnf
      refine ⟨fun q9 => by first | (simp at q9; done) | omega, ?_⟩
      have e9 : fNxt P tl G c = c := by unfold fNxt; rw [if_neg (hno 0 (by decide) (by omega)), if_neg (hno 1 (by decide) (by omega)), if_neg (hno 2 (by decide) (by omega)), if_neg (hno 3 (by decide) (by omega))]
      rw [e9] at h
      exact h
    · simp only [sx_cc, Classical.not_not] at g
      conv => whnf
      refine ⟨Nat.le_of_ble_eq_true rfl, Nat.le_of_ble_eq_true rfl, (by first | assumption | rfl), ?_⟩
      refine c_Pbeside hp (gp.pd wp) hc0.1 (by rw [gp.w, gp.h]; exact hc0.2) ?_
      rw [gp.w, gp.h]
      have hbo := fBes_o (P := P) (a := c) (y := y)
      conv => whnf
      refine ⟨fun g => ?_, fun g => ?_⟩
      · simp only [sx_cc, Classical.not_not] at g
        conv => whnf
        refine ⟨⟨by omega, by omega⟩, ?_⟩
        conv => whnf
        refine ⟨_, ?_, ⟨rfl, _, _, rfl, rfl, ?_, rfl⟩⟩
        · omega
        · refine ⟨rfl, fun z z0 z1 => ?_, by omega, by omega⟩
          by_cases e9 : z = y
          · rw [e9]; intro w; first | exact w.1 (by omega) | (have w2 := w.2; omega)
          · exact hno z z0 (by omega)
      · simp only [sx_cc, Classical.not_not] at g
        have hu : 0 ≤ fBes P.w P.h c y ∧ fBes P.w P.h c y < (P.w * P.h) := (by omega)
        have et := htl _ hu.1 hu.2
        have en := hF _ hu.1 hu.2
        have hgb := pMn_st hN hMn (c := fBes P.w P.h c y) hu
        have htb := ht (fBes P.w P.h c y)
        conv => whnf
        refine ⟨(by first | assumption | rfl), ?_⟩
        try simp (disch := omega) only [Int.cast_ofNat_Int, up_s, up_a, up_i, mp_a, mp_ge]
        try simp only [a3]
        try simp only [a4]
        try simp only [eF]
        try simp only [et]
        try simp only [en]
        conv => whnf
        refine ⟨sx_ixI (by first | assumption | rfl) (by omega) (by omega), ?_⟩
        try simp (disch := omega) only [Int.cast_ofNat_Int, up_s, up_a, up_i, mp_a, mp_ge]
        try simp only [a3]
        try simp only [a4]
        try simp only [eF]
        try simp only [et]
        try simp only [en]
        conv => whnf
        refine ⟨(by first | assumption | rfl), ?_⟩
        try simp (disch := omega) only [Int.cast_ofNat_Int, up_s, up_a, up_i, mp_a, mp_ge]
        try simp only [a3]
        try simp only [a4]
        try simp only [eF]
        try simp only [et]
        try simp only [en]
        conv => whnf
        refine ⟨sx_ixI (by first | assumption | rfl) (by omega) (by omega), ?_⟩
        try simp (disch := omega) only [Int.cast_ofNat_Int, up_s, up_a, up_i, mp_a, mp_ge]
        try simp only [a3]
        try simp only [a4]
        try simp only [eF]
        try simp only [et]
        try simp only [en]
        conv => whnf
        refine ⟨⟨by omega, by omega⟩, ?_⟩
        conv => whnf
        refine ⟨(by first | assumption | rfl), ?_⟩
        try simp (disch := omega) only [Int.cast_ofNat_Int, up_s, up_a, up_i, mp_a, mp_ge]
        try simp only [a3]
        try simp only [a4]
        try simp only [eF]
        try simp only [et]
        try simp only [en]
        conv => whnf
        refine ⟨sx_ixI (by first | assumption | rfl) (by omega) (by omega), ?_⟩
        try simp (disch := omega) only [Int.cast_ofNat_Int, up_s, up_a, up_i, mp_a, mp_ge]
        try simp only [a3]
        try simp only [a4]
        try simp only [eF]
        try simp only [et]
        try simp only [en]
        conv => whnf
        refine ⟨fun g => ?_, fun g => ?_⟩
        · simp only [sx_cc, Classical.not_not] at g
          conv => whnf
          refine ⟨⟨by omega, by omega⟩, ?_⟩
          conv => whnf
          refine ⟨_, ?_, ⟨rfl, _, _, rfl, rfl, ?_, rfl⟩⟩
          · omega
          · refine ⟨rfl, fun z z0 z1 => ?_, by omega, by omega⟩
            by_cases e9 : z = y
            · rw [e9]; intro w; first | exact w.1 (by omega) | (have w2 := w.2; omega)
            · exact hno z z0 (by omega)
        · simp only [sx_cc, Classical.not_not] at g
          conv => whnf
          refine ⟨fun q9 => by first | (simp at q9; done) | omega, ?_⟩
          rw [fNxt_y ⟨hy0, by omega⟩ hno ⟨by omega, by omega⟩] at h
          exact h
set_option maxRecDepth 20000 in
theorem c_follow (hp : isP p) (wp : wP P) (hT : PT σ) (gp : cP p σ P) (htl : ∀ d : Int, 0 ≤ d → d < (P.w * P.h) → σ 119 d = tl d) (hF : ∀ d : Int, 0 ≤ d → d < (P.w * P.h) → σ 120 d = G d) (ht : ∀ n : Int, tl n = 1 ∨ tl n = 101) (hMn : pMn P (P.w * P.h) to tl G) {a : Int} (ha : 0 ≤ a ∧ a < (P.w * P.h)) (hto : 0 ≤ to ∧ to < (P.w * P.h)) (h : ∀ σ', (∀ b i : Int, ¬ b = 118 → ¬ (b = 117 ∧ i = 1) → σ' b i = σ b i) → σ' 117 1 = G a % 100 → (∀ k : Int, 0 ≤ k → k ≤ G a % 100 → σ' 118 k = fCh P tl G a k.toNat) → Q none shM σ') : sx_Run X 67 [.inr (.inr 117), .inr (.inr p), .inl a, .inl to] shM σ Q := by
  have q0 := lkP0 hp
  have v4 := wp.wh
  have a2 := pt_117_2 hT
  have hN : (P.w * P.h) = P.w * P.h ∧ (P.w * P.h) ≤ 48 := ⟨rfl, by omega⟩
  have hga := pMn_st hN hMn ha
  have hpz : p + 20 < 38 := by rcases hp with h9 | h9 <;> omega
  refine sx_rule2 (own := 7) (cd := kX7_follow) (nL := 6) (by decide +kernel) (by decide +kernel) kX7_follow_ok (by decide +kernel) (Nat.le_of_ble_eq_true rfl) [18] 40 (fun n t L st _ σ' => (t = 18 ∧ ∃ u i : Int, st = [] ∧ L = [some (.inr (.inr (117))), some (.inr (.inr (p))), some (.inl (a)), some (.inl (to)), some (.inl (u)), some (.inl (i))] ∧ ((∀ b i : Int, ¬ b = 118 → ¬ (b = 117 ∧ i = 1) → σ' b i = σ b i) ∧ u = fCh P tl G a (i - 1).toNat ∧ σ' 117 1 = i - 1 ∧ (∀ k : Int, 0 ≤ k → k < i → σ' 118 k = fCh P tl G a k.toNat) ∧ 1 ≤ i ∧ i ≤ 48 ∧ i - 1 ≤ G a % 100) ∧ n = (48 - i).toNat)) ?_ ?_
  · skip
    conv => whnf
    refine ⟨(by first | assumption | rfl), ?_⟩
    try simp (disch := omega) only [Int.cast_ofNat_Int, up_s, up_a, up_i, mp_a, mp_ge]
    try simp only [a2]
    try simp only [a2b]
    conv => whnf
    refine ⟨sx_ixI (by first | assumption | rfl) (by omega) (by omega), ?_⟩
    conv => whnf
    refine ⟨(by first | assumption | rfl), ?_⟩
    try simp (disch := omega) only [Int.cast_ofNat_Int, up_s, up_a, up_i, mp_a, mp_ge]
    try simp only [a2]
    try simp only [a2b]
    conv => whnf
    refine ⟨_, ⟨rfl, _, _, rfl, rfl, ?_, rfl⟩⟩
    exact ⟨fun b i z1 z2 => by rw [up_n z2, up_a z1], rfl, up_s, fun k y0 y1 => by rw [show k = 0 by omega, up_a (by decide), up_s]; rfl, by omega, by omega, by omega⟩
  · intro n t L st σ' hk
    obtain ⟨rfl, u, i, rfl, rfl, hc, rfl⟩ := hk
    obtain ⟨xc, hu, hst, hcl, hi0, hi1, hi2⟩ := hc
    have Tc : PT σ' := hT.fr (fun q hq => xc _ _ (fun z9 => by have h1 := of_decide_eq_true (List.all_eq_true.mp FFo_pts q hq); exact h1.1 z9) (fun z9 => by have h1 := of_decide_eq_true (List.all_eq_true.mp FFo_pts q hq); exact h1.2 z9))
    have gc : cP p σ' P := gp.of (fun b i z1 z2 => xc b i (by omega) (by omega))
    have a2b := pt_117_2 Tc
    have hs9 := fCh_st hN ht hto hMn ha (i - 1).toNat (by omega)
    rw [← hu] at hs9
    have hub := hs9.1
    have hst9 := hs9.2
    have hiff := fCh_to hN ht hMn hub
    conv => whnf
    refine ⟨fun g => ?_, fun g => ?_⟩
    · simp only [sx_cc, Classical.not_not] at g
      conv => whnf
      refine ⟨rfl, ?_⟩
      have e9 : i - 1 = G a % 100 := by
        by_cases q : i = 48
        · omega
        · have h9 := hiff.mp (by omega)
          omega
      exact h _ xc (by omega) (fun k y0 y1 => hcl k y0 (by omega))
    · simp only [sx_cc, Classical.not_not] at g
      conv => whnf
      refine ⟨fun g => ?_, fun g => ?_⟩
      · simp only [sx_cc, Classical.not_not] at g
        conv => whnf
        refine ⟨rfl, ?_⟩
        have e9 : i - 1 = G a % 100 := by
          by_cases q : i = 48
          · omega
          · have h9 := hiff.mp (by omega)
            omega
        exact h _ xc (by omega) (fun k y0 y1 => hcl k y0 (by omega))
      · simp only [sx_cc, Classical.not_not] at g
        conv => whnf
        refine ⟨Nat.le_of_ble_eq_true rfl, Nat.le_of_ble_eq_true rfl, (by first | assumption | rfl), ?_⟩
        refine c_next hp wp Tc gc (fun d y0 y1 => (xc _ _ (by decide) (by omega)).trans (htl d y0 y1)) (fun d y0 y1 => (xc _ _ (by decide) (by omega)).trans (hF d y0 y1)) ht hMn hub ?_
        conv => whnf
        refine ⟨(by first | assumption | rfl), ?_⟩
        try simp (disch := omega) only [Int.cast_ofNat_Int, up_s, up_a, up_i, mp_a, mp_ge]
        try simp only [a2]
        try simp only [a2b]
        conv => whnf
        refine ⟨sx_ixI (by first | assumption | rfl) (by omega) (by omega), ?_⟩
        conv => whnf
        refine ⟨(by first | assumption | rfl), ?_⟩
        try simp (disch := omega) only [Int.cast_ofNat_Int, up_s, up_a, up_i, mp_a, mp_ge]
        try simp only [a2]
        try simp only [a2b]
        conv => whnf
        refine ⟨⟨by omega, by omega⟩, ?_⟩
        conv => whnf
        refine ⟨_, ?_, ⟨rfl, _, _, rfl, rfl, ?_, rfl⟩⟩
        · omega
        · have hne : ¬ u = to := by assumption
          have h7 : ¬ G u % 100 = 0 := fun z9 => hne (hiff.mpr z9)
          refine ⟨fun b j z1 z2 => by rw [up_n z2, up_a z1]; exact xc b j z1 z2, ?_, by rw [up_s]; omega, fun k y0 y1 => ?_, by omega, by omega, by omega⟩
          · rw [hu, show (i + 1 - 1).toNat = (i - 1 + 1).toNat by omega, fCh_s (by omega)]
          · rw [up_a (by decide)]
            by_cases e9 : k = i
            · rw [e9, up_s, hu, ← fCh_s (by omega), show i - 1 + 1 = i by omega]
            · rw [up_i e9]; exact hcl k y0 (by omega)
end SXN4
