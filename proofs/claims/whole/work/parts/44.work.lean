/-! RECKONING: a law of the class (by wip/whole) -/
section SXK5
variable {X : sx_X} {σ σ0 : sx_S} {p : Int} {Q : sx_R}
/-- a name's place in the reference -/
def fPn (c : Int) : Int := if c = 10 then 3 else if c ≤ 13 then c - 11 else c - 10
/-- place i of a law: leaf, name, not, join; dp the depth, ix the knots on the stack -/
def pWi (code num kd pt ot dp : Int → Int) (ix : Int → Int → Int) (lo i : Int) : Prop :=
  0 ≤ dp i ∧ dp i ≤ 64 ∧ (∀ d : Int, 0 ≤ d → d < dp i → lo ≤ ix i d ∧ ix i d < i) ∧
  ((code i = 21 ∧ kd i = 0 ∧ num i = pt i ∧ pB12 (num i) ∧ dp i < 64 ∧ dp (i + 1) = dp i + 1 ∧ ix (i + 1) = fun j => if j = dp i then i else ix i j)
  ∨ (10 ≤ code i ∧ code i ≤ 16 ∧ kd i = 1 ∧ pt i = fPn (code i) ∧ dp i < 64 ∧ dp (i + 1) = dp i + 1 ∧ ix (i + 1) = fun j => if j = dp i then i else ix i j)
  ∨ (code i = 19 ∧ kd i = 2 ∧ 1 ≤ dp i ∧ pt i = ix i (dp i - 1) ∧ dp (i + 1) = dp i ∧ ix (i + 1) = fun j => if j = dp i - 1 then i else ix i j)
  ∨ ((code i = 17 ∨ code i = 18 ∨ (25 ≤ code i ∧ code i ≤ 34)) ∧ kd i = fKd (code i) ∧ 2 ≤ dp i ∧ pt i = ix i (dp i - 2) ∧ ot i = ix i (dp i - 1) ∧ dp (i + 1) = dp i - 1 ∧ ix (i + 1) = fun j => if j = dp i - 2 then i else ix i j))
def pW (code num kd pt ot dp : Int → Int) (ix : Int → Int → Int) (lo hi : Int) : Prop := dp lo = 0 ∧ dp hi = 1 ∧ ix hi 0 = hi - 1 ∧ ∀ i : Int, lo ≤ i → i < hi → pWi code num kd pt ot dp ix lo i
def eqC (σ σ' : sx_S) : Prop := ∀ a i : Int, ¬ a = 39 → ¬ (a = 37 ∧ i = 2) → σ' a i = σ a i
theorem eqC.row {σ σ' : sx_S} (h : eqC σ σ') {a : Int} (h1 : ¬ a = 39) (h2 : ¬ a = 37) : σ' a = σ a := funext fun i => h a i h1 (fun z => h2 z.1)
theorem eqC.upv {σ σ' : sx_S} (h : eqC σ σ') {i v : Int} : eqC σ (sx_up σ' 39 i v) := fun a j h1 h2 => by rw [up_a h1]; exact h a j h1 h2
theorem eqC.upf {σ σ' : sx_S} (h : eqC σ σ') {v : Int} : eqC σ (sx_up σ' 37 2 v) := fun a j h1 h2 => by
  unfold sx_up
  rw [if_neg h2]
  exact h a j h1 h2
theorem eqC_rfl (σ : sx_S) : eqC σ σ := fun _ _ _ _ => rfl
theorem eqC_pts : ptL.all (fun q => decide (¬ q.1 = 39 ∧ ¬ (q.1 = 37 ∧ q.2.1 = 2))) = true := by decide +kernel
theorem eqC.pt {σ σ' : sx_S} (h : eqC σ σ') (hT : PT σ) : PT σ' := hT.fr (fun q hq => by
  have h1 := of_decide_eq_true (List.all_eq_true.mp eqC_pts q hq)
  exact h _ _ h1.1 h1.2)
def SCC (σ : sx_S) : Prop := (∀ j : Int, 0 ≤ j → j < 64 → pB12 (σ 39 j)) ∧ (σ 37 2 = 0 ∨ σ 37 2 = 1)
theorem SCC.upv {σ : sx_S} (h : SCC σ) {i v : Int} (hv : pB12 v) : SCC (sx_up σ 39 i v) := by
  refine ⟨fun j h0 h1 => ?_, ?_⟩
  · by_cases e : j = i
    · rw [e, up_s]; exact hv
    · rw [up_i e]; exact h.1 j h0 h1
  · rw [up_a (by decide)]; exact h.2
theorem SCC.upf {σ : sx_S} (h : SCC σ) {v : Int} (hv : v = 0 ∨ v = 1) : SCC (sx_up σ 37 2 v) := by
  refine ⟨fun j h0 h1 => ?_, ?_⟩
  · rw [up_a (by decide)]; exact h.1 j h0 h1
  · rw [up_s]; exact hv
def CV (kd pt ot nm dp : Int → Int) (ix : Int → Int → Int) (lo i : Int) (σ' : sx_S) : Prop := (σ' 37 2 = 0 → ∃ g, fEv kd pt ot nm lo (i - lo).toNat = some g ∧ ∀ d : Int, 0 ≤ d → d < dp i → σ' 39 d = g (ix i d)) ∧ (σ' 37 2 = 1 → fEv kd pt ot nm lo (i - lo).toNat = none)
theorem CV_0 {kd pt ot nm dp : Int → Int} {ix : Int → Int → Int} {lo : Int} {σ' : sx_S} (hd : dp lo = 0) (h : σ' 37 2 = 0) : CV kd pt ot nm dp ix lo lo σ' := by
  refine ⟨fun _ => ⟨fun _ => 0, ?_, fun j h1 h2 => by omega⟩, fun z => by omega⟩
  rw [show (lo - lo).toNat = 0 by omega]
  rfl
theorem CV_s {kd pt ot nm dp : Int → Int} {ix : Int → Int → Int} {lo i s v : Int} {σ' : sx_S} (hi : lo ≤ i) (h : CV kd pt ot nm dp ix lo i σ') (hl : ∀ d : Int, 0 ≤ d → d < dp i → lo ≤ ix i d ∧ ix i d < i) (hs : dp (i + 1) = s + 1) (hsd : s ≤ dp i) (hix : ix (i + 1) = fun j => if j = s then i else ix i j)
    (hv : ∀ g, (∀ d : Int, 0 ≤ d → d < dp i → σ' 39 d = g (ix i d)) → fOp kd pt ot nm g i = some v) : CV kd pt ot nm dp ix lo (i + 1) (sx_up σ' 39 s v) := by
  unfold CV
  rw [up_a (show ¬ (37 : Int) = 39 by decide)]
  refine ⟨fun z => ?_, fun z => fEv_n hi (h.2 z)⟩
  obtain ⟨g, h1, h2⟩ := h.1 z
  refine ⟨_, fEv_v hi h1 (hv g h2), fun d h3 h4 => ?_⟩
  show sx_up σ' 39 s v 39 d = if ix (i + 1) d = i then v else g (ix (i + 1) d)
  by_cases e : d = s
  · have e2 : ix (i + 1) d = i := (congrFun hix d).trans (if_pos e)
    rw [if_pos e2, e, up_s]
  · have e2 : ix (i + 1) d = ix i d := (congrFun hix d).trans (if_neg e)
    have h5 := hl d h3 (by omega)
    rw [up_i e, if_neg (by omega), e2]
    exact h2 d h3 (by omega)
theorem CV_f {kd pt ot nm dp : Int → Int} {ix : Int → Int → Int} {lo i s v : Int} {σ' : sx_S} (hi : lo ≤ i) (hf : σ' 37 2 = 0 ∨ σ' 37 2 = 1) (h : CV kd pt ot nm dp ix lo i σ')
    (hv : ∀ g, (∀ d : Int, 0 ≤ d → d < dp i → σ' 39 d = g (ix i d)) → fOp kd pt ot nm g i = none) : CV kd pt ot nm dp ix lo (i + 1) (sx_up (sx_up σ' 37 2 1) 39 s v) := by
  unfold CV
  rw [up_a (show ¬ (37 : Int) = 39 by decide), up_s]
  refine ⟨fun z => absurd z (by decide), fun _ => ?_⟩
  rcases hf with z | z
  · obtain ⟨g, h1, h2⟩ := h.1 z
    exact fEv_f hi h1 (hv g h2)
  · exact fEv_n hi (h.2 z)
set_option maxRecDepth 20000 in
theorem c_Kwork (hT : PT σ) (hp : isP p) (hsc0 : SCC σ) {k lo hi : Int} {kd pt ot nm dp : Int → Int} {ix : Int → Int → Int} (hk : 0 ≤ k ∧ k < 3) (elo : σ (p + 13) k = lo) (ehi : σ (p + 14) k = hi) (hlo : 0 ≤ lo ∧ lo < hi ∧ hi ≤ 64) (hW : pW (σ (p + 11)) (σ (p + 12)) kd pt ot dp ix lo hi) (hnm : ∀ c : Int, 10 ≤ c → c ≤ 16 → σ 38 (c - 10) = nm (fPn c)) (hnb : ∀ j : Int, 0 ≤ j → j < 7 → pB12 (σ 38 j)) (h : ∀ σ' v, eqC σ σ' → SCC σ' → (∀ g, fEv kd pt ot nm lo (hi - lo).toNat = some g → v = g (hi - 1) ∧ pB12 v) → (fEv kd pt ot nm lo (hi - lo).toNat = none → v = -9223372036854775808) → Q (some (.inr (.inl v))) shM σ') : sx_Run X 57 [.inr (.inr 37), .inr (.inr p), .inl k] shM σ Q := by
  have t15 := ptP_15 hT hp
  have t16 := ptP_16 hT hp
  have t17 := ptP_17 hT hp
  have t18 := ptP_18 hT hp
  have q0 := lkP0 hp
  have q11 := lkP11 hp
  have q12 := lkP12 hp
  have q13 := lkP13 hp
  have q14 := lkP14 hp
  have hpz : p + 20 < 38 := by rcases hp with h9 | h9 <;> omega
  have o0 := pt_37_0 hT
  have o1 := pt_37_1 hT
  obtain ⟨hd0, hd1, hix0, hwi⟩ := hW
  refine sx_rule2 (own := 6) (cd := kX6_work) (nL := 6) (by decide +kernel) (by decide +kernel) kX6_work_ok (by decide +kernel) (Nat.le_of_ble_eq_true rfl) [15] 40 (fun n t L st _ σ' => (t = 15 ∧ ∃ d i : Int, ∃ w5 : Option sx_V, st = [] ∧ L = [some (.inr (.inr (37))), some (.inr (.inr (p))), some (.inl (k)), some (.inl (d)), some (.inl (i)), w5] ∧ (eqC σ σ' ∧ SCC σ' ∧ lo ≤ i ∧ i ≤ hi ∧ d = dp i ∧ CV kd pt ot nm dp ix lo i σ') ∧ n = (hi - i).toNat)) ?_ ?_
  · skip
    conv => whnf
    refine ⟨(by first | assumption | rfl), by omega, ?_⟩
    try simp (disch := omega) only [Int.cast_ofNat_Int, up_s, up_a, up_i, mp_a, mp_ge, cp_a, o0, o1, t15, t16, t17, t18, elo, ehi]
    conv => whnf
    refine ⟨(by first | assumption | rfl), ?_⟩
    try simp (disch := omega) only [Int.cast_ofNat_Int, up_s, up_a, up_i, mp_a, mp_ge, cp_a, o0, o1, t15, t16, t17, t18, elo, ehi]
    conv => whnf
    refine ⟨sx_ixI (by first | assumption | rfl) (by omega) (by omega), ?_⟩
    try simp (disch := omega) only [Int.cast_ofNat_Int, up_s, up_a, up_i, mp_a, mp_ge, cp_a, o0, o1, t15, t16, t17, t18, elo, ehi]
    conv => whnf
    refine ⟨_, ⟨rfl, _, _, _, rfl, rfl, ?_, rfl⟩⟩
    exact ⟨(eqC_rfl σ).upf, hsc0.upf (Or.inl rfl), by omega, by omega, by omega, CV_0 hd0 up_s⟩
  · intro n t L st σ' hk
    obtain ⟨rfl, d, i, w5, rfl, rfl, hc, rfl⟩ := hk
    obtain ⟨heq, hsc, hi0, hi1, rfl, hcv⟩ := hc
    have hT' := heq.pt hT
    have f0 := pt_37_0 hT'
    have f1 := pt_37_1 hT'
    have ep15 := ptP_15 hT' hp
    have ep16 := ptP_16 hT' hp
    have ep17 := ptP_17 hT' hp
    have ep18 := ptP_18 hT' hp
    have e11 : σ' (p + 11) = σ (p + 11) := heq.row (by omega) (by omega)
    have e12 : σ' (p + 12) = σ (p + 12) := heq.row (by omega) (by omega)
    have e13 : σ' (p + 13) = σ (p + 13) := heq.row (by omega) (by omega)
    have e14 : σ' (p + 14) = σ (p + 14) := heq.row (by omega) (by omega)
    have e38 : σ' 38 = σ 38 := heq.row (by decide) (by decide)
    have hw : i < hi → pWi (σ (p + 11)) (σ (p + 12)) kd pt ot dp ix lo i := hwi i hi0
    have hwA : i < hi → 0 ≤ dp i ∧ dp i ≤ 64 ∧ ((σ (p + 11) i = 21 ∧ dp i < 64) ∨ (10 ≤ σ (p + 11) i ∧ σ (p + 11) i ≤ 16 ∧ dp i < 64) ∨ (σ (p + 11) i = 19 ∧ 1 ≤ dp i) ∨ ((σ (p + 11) i = 17 ∨ σ (p + 11) i = 18 ∨ (25 ≤ σ (p + 11) i ∧ σ (p + 11) i ≤ 34)) ∧ 2 ≤ dp i)) := fun z => by
      obtain ⟨y0, y1, _, y2⟩ := hw z
      refine ⟨y0, y1, ?_⟩
      rcases y2 with y | y | y | y
      · exact Or.inl ⟨y.1, y.2.2.2.2.1⟩
      · exact Or.inr (Or.inl ⟨y.1, y.2.1, y.2.2.2.2.1⟩)
      · exact Or.inr (Or.inr (Or.inl ⟨y.1, y.2.2.1⟩))
      · exact Or.inr (Or.inr (Or.inr ⟨y.1, y.2.2.1⟩))
    conv => whnf
    refine ⟨(by first | assumption | rfl), ?_⟩
    try simp (disch := omega) only [Int.cast_ofNat_Int, up_s, up_a, up_i, mp_a, mp_ge, cp_a, o0, o1, t15, t16, t17, t18, f0, f1, elo, ehi, e11, e12, e13, e14, e38, ep15, ep16, ep17, ep18]
    conv => whnf
    refine ⟨sx_ixI (by first | assumption | rfl) (by omega) (by omega), ?_⟩
    try simp (disch := omega) only [Int.cast_ofNat_Int, up_s, up_a, up_i, mp_a, mp_ge, cp_a, o0, o1, t15, t16, t17, t18, f0, f1, elo, ehi, e11, e12, e13, e14, e38, ep15, ep16, ep17, ep18]
    conv => whnf
    refine ⟨fun g => ?_, fun g => ?_⟩
    · simp only [sx_cc, Classical.not_not] at g; try simp only [cmp_eq, cmp_ge, cmp_lt, cmp_gt, cmp_le, Int.cast_ofNat_Int] at g
      conv => whnf
      refine ⟨(by first | assumption | rfl), ?_⟩
      try simp (disch := omega) only [Int.cast_ofNat_Int, up_s, up_a, up_i, mp_a, mp_ge, cp_a, o0, o1, t15, t16, t17, t18, f0, f1, elo, ehi, e11, e12, e13, e14, e38, ep15, ep16, ep17, ep18]
      conv => whnf
      refine ⟨fun g => ?_, fun g => ?_⟩
      · simp only [sx_cc, Classical.not_not] at g; try simp only [cmp_eq, cmp_ge, cmp_lt, cmp_gt, cmp_le, Int.cast_ofNat_Int] at g
        conv => whnf
        have e9 : i = hi := by omega
        subst e9
        first | (exfalso; omega) | (have z9 : σ' 37 2 = 1 := hsc.2.resolve_left (by omega); exact h _ _ heq hsc (fun g z => absurd (z.symm.trans (hcv.2 z9)) (by simp)) (fun _ => rfl)) | (obtain ⟨g9, y1, y2⟩ := hcv.1 (by omega); exact h _ _ heq hsc (fun g z => by rw [z] at y1; have e7 := Option.some.inj y1; subst e7; exact ⟨by rw [← hix0]; exact y2 0 (by omega) (by omega), hsc.1 0 (by omega) (by omega)⟩) (fun z => absurd (z.symm.trans y1) (by simp)))
      · simp only [sx_cc, Classical.not_not] at g; try simp only [cmp_eq, cmp_ge, cmp_lt, cmp_gt, cmp_le, Int.cast_ofNat_Int] at g
        conv => whnf
        refine ⟨fun g => ?_, fun g => ?_⟩
        · simp only [sx_cc, Classical.not_not] at g; try simp only [cmp_eq, cmp_ge, cmp_lt, cmp_gt, cmp_le, Int.cast_ofNat_Int] at g
          conv => whnf
          refine ⟨(by first | assumption | rfl), ?_⟩
          try simp (disch := omega) only [Int.cast_ofNat_Int, up_s, up_a, up_i, mp_a, mp_ge, cp_a, o0, o1, t15, t16, t17, t18, f0, f1, elo, ehi, e11, e12, e13, e14, e38, ep15, ep16, ep17, ep18]
          conv => whnf
          refine ⟨sx_ixI (by first | assumption | rfl) (by omega) (by omega), ?_⟩
          try simp (disch := omega) only [Int.cast_ofNat_Int, up_s, up_a, up_i, mp_a, mp_ge, cp_a, o0, o1, t15, t16, t17, t18, f0, f1, elo, ehi, e11, e12, e13, e14, e38, ep15, ep16, ep17, ep18]
          conv => whnf
          have e9 : i = hi := by omega
          subst e9
          first | (exfalso; omega) | (have z9 : σ' 37 2 = 1 := hsc.2.resolve_left (by omega); exact h _ _ heq hsc (fun g z => absurd (z.symm.trans (hcv.2 z9)) (by simp)) (fun _ => rfl)) | (obtain ⟨g9, y1, y2⟩ := hcv.1 (by omega); exact h _ _ heq hsc (fun g z => by rw [z] at y1; have e7 := Option.some.inj y1; subst e7; exact ⟨by rw [← hix0]; exact y2 0 (by omega) (by omega), hsc.1 0 (by omega) (by omega)⟩) (fun z => absurd (z.symm.trans y1) (by simp)))
        · simp only [sx_cc, Classical.not_not] at g; try simp only [cmp_eq, cmp_ge, cmp_lt, cmp_gt, cmp_le, Int.cast_ofNat_Int] at g
          conv => whnf
          have e9 : i = hi := by omega
          subst e9
          first | (exfalso; omega) | (have z9 : σ' 37 2 = 1 := hsc.2.resolve_left (by omega); exact h _ _ heq hsc (fun g z => absurd (z.symm.trans (hcv.2 z9)) (by simp)) (fun _ => rfl)) | (obtain ⟨g9, y1, y2⟩ := hcv.1 (by omega); exact h _ _ heq hsc (fun g z => by rw [z] at y1; have e7 := Option.some.inj y1; subst e7; exact ⟨by rw [← hix0]; exact y2 0 (by omega) (by omega), hsc.1 0 (by omega) (by omega)⟩) (fun z => absurd (z.symm.trans y1) (by simp)))
    · simp only [sx_cc, Classical.not_not] at g; try simp only [cmp_eq, cmp_ge, cmp_lt, cmp_gt, cmp_le, Int.cast_ofNat_Int] at g
      conv => whnf
      refine ⟨fun g => ?_, fun g => ?_⟩
      · simp only [sx_cc, Classical.not_not] at g; try simp only [cmp_eq, cmp_ge, cmp_lt, cmp_gt, cmp_le, Int.cast_ofNat_Int] at g
        conv => whnf
        refine ⟨(by first | assumption | rfl), ?_⟩
        try simp (disch := omega) only [Int.cast_ofNat_Int, up_s, up_a, up_i, mp_a, mp_ge, cp_a, o0, o1, t15, t16, t17, t18, f0, f1, elo, ehi, e11, e12, e13, e14, e38, ep15, ep16, ep17, ep18]
        conv => whnf
        refine ⟨fun g => ?_, fun g => ?_⟩
        · simp only [sx_cc, Classical.not_not] at g; try simp only [cmp_eq, cmp_ge, cmp_lt, cmp_gt, cmp_le, Int.cast_ofNat_Int] at g
          conv => whnf
          have e9 : i = hi := by omega
          subst e9
          first | (exfalso; omega) | (have z9 : σ' 37 2 = 1 := hsc.2.resolve_left (by omega); exact h _ _ heq hsc (fun g z => absurd (z.symm.trans (hcv.2 z9)) (by simp)) (fun _ => rfl)) | (obtain ⟨g9, y1, y2⟩ := hcv.1 (by omega); exact h _ _ heq hsc (fun g z => by rw [z] at y1; have e7 := Option.some.inj y1; subst e7; exact ⟨by rw [← hix0]; exact y2 0 (by omega) (by omega), hsc.1 0 (by omega) (by omega)⟩) (fun z => absurd (z.symm.trans y1) (by simp)))
        · simp only [sx_cc, Classical.not_not] at g; try simp only [cmp_eq, cmp_ge, cmp_lt, cmp_gt, cmp_le, Int.cast_ofNat_Int] at g
          conv => whnf
          refine ⟨fun g => ?_, fun g => ?_⟩
          · simp only [sx_cc, Classical.not_not] at g; try simp only [cmp_eq, cmp_ge, cmp_lt, cmp_gt, cmp_le, Int.cast_ofNat_Int] at g
            conv => whnf
            refine ⟨(by first | assumption | rfl), ?_⟩
            try simp (disch := omega) only [Int.cast_ofNat_Int, up_s, up_a, up_i, mp_a, mp_ge, cp_a, o0, o1, t15, t16, t17, t18, f0, f1, elo, ehi, e11, e12, e13, e14, e38, ep15, ep16, ep17, ep18]
            conv => whnf
            refine ⟨sx_ixI (by first | assumption | rfl) (by omega) (by omega), ?_⟩
            try simp (disch := omega) only [Int.cast_ofNat_Int, up_s, up_a, up_i, mp_a, mp_ge, cp_a, o0, o1, t15, t16, t17, t18, f0, f1, elo, ehi, e11, e12, e13, e14, e38, ep15, ep16, ep17, ep18]
            conv => whnf
            have e9 : i = hi := by omega
            subst e9
            first | (exfalso; omega) | (have z9 : σ' 37 2 = 1 := hsc.2.resolve_left (by omega); exact h _ _ heq hsc (fun g z => absurd (z.symm.trans (hcv.2 z9)) (by simp)) (fun _ => rfl)) | (obtain ⟨g9, y1, y2⟩ := hcv.1 (by omega); exact h _ _ heq hsc (fun g z => by rw [z] at y1; have e7 := Option.some.inj y1; subst e7; exact ⟨by rw [← hix0]; exact y2 0 (by omega) (by omega), hsc.1 0 (by omega) (by omega)⟩) (fun z => absurd (z.symm.trans y1) (by simp)))
          · simp only [sx_cc, Classical.not_not] at g; try simp only [cmp_eq, cmp_ge, cmp_lt, cmp_gt, cmp_le, Int.cast_ofNat_Int] at g
            conv => whnf
            have e9 : i = hi := by omega
            subst e9
            first | (exfalso; omega) | (have z9 : σ' 37 2 = 1 := hsc.2.resolve_left (by omega); exact h _ _ heq hsc (fun g z => absurd (z.symm.trans (hcv.2 z9)) (by simp)) (fun _ => rfl)) | (obtain ⟨g9, y1, y2⟩ := hcv.1 (by omega); exact h _ _ heq hsc (fun g z => by rw [z] at y1; have e7 := Option.some.inj y1; subst e7; exact ⟨by rw [← hix0]; exact y2 0 (by omega) (by omega), hsc.1 0 (by omega) (by omega)⟩) (fun z => absurd (z.symm.trans y1) (by simp)))
      · simp only [sx_cc, Classical.not_not] at g; try simp only [cmp_eq, cmp_ge, cmp_lt, cmp_gt, cmp_le, Int.cast_ofNat_Int] at g
        conv => whnf
        refine ⟨(by first | assumption | rfl), ?_⟩
        try simp (disch := omega) only [Int.cast_ofNat_Int, up_s, up_a, up_i, mp_a, mp_ge, cp_a, o0, o1, t15, t16, t17, t18, f0, f1, elo, ehi, e11, e12, e13, e14, e38, ep15, ep16, ep17, ep18]
        conv => whnf
        refine ⟨sx_ixI (by first | assumption | rfl) (by omega) (by omega), ?_⟩
        try simp (disch := omega) only [Int.cast_ofNat_Int, up_s, up_a, up_i, mp_a, mp_ge, cp_a, o0, o1, t15, t16, t17, t18, f0, f1, elo, ehi, e11, e12, e13, e14, e38, ep15, ep16, ep17, ep18]
        conv => whnf
        refine ⟨fun g => ?_, fun g => ?_⟩
        · simp only [sx_cc, Classical.not_not] at g; try simp only [cmp_eq, cmp_ge, cmp_lt, cmp_gt, cmp_le, Int.cast_ofNat_Int] at g
          conv => whnf
          refine ⟨fun g => ?_, fun g => ?_⟩
          · simp only [sx_cc, Classical.not_not] at g; try simp only [cmp_eq, cmp_ge, cmp_lt, cmp_gt, cmp_le, Int.cast_ofNat_Int] at g
            conv => whnf
            refine ⟨fun g => ?_, fun g => ?_⟩
            · simp only [sx_cc, Classical.not_not] at g; try simp only [cmp_eq, cmp_ge, cmp_lt, cmp_gt, cmp_le, Int.cast_ofNat_Int] at g
              conv => whnf
              refine ⟨fun g => ?_, fun g => ?_⟩
              · simp only [sx_cc, Classical.not_not] at g; try simp only [cmp_eq, cmp_ge, cmp_lt, cmp_gt, cmp_le, Int.cast_ofNat_Int] at g
                conv => whnf
                exfalso
                omega
              · simp only [sx_cc, Classical.not_not] at g; try simp only [cmp_eq, cmp_ge, cmp_lt, cmp_gt, cmp_le, Int.cast_ofNat_Int] at g
                conv => whnf
                refine ⟨⟨by omega, by omega⟩, ?_⟩
                conv => whnf
                refine ⟨(by first | assumption | rfl), ?_⟩
                try simp (disch := omega) only [Int.cast_ofNat_Int, up_s, up_a, up_i, mp_a, mp_ge, cp_a, o0, o1, t15, t16, t17, t18, f0, f1, elo, ehi, e11, e12, e13, e14, e38, ep15, ep16, ep17, ep18]
                conv => whnf
                refine ⟨⟨by omega, by omega⟩, ?_⟩
                conv => whnf
                refine ⟨(by first | assumption | rfl), ?_⟩
                try simp (disch := omega) only [Int.cast_ofNat_Int, up_s, up_a, up_i, mp_a, mp_ge, cp_a, o0, o1, t15, t16, t17, t18, f0, f1, elo, ehi, e11, e12, e13, e14, e38, ep15, ep16, ep17, ep18]
                conv => whnf
                refine ⟨⟨by omega, by omega⟩, ?_⟩
                conv => whnf
                refine ⟨sx_ixI (by first | assumption | rfl) (by omega) (by omega), ?_⟩
                try simp (disch := omega) only [Int.cast_ofNat_Int, up_s, up_a, up_i, mp_a, mp_ge, cp_a, o0, o1, t15, t16, t17, t18, f0, f1, elo, ehi, e11, e12, e13, e14, e38, ep15, ep16, ep17, ep18]
                conv => whnf
                refine ⟨(by first | assumption | rfl), ?_⟩
                try simp (disch := omega) only [Int.cast_ofNat_Int, up_s, up_a, up_i, mp_a, mp_ge, cp_a, o0, o1, t15, t16, t17, t18, f0, f1, elo, ehi, e11, e12, e13, e14, e38, ep15, ep16, ep17, ep18]
                conv => whnf
                refine ⟨sx_ixI (by first | assumption | rfl) (by omega) (by omega), ?_⟩
                try simp (disch := omega) only [Int.cast_ofNat_Int, up_s, up_a, up_i, mp_a, mp_ge, cp_a, o0, o1, t15, t16, t17, t18, f0, f1, elo, ehi, e11, e12, e13, e14, e38, ep15, ep16, ep17, ep18]
                conv => whnf
                refine ⟨Nat.le_of_ble_eq_true rfl, Nat.le_of_ble_eq_true rfl, (by first | assumption | rfl), ?_⟩
                refine c_Kjoined (hsc.1 _ (by omega) (by omega)) (hsc.1 _ (by omega) (by omega)) (by omega) (fun v hve => ?_) (fun hve => ?_)
                · skip
                  conv => whnf
                  refine ⟨sx_ixI (by first | assumption | rfl) (by omega) (by omega), ?_⟩
                  conv => whnf
                  refine ⟨⟨by omega, by omega⟩, ?_⟩
                  conv => whnf
                  refine ⟨_, ?_, ⟨rfl, _, _, _, rfl, rfl, ?_, rfl⟩⟩
                  · omega
                  · obtain ⟨hw0, hw1, hwl, hwc⟩ := hw (by omega)
                    rcases hwc with ⟨c1, c2, c3, c4, c5, c6, c7⟩ | ⟨c1, c2, c3, c4, c5, c6, c7⟩ | ⟨c1, c2, c3, c4, c5, c6⟩ | ⟨c1, c2, c3, c4, c5, c6, c7⟩
                    · first | (exfalso; omega) | exact ⟨heq.upv, hsc.upv (v := σ (p + 12) i) c4, by omega, by omega, by omega, CV_s hi0 hcv hwl c6 (by omega) c7 (fun g _ => by unfold fOp; rw [if_pos c2, c3])⟩
                    · first | (exfalso; omega) | exact ⟨heq.upv, hsc.upv (hnb _ (by omega) (by omega)), by omega, by omega, by omega, CV_s hi0 hcv hwl c6 (by omega) c7 (fun g _ => by unfold fOp; rw [if_neg (by omega), if_pos c3, c4, hnm _ c1 c2])⟩
                    · first | (exfalso; omega) | exact ⟨heq.upv, hsc.upv (by split <;> exact ⟨by decide, by decide⟩), by omega, by omega, by omega, CV_s hi0 hcv hwl (by omega) (by omega) c6 (fun g hg => by unfold fOp fB; rw [if_neg (by omega), if_neg (by omega), if_pos c2, c4, ← hg (dp i - 1) (by omega) (by omega)]; first | (rw [if_pos (by omega)]; rfl) | (rw [if_neg (by omega)]; rfl))⟩
                    · have c9 : 3 ≤ fKd (σ (p + 11) i) := by unfold fKd; repeat (first | omega | split)
                      have c7' : ix (i + 1) = fun j => if j = dp i + -1 - 1 then i else ix i j := by rw [c7, show dp i + -1 - 1 = dp i - 2 by omega]
                      first | (exfalso; omega) | exact ⟨heq.upv, hsc.upv (fJo_bd (hsc.1 _ (by omega) (by omega)) (hsc.1 _ (by omega) (by omega)) hve), by omega, by omega, by omega, CV_s hi0 hcv hwl (by omega) (by omega) c7' (fun g hg => by rw [fOp_jo (k := fKd (σ (p + 11) i)) c9 c2, c4, c5, ← hg (dp i - 2) (by omega) (by omega), ← hg (dp i - 1) (by omega) (by omega), show dp i - 2 = dp i + -1 - 1 by omega, show dp i - 1 = dp i + -1 by omega]; exact hve)⟩ | exact ⟨heq.upf.upv, (hsc.upf (Or.inr rfl)).upv ⟨by decide, by decide⟩, by omega, by omega, by omega, CV_f hi0 hsc.2 hcv (fun g hg => by rw [fOp_jo (k := fKd (σ (p + 11) i)) c9 c2, c4, c5, ← hg (dp i - 2) (by omega) (by omega), ← hg (dp i - 1) (by omega) (by omega), show dp i - 2 = dp i + -1 - 1 by omega, show dp i - 1 = dp i + -1 by omega]; exact hve)⟩
                · skip
                  conv => whnf
                  refine ⟨sx_ixI (by first | assumption | rfl) (by omega) (by omega), ?_⟩
                  conv => whnf
                  refine ⟨⟨by omega, by omega⟩, ?_⟩
                  conv => whnf
                  refine ⟨_, ?_, ⟨rfl, _, _, _, rfl, rfl, ?_, rfl⟩⟩
                  · omega
                  · obtain ⟨hw0, hw1, hwl, hwc⟩ := hw (by omega)
                    rcases hwc with ⟨c1, c2, c3, c4, c5, c6, c7⟩ | ⟨c1, c2, c3, c4, c5, c6, c7⟩ | ⟨c1, c2, c3, c4, c5, c6⟩ | ⟨c1, c2, c3, c4, c5, c6, c7⟩
                    · first | (exfalso; omega) | exact ⟨heq.upv, hsc.upv (v := σ (p + 12) i) c4, by omega, by omega, by omega, CV_s hi0 hcv hwl c6 (by omega) c7 (fun g _ => by unfold fOp; rw [if_pos c2, c3])⟩
                    · first | (exfalso; omega) | exact ⟨heq.upv, hsc.upv (hnb _ (by omega) (by omega)), by omega, by omega, by omega, CV_s hi0 hcv hwl c6 (by omega) c7 (fun g _ => by unfold fOp; rw [if_neg (by omega), if_pos c3, c4, hnm _ c1 c2])⟩
                    · first | (exfalso; omega) | exact ⟨heq.upv, hsc.upv (by split <;> exact ⟨by decide, by decide⟩), by omega, by omega, by omega, CV_s hi0 hcv hwl (by omega) (by omega) c6 (fun g hg => by unfold fOp fB; rw [if_neg (by omega), if_neg (by omega), if_pos c2, c4, ← hg (dp i - 1) (by omega) (by omega)]; first | (rw [if_pos (by omega)]; rfl) | (rw [if_neg (by omega)]; rfl))⟩
                    · have c9 : 3 ≤ fKd (σ (p + 11) i) := by unfold fKd; repeat (first | omega | split)
                      have c7' : ix (i + 1) = fun j => if j = dp i + -1 - 1 then i else ix i j := by rw [c7, show dp i + -1 - 1 = dp i - 2 by omega]
                      first | (exfalso; omega) | exact ⟨heq.upv, hsc.upv (fJo_bd (hsc.1 _ (by omega) (by omega)) (hsc.1 _ (by omega) (by omega)) hve), by omega, by omega, by omega, CV_s hi0 hcv hwl (by omega) (by omega) c7' (fun g hg => by rw [fOp_jo (k := fKd (σ (p + 11) i)) c9 c2, c4, c5, ← hg (dp i - 2) (by omega) (by omega), ← hg (dp i - 1) (by omega) (by omega), show dp i - 2 = dp i + -1 - 1 by omega, show dp i - 1 = dp i + -1 by omega]; exact hve)⟩ | exact ⟨heq.upf.upv, (hsc.upf (Or.inr rfl)).upv ⟨by decide, by decide⟩, by omega, by omega, by omega, CV_f hi0 hsc.2 hcv (fun g hg => by rw [fOp_jo (k := fKd (σ (p + 11) i)) c9 c2, c4, c5, ← hg (dp i - 2) (by omega) (by omega), ← hg (dp i - 1) (by omega) (by omega), show dp i - 2 = dp i + -1 - 1 by omega, show dp i - 1 = dp i + -1 by omega]; exact hve)⟩
            · simp only [sx_cc, Classical.not_not] at g; try simp only [cmp_eq, cmp_ge, cmp_lt, cmp_gt, cmp_le, Int.cast_ofNat_Int] at g
              conv => whnf
              refine ⟨fun g => ?_, fun g => ?_⟩
              · simp only [sx_cc, Classical.not_not] at g; try simp only [cmp_eq, cmp_ge, cmp_lt, cmp_gt, cmp_le, Int.cast_ofNat_Int] at g
                conv => whnf
                refine ⟨fun g => ?_, fun g => ?_⟩
                · simp only [sx_cc, Classical.not_not] at g; try simp only [cmp_eq, cmp_ge, cmp_lt, cmp_gt, cmp_le, Int.cast_ofNat_Int] at g
                  conv => whnf
                  exfalso
                  omega
                · simp only [sx_cc, Classical.not_not] at g; try simp only [cmp_eq, cmp_ge, cmp_lt, cmp_gt, cmp_le, Int.cast_ofNat_Int] at g
                  conv => whnf
                  refine ⟨⟨by omega, by omega⟩, ?_⟩
                  conv => whnf
                  refine ⟨(by first | assumption | rfl), ?_⟩
                  try simp (disch := omega) only [Int.cast_ofNat_Int, up_s, up_a, up_i, mp_a, mp_ge, cp_a, o0, o1, t15, t16, t17, t18, f0, f1, elo, ehi, e11, e12, e13, e14, e38, ep15, ep16, ep17, ep18]
                  conv => whnf
                  refine ⟨⟨by omega, by omega⟩, ?_⟩
                  conv => whnf
                  refine ⟨(by first | assumption | rfl), ?_⟩
                  try simp (disch := omega) only [Int.cast_ofNat_Int, up_s, up_a, up_i, mp_a, mp_ge, cp_a, o0, o1, t15, t16, t17, t18, f0, f1, elo, ehi, e11, e12, e13, e14, e38, ep15, ep16, ep17, ep18]
                  conv => whnf
                  refine ⟨⟨by omega, by omega⟩, ?_⟩
                  conv => whnf
                  refine ⟨sx_ixI (by first | assumption | rfl) (by omega) (by omega), ?_⟩
                  try simp (disch := omega) only [Int.cast_ofNat_Int, up_s, up_a, up_i, mp_a, mp_ge, cp_a, o0, o1, t15, t16, t17, t18, f0, f1, elo, ehi, e11, e12, e13, e14, e38, ep15, ep16, ep17, ep18]
                  conv => whnf
                  refine ⟨(by first | assumption | rfl), ?_⟩
                  try simp (disch := omega) only [Int.cast_ofNat_Int, up_s, up_a, up_i, mp_a, mp_ge, cp_a, o0, o1, t15, t16, t17, t18, f0, f1, elo, ehi, e11, e12, e13, e14, e38, ep15, ep16, ep17, ep18]
                  conv => whnf
                  refine ⟨sx_ixI (by first | assumption | rfl) (by omega) (by omega), ?_⟩
                  try simp (disch := omega) only [Int.cast_ofNat_Int, up_s, up_a, up_i, mp_a, mp_ge, cp_a, o0, o1, t15, t16, t17, t18, f0, f1, elo, ehi, e11, e12, e13, e14, e38, ep15, ep16, ep17, ep18]
                  conv => whnf
                  refine ⟨Nat.le_of_ble_eq_true rfl, Nat.le_of_ble_eq_true rfl, (by first | assumption | rfl), ?_⟩
                  refine c_Kjoined (hsc.1 _ (by omega) (by omega)) (hsc.1 _ (by omega) (by omega)) (by omega) (fun v hve => ?_) (fun hve => ?_)
                  · skip
                    conv => whnf
                    refine ⟨sx_ixI (by first | assumption | rfl) (by omega) (by omega), ?_⟩
                    conv => whnf
                    refine ⟨⟨by omega, by omega⟩, ?_⟩
                    conv => whnf
                    refine ⟨_, ?_, ⟨rfl, _, _, _, rfl, rfl, ?_, rfl⟩⟩
                    · omega
                    · obtain ⟨hw0, hw1, hwl, hwc⟩ := hw (by omega)
                      rcases hwc with ⟨c1, c2, c3, c4, c5, c6, c7⟩ | ⟨c1, c2, c3, c4, c5, c6, c7⟩ | ⟨c1, c2, c3, c4, c5, c6⟩ | ⟨c1, c2, c3, c4, c5, c6, c7⟩
                      · first | (exfalso; omega) | exact ⟨heq.upv, hsc.upv (v := σ (p + 12) i) c4, by omega, by omega, by omega, CV_s hi0 hcv hwl c6 (by omega) c7 (fun g _ => by unfold fOp; rw [if_pos c2, c3])⟩
                      · first | (exfalso; omega) | exact ⟨heq.upv, hsc.upv (hnb _ (by omega) (by omega)), by omega, by omega, by omega, CV_s hi0 hcv hwl c6 (by omega) c7 (fun g _ => by unfold fOp; rw [if_neg (by omega), if_pos c3, c4, hnm _ c1 c2])⟩
                      · first | (exfalso; omega) | exact ⟨heq.upv, hsc.upv (by split <;> exact ⟨by decide, by decide⟩), by omega, by omega, by omega, CV_s hi0 hcv hwl (by omega) (by omega) c6 (fun g hg => by unfold fOp fB; rw [if_neg (by omega), if_neg (by omega), if_pos c2, c4, ← hg (dp i - 1) (by omega) (by omega)]; first | (rw [if_pos (by omega)]; rfl) | (rw [if_neg (by omega)]; rfl))⟩
                      · have c9 : 3 ≤ fKd (σ (p + 11) i) := by unfold fKd; repeat (first | omega | split)
                        have c7' : ix (i + 1) = fun j => if j = dp i + -1 - 1 then i else ix i j := by rw [c7, show dp i + -1 - 1 = dp i - 2 by omega]
                        first | (exfalso; omega) | exact ⟨heq.upv, hsc.upv (fJo_bd (hsc.1 _ (by omega) (by omega)) (hsc.1 _ (by omega) (by omega)) hve), by omega, by omega, by omega, CV_s hi0 hcv hwl (by omega) (by omega) c7' (fun g hg => by rw [fOp_jo (k := fKd (σ (p + 11) i)) c9 c2, c4, c5, ← hg (dp i - 2) (by omega) (by omega), ← hg (dp i - 1) (by omega) (by omega), show dp i - 2 = dp i + -1 - 1 by omega, show dp i - 1 = dp i + -1 by omega]; exact hve)⟩ | exact ⟨heq.upf.upv, (hsc.upf (Or.inr rfl)).upv ⟨by decide, by decide⟩, by omega, by omega, by omega, CV_f hi0 hsc.2 hcv (fun g hg => by rw [fOp_jo (k := fKd (σ (p + 11) i)) c9 c2, c4, c5, ← hg (dp i - 2) (by omega) (by omega), ← hg (dp i - 1) (by omega) (by omega), show dp i - 2 = dp i + -1 - 1 by omega, show dp i - 1 = dp i + -1 by omega]; exact hve)⟩
                  · skip
                    conv => whnf
                    refine ⟨sx_ixI (by first | assumption | rfl) (by omega) (by omega), ?_⟩
                    conv => whnf
                    refine ⟨⟨by omega, by omega⟩, ?_⟩
                    conv => whnf
                    refine ⟨_, ?_, ⟨rfl, _, _, _, rfl, rfl, ?_, rfl⟩⟩
                    · omega
                    · obtain ⟨hw0, hw1, hwl, hwc⟩ := hw (by omega)
                      rcases hwc with ⟨c1, c2, c3, c4, c5, c6, c7⟩ | ⟨c1, c2, c3, c4, c5, c6, c7⟩ | ⟨c1, c2, c3, c4, c5, c6⟩ | ⟨c1, c2, c3, c4, c5, c6, c7⟩
                      · first | (exfalso; omega) | exact ⟨heq.upv, hsc.upv (v := σ (p + 12) i) c4, by omega, by omega, by omega, CV_s hi0 hcv hwl c6 (by omega) c7 (fun g _ => by unfold fOp; rw [if_pos c2, c3])⟩
                      · first | (exfalso; omega) | exact ⟨heq.upv, hsc.upv (hnb _ (by omega) (by omega)), by omega, by omega, by omega, CV_s hi0 hcv hwl c6 (by omega) c7 (fun g _ => by unfold fOp; rw [if_neg (by omega), if_pos c3, c4, hnm _ c1 c2])⟩
                      · first | (exfalso; omega) | exact ⟨heq.upv, hsc.upv (by split <;> exact ⟨by decide, by decide⟩), by omega, by omega, by omega, CV_s hi0 hcv hwl (by omega) (by omega) c6 (fun g hg => by unfold fOp fB; rw [if_neg (by omega), if_neg (by omega), if_pos c2, c4, ← hg (dp i - 1) (by omega) (by omega)]; first | (rw [if_pos (by omega)]; rfl) | (rw [if_neg (by omega)]; rfl))⟩
                      · have c9 : 3 ≤ fKd (σ (p + 11) i) := by unfold fKd; repeat (first | omega | split)
                        have c7' : ix (i + 1) = fun j => if j = dp i + -1 - 1 then i else ix i j := by rw [c7, show dp i + -1 - 1 = dp i - 2 by omega]
                        first | (exfalso; omega) | exact ⟨heq.upv, hsc.upv (fJo_bd (hsc.1 _ (by omega) (by omega)) (hsc.1 _ (by omega) (by omega)) hve), by omega, by omega, by omega, CV_s hi0 hcv hwl (by omega) (by omega) c7' (fun g hg => by rw [fOp_jo (k := fKd (σ (p + 11) i)) c9 c2, c4, c5, ← hg (dp i - 2) (by omega) (by omega), ← hg (dp i - 1) (by omega) (by omega), show dp i - 2 = dp i + -1 - 1 by omega, show dp i - 1 = dp i + -1 by omega]; exact hve)⟩ | exact ⟨heq.upf.upv, (hsc.upf (Or.inr rfl)).upv ⟨by decide, by decide⟩, by omega, by omega, by omega, CV_f hi0 hsc.2 hcv (fun g hg => by rw [fOp_jo (k := fKd (σ (p + 11) i)) c9 c2, c4, c5, ← hg (dp i - 2) (by omega) (by omega), ← hg (dp i - 1) (by omega) (by omega), show dp i - 2 = dp i + -1 - 1 by omega, show dp i - 1 = dp i + -1 by omega]; exact hve)⟩
              · simp only [sx_cc, Classical.not_not] at g; try simp only [cmp_eq, cmp_ge, cmp_lt, cmp_gt, cmp_le, Int.cast_ofNat_Int] at g
                conv => whnf
                refine ⟨(by first | assumption | rfl), ?_⟩
                try simp (disch := omega) only [Int.cast_ofNat_Int, up_s, up_a, up_i, mp_a, mp_ge, cp_a, o0, o1, t15, t16, t17, t18, f0, f1, elo, ehi, e11, e12, e13, e14, e38, ep15, ep16, ep17, ep18]
                conv => whnf
                refine ⟨⟨by omega, by omega⟩, ?_⟩
                conv => whnf
                refine ⟨(by first | assumption | rfl), ?_⟩
                try simp (disch := omega) only [Int.cast_ofNat_Int, up_s, up_a, up_i, mp_a, mp_ge, cp_a, o0, o1, t15, t16, t17, t18, f0, f1, elo, ehi, e11, e12, e13, e14, e38, ep15, ep16, ep17, ep18]
                conv => whnf
                refine ⟨⟨by omega, by omega⟩, ?_⟩
                conv => whnf
                refine ⟨sx_ixI (by first | assumption | rfl) (by omega) (by omega), ?_⟩
                try simp (disch := omega) only [Int.cast_ofNat_Int, up_s, up_a, up_i, mp_a, mp_ge, cp_a, o0, o1, t15, t16, t17, t18, f0, f1, elo, ehi, e11, e12, e13, e14, e38, ep15, ep16, ep17, ep18]
                conv => whnf
                refine ⟨fun g => ?_, fun g => ?_⟩
                · simp only [sx_cc, Classical.not_not] at g; try simp only [cmp_eq, cmp_ge, cmp_lt, cmp_gt, cmp_le, Int.cast_ofNat_Int] at g
                  conv => whnf
                  refine ⟨Nat.le_of_ble_eq_true rfl, Nat.le_of_ble_eq_true rfl, ?_⟩
                  refine c_Ktruth ?_
                  conv => whnf
                  refine ⟨sx_ixI (by first | assumption | rfl) (by omega) (by omega), ?_⟩
                  conv => whnf
                  refine ⟨⟨by omega, by omega⟩, ?_⟩
                  conv => whnf
                  refine ⟨_, ?_, ⟨rfl, _, _, _, rfl, rfl, ?_, rfl⟩⟩
                  · omega
                  · obtain ⟨hw0, hw1, hwl, hwc⟩ := hw (by omega)
                    rcases hwc with ⟨c1, c2, c3, c4, c5, c6, c7⟩ | ⟨c1, c2, c3, c4, c5, c6, c7⟩ | ⟨c1, c2, c3, c4, c5, c6⟩ | ⟨c1, c2, c3, c4, c5, c6, c7⟩
                    · first | (exfalso; omega) | exact ⟨heq.upv, hsc.upv (v := σ (p + 12) i) c4, by omega, by omega, by omega, CV_s hi0 hcv hwl c6 (by omega) c7 (fun g _ => by unfold fOp; rw [if_pos c2, c3])⟩
                    · first | (exfalso; omega) | exact ⟨heq.upv, hsc.upv (hnb _ (by omega) (by omega)), by omega, by omega, by omega, CV_s hi0 hcv hwl c6 (by omega) c7 (fun g _ => by unfold fOp; rw [if_neg (by omega), if_pos c3, c4, hnm _ c1 c2])⟩
                    · first | (exfalso; omega) | exact ⟨heq.upv, hsc.upv (by split <;> exact ⟨by decide, by decide⟩), by omega, by omega, by omega, CV_s hi0 hcv hwl (by omega) (by omega) c6 (fun g hg => by unfold fOp fB; rw [if_neg (by omega), if_neg (by omega), if_pos c2, c4, ← hg (dp i - 1) (by omega) (by omega)]; first | (rw [if_pos (by omega)]; rfl) | (rw [if_neg (by omega)]; rfl))⟩
                    · have c9 : 3 ≤ fKd (σ (p + 11) i) := by unfold fKd; repeat (first | omega | split)
                      have c7' : ix (i + 1) = fun j => if j = dp i + -1 - 1 then i else ix i j := by rw [c7, show dp i + -1 - 1 = dp i - 2 by omega]
                      first | (exfalso; omega) | exact ⟨heq.upv, hsc.upv (fJo_bd (hsc.1 _ (by omega) (by omega)) (hsc.1 _ (by omega) (by omega)) hve), by omega, by omega, by omega, CV_s hi0 hcv hwl (by omega) (by omega) c7' (fun g hg => by rw [fOp_jo (k := fKd (σ (p + 11) i)) c9 c2, c4, c5, ← hg (dp i - 2) (by omega) (by omega), ← hg (dp i - 1) (by omega) (by omega), show dp i - 2 = dp i + -1 - 1 by omega, show dp i - 1 = dp i + -1 by omega]; exact hve)⟩ | exact ⟨heq.upf.upv, (hsc.upf (Or.inr rfl)).upv ⟨by decide, by decide⟩, by omega, by omega, by omega, CV_f hi0 hsc.2 hcv (fun g hg => by rw [fOp_jo (k := fKd (σ (p + 11) i)) c9 c2, c4, c5, ← hg (dp i - 2) (by omega) (by omega), ← hg (dp i - 1) (by omega) (by omega), show dp i - 2 = dp i + -1 - 1 by omega, show dp i - 1 = dp i + -1 by omega]; exact hve)⟩
                · simp only [sx_cc, Classical.not_not] at g; try simp only [cmp_eq, cmp_ge, cmp_lt, cmp_gt, cmp_le, Int.cast_ofNat_Int] at g
                  conv => whnf
                  refine ⟨Nat.le_of_ble_eq_true rfl, Nat.le_of_ble_eq_true rfl, ?_⟩
                  refine c_Ktruth ?_
                  conv => whnf
                  refine ⟨sx_ixI (by first | assumption | rfl) (by omega) (by omega), ?_⟩
                  conv => whnf
                  refine ⟨⟨by omega, by omega⟩, ?_⟩
                  conv => whnf
                  refine ⟨_, ?_, ⟨rfl, _, _, _, rfl, rfl, ?_, rfl⟩⟩
                  · omega
                  · obtain ⟨hw0, hw1, hwl, hwc⟩ := hw (by omega)
                    rcases hwc with ⟨c1, c2, c3, c4, c5, c6, c7⟩ | ⟨c1, c2, c3, c4, c5, c6, c7⟩ | ⟨c1, c2, c3, c4, c5, c6⟩ | ⟨c1, c2, c3, c4, c5, c6, c7⟩
                    · first | (exfalso; omega) | exact ⟨heq.upv, hsc.upv (v := σ (p + 12) i) c4, by omega, by omega, by omega, CV_s hi0 hcv hwl c6 (by omega) c7 (fun g _ => by unfold fOp; rw [if_pos c2, c3])⟩
                    · first | (exfalso; omega) | exact ⟨heq.upv, hsc.upv (hnb _ (by omega) (by omega)), by omega, by omega, by omega, CV_s hi0 hcv hwl c6 (by omega) c7 (fun g _ => by unfold fOp; rw [if_neg (by omega), if_pos c3, c4, hnm _ c1 c2])⟩
                    · first | (exfalso; omega) | exact ⟨heq.upv, hsc.upv (by split <;> exact ⟨by decide, by decide⟩), by omega, by omega, by omega, CV_s hi0 hcv hwl (by omega) (by omega) c6 (fun g hg => by unfold fOp fB; rw [if_neg (by omega), if_neg (by omega), if_pos c2, c4, ← hg (dp i - 1) (by omega) (by omega)]; first | (rw [if_pos (by omega)]; rfl) | (rw [if_neg (by omega)]; rfl))⟩
                    · have c9 : 3 ≤ fKd (σ (p + 11) i) := by unfold fKd; repeat (first | omega | split)
                      have c7' : ix (i + 1) = fun j => if j = dp i + -1 - 1 then i else ix i j := by rw [c7, show dp i + -1 - 1 = dp i - 2 by omega]
                      first | (exfalso; omega) | exact ⟨heq.upv, hsc.upv (fJo_bd (hsc.1 _ (by omega) (by omega)) (hsc.1 _ (by omega) (by omega)) hve), by omega, by omega, by omega, CV_s hi0 hcv hwl (by omega) (by omega) c7' (fun g hg => by rw [fOp_jo (k := fKd (σ (p + 11) i)) c9 c2, c4, c5, ← hg (dp i - 2) (by omega) (by omega), ← hg (dp i - 1) (by omega) (by omega), show dp i - 2 = dp i + -1 - 1 by omega, show dp i - 1 = dp i + -1 by omega]; exact hve)⟩ | exact ⟨heq.upf.upv, (hsc.upf (Or.inr rfl)).upv ⟨by decide, by decide⟩, by omega, by omega, by omega, CV_f hi0 hsc.2 hcv (fun g hg => by rw [fOp_jo (k := fKd (σ (p + 11) i)) c9 c2, c4, c5, ← hg (dp i - 2) (by omega) (by omega), ← hg (dp i - 1) (by omega) (by omega), show dp i - 2 = dp i + -1 - 1 by omega, show dp i - 1 = dp i + -1 by omega]; exact hve)⟩
          · simp only [sx_cc, Classical.not_not] at g; try simp only [cmp_eq, cmp_ge, cmp_lt, cmp_gt, cmp_le, Int.cast_ofNat_Int] at g
            conv => whnf
            refine ⟨fun g => ?_, fun g => ?_⟩
            · simp only [sx_cc, Classical.not_not] at g; try simp only [cmp_eq, cmp_ge, cmp_lt, cmp_gt, cmp_le, Int.cast_ofNat_Int] at g
              conv => whnf
              refine ⟨fun g => ?_, fun g => ?_⟩
              · simp only [sx_cc, Classical.not_not] at g; try simp only [cmp_eq, cmp_ge, cmp_lt, cmp_gt, cmp_le, Int.cast_ofNat_Int] at g
                conv => whnf
                refine ⟨fun g => ?_, fun g => ?_⟩
                · simp only [sx_cc, Classical.not_not] at g; try simp only [cmp_eq, cmp_ge, cmp_lt, cmp_gt, cmp_le, Int.cast_ofNat_Int] at g
                  conv => whnf
                  exfalso
                  omega
                · simp only [sx_cc, Classical.not_not] at g; try simp only [cmp_eq, cmp_ge, cmp_lt, cmp_gt, cmp_le, Int.cast_ofNat_Int] at g
                  conv => whnf
                  refine ⟨⟨by omega, by omega⟩, ?_⟩
                  conv => whnf
                  refine ⟨(by first | assumption | rfl), ?_⟩
                  try simp (disch := omega) only [Int.cast_ofNat_Int, up_s, up_a, up_i, mp_a, mp_ge, cp_a, o0, o1, t15, t16, t17, t18, f0, f1, elo, ehi, e11, e12, e13, e14, e38, ep15, ep16, ep17, ep18]
                  conv => whnf
                  refine ⟨⟨by omega, by omega⟩, ?_⟩
                  conv => whnf
                  refine ⟨(by first | assumption | rfl), ?_⟩
                  try simp (disch := omega) only [Int.cast_ofNat_Int, up_s, up_a, up_i, mp_a, mp_ge, cp_a, o0, o1, t15, t16, t17, t18, f0, f1, elo, ehi, e11, e12, e13, e14, e38, ep15, ep16, ep17, ep18]
                  conv => whnf
                  refine ⟨⟨by omega, by omega⟩, ?_⟩
                  conv => whnf
                  refine ⟨sx_ixI (by first | assumption | rfl) (by omega) (by omega), ?_⟩
                  try simp (disch := omega) only [Int.cast_ofNat_Int, up_s, up_a, up_i, mp_a, mp_ge, cp_a, o0, o1, t15, t16, t17, t18, f0, f1, elo, ehi, e11, e12, e13, e14, e38, ep15, ep16, ep17, ep18]
                  conv => whnf
                  refine ⟨(by first | assumption | rfl), ?_⟩
                  try simp (disch := omega) only [Int.cast_ofNat_Int, up_s, up_a, up_i, mp_a, mp_ge, cp_a, o0, o1, t15, t16, t17, t18, f0, f1, elo, ehi, e11, e12, e13, e14, e38, ep15, ep16, ep17, ep18]
                  conv => whnf
                  refine ⟨sx_ixI (by first | assumption | rfl) (by omega) (by omega), ?_⟩
                  try simp (disch := omega) only [Int.cast_ofNat_Int, up_s, up_a, up_i, mp_a, mp_ge, cp_a, o0, o1, t15, t16, t17, t18, f0, f1, elo, ehi, e11, e12, e13, e14, e38, ep15, ep16, ep17, ep18]
                  conv => whnf
                  refine ⟨Nat.le_of_ble_eq_true rfl, Nat.le_of_ble_eq_true rfl, (by first | assumption | rfl), ?_⟩
                  refine c_Kjoined (hsc.1 _ (by omega) (by omega)) (hsc.1 _ (by omega) (by omega)) (by omega) (fun v hve => ?_) (fun hve => ?_)
                  · skip
                    conv => whnf
                    refine ⟨sx_ixI (by first | assumption | rfl) (by omega) (by omega), ?_⟩
                    conv => whnf
                    refine ⟨⟨by omega, by omega⟩, ?_⟩
                    conv => whnf
                    refine ⟨_, ?_, ⟨rfl, _, _, _, rfl, rfl, ?_, rfl⟩⟩
                    · omega
                    · obtain ⟨hw0, hw1, hwl, hwc⟩ := hw (by omega)
                      rcases hwc with ⟨c1, c2, c3, c4, c5, c6, c7⟩ | ⟨c1, c2, c3, c4, c5, c6, c7⟩ | ⟨c1, c2, c3, c4, c5, c6⟩ | ⟨c1, c2, c3, c4, c5, c6, c7⟩
                      · first | (exfalso; omega) | exact ⟨heq.upv, hsc.upv (v := σ (p + 12) i) c4, by omega, by omega, by omega, CV_s hi0 hcv hwl c6 (by omega) c7 (fun g _ => by unfold fOp; rw [if_pos c2, c3])⟩
                      · first | (exfalso; omega) | exact ⟨heq.upv, hsc.upv (hnb _ (by omega) (by omega)), by omega, by omega, by omega, CV_s hi0 hcv hwl c6 (by omega) c7 (fun g _ => by unfold fOp; rw [if_neg (by omega), if_pos c3, c4, hnm _ c1 c2])⟩
                      · first | (exfalso; omega) | exact ⟨heq.upv, hsc.upv (by split <;> exact ⟨by decide, by decide⟩), by omega, by omega, by omega, CV_s hi0 hcv hwl (by omega) (by omega) c6 (fun g hg => by unfold fOp fB; rw [if_neg (by omega), if_neg (by omega), if_pos c2, c4, ← hg (dp i - 1) (by omega) (by omega)]; first | (rw [if_pos (by omega)]; rfl) | (rw [if_neg (by omega)]; rfl))⟩
                      · have c9 : 3 ≤ fKd (σ (p + 11) i) := by unfold fKd; repeat (first | omega | split)
                        have c7' : ix (i + 1) = fun j => if j = dp i + -1 - 1 then i else ix i j := by rw [c7, show dp i + -1 - 1 = dp i - 2 by omega]
                        first | (exfalso; omega) | exact ⟨heq.upv, hsc.upv (fJo_bd (hsc.1 _ (by omega) (by omega)) (hsc.1 _ (by omega) (by omega)) hve), by omega, by omega, by omega, CV_s hi0 hcv hwl (by omega) (by omega) c7' (fun g hg => by rw [fOp_jo (k := fKd (σ (p + 11) i)) c9 c2, c4, c5, ← hg (dp i - 2) (by omega) (by omega), ← hg (dp i - 1) (by omega) (by omega), show dp i - 2 = dp i + -1 - 1 by omega, show dp i - 1 = dp i + -1 by omega]; exact hve)⟩ | exact ⟨heq.upf.upv, (hsc.upf (Or.inr rfl)).upv ⟨by decide, by decide⟩, by omega, by omega, by omega, CV_f hi0 hsc.2 hcv (fun g hg => by rw [fOp_jo (k := fKd (σ (p + 11) i)) c9 c2, c4, c5, ← hg (dp i - 2) (by omega) (by omega), ← hg (dp i - 1) (by omega) (by omega), show dp i - 2 = dp i + -1 - 1 by omega, show dp i - 1 = dp i + -1 by omega]; exact hve)⟩
                  · skip
                    conv => whnf
                    refine ⟨sx_ixI (by first | assumption | rfl) (by omega) (by omega), ?_⟩
                    conv => whnf
                    refine ⟨⟨by omega, by omega⟩, ?_⟩
                    conv => whnf
                    refine ⟨_, ?_, ⟨rfl, _, _, _, rfl, rfl, ?_, rfl⟩⟩
                    · omega
                    · obtain ⟨hw0, hw1, hwl, hwc⟩ := hw (by omega)
                      rcases hwc with ⟨c1, c2, c3, c4, c5, c6, c7⟩ | ⟨c1, c2, c3, c4, c5, c6, c7⟩ | ⟨c1, c2, c3, c4, c5, c6⟩ | ⟨c1, c2, c3, c4, c5, c6, c7⟩
                      · first | (exfalso; omega) | exact ⟨heq.upv, hsc.upv (v := σ (p + 12) i) c4, by omega, by omega, by omega, CV_s hi0 hcv hwl c6 (by omega) c7 (fun g _ => by unfold fOp; rw [if_pos c2, c3])⟩
                      · first | (exfalso; omega) | exact ⟨heq.upv, hsc.upv (hnb _ (by omega) (by omega)), by omega, by omega, by omega, CV_s hi0 hcv hwl c6 (by omega) c7 (fun g _ => by unfold fOp; rw [if_neg (by omega), if_pos c3, c4, hnm _ c1 c2])⟩
                      · first | (exfalso; omega) | exact ⟨heq.upv, hsc.upv (by split <;> exact ⟨by decide, by decide⟩), by omega, by omega, by omega, CV_s hi0 hcv hwl (by omega) (by omega) c6 (fun g hg => by unfold fOp fB; rw [if_neg (by omega), if_neg (by omega), if_pos c2, c4, ← hg (dp i - 1) (by omega) (by omega)]; first | (rw [if_pos (by omega)]; rfl) | (rw [if_neg (by omega)]; rfl))⟩
                      · have c9 : 3 ≤ fKd (σ (p + 11) i) := by unfold fKd; repeat (first | omega | split)
                        have c7' : ix (i + 1) = fun j => if j = dp i + -1 - 1 then i else ix i j := by rw [c7, show dp i + -1 - 1 = dp i - 2 by omega]
                        first | (exfalso; omega) | exact ⟨heq.upv, hsc.upv (fJo_bd (hsc.1 _ (by omega) (by omega)) (hsc.1 _ (by omega) (by omega)) hve), by omega, by omega, by omega, CV_s hi0 hcv hwl (by omega) (by omega) c7' (fun g hg => by rw [fOp_jo (k := fKd (σ (p + 11) i)) c9 c2, c4, c5, ← hg (dp i - 2) (by omega) (by omega), ← hg (dp i - 1) (by omega) (by omega), show dp i - 2 = dp i + -1 - 1 by omega, show dp i - 1 = dp i + -1 by omega]; exact hve)⟩ | exact ⟨heq.upf.upv, (hsc.upf (Or.inr rfl)).upv ⟨by decide, by decide⟩, by omega, by omega, by omega, CV_f hi0 hsc.2 hcv (fun g hg => by rw [fOp_jo (k := fKd (σ (p + 11) i)) c9 c2, c4, c5, ← hg (dp i - 2) (by omega) (by omega), ← hg (dp i - 1) (by omega) (by omega), show dp i - 2 = dp i + -1 - 1 by omega, show dp i - 1 = dp i + -1 by omega]; exact hve)⟩
              · simp only [sx_cc, Classical.not_not] at g; try simp only [cmp_eq, cmp_ge, cmp_lt, cmp_gt, cmp_le, Int.cast_ofNat_Int] at g
                conv => whnf
                refine ⟨fun g => ?_, fun g => ?_⟩
                · simp only [sx_cc, Classical.not_not] at g; try simp only [cmp_eq, cmp_ge, cmp_lt, cmp_gt, cmp_le, Int.cast_ofNat_Int] at g
                  conv => whnf
                  refine ⟨fun g => ?_, fun g => ?_⟩
                  · simp only [sx_cc, Classical.not_not] at g; try simp only [cmp_eq, cmp_ge, cmp_lt, cmp_gt, cmp_le, Int.cast_ofNat_Int] at g
                    conv => whnf
                    exfalso
                    omega
                  · simp only [sx_cc, Classical.not_not] at g; try simp only [cmp_eq, cmp_ge, cmp_lt, cmp_gt, cmp_le, Int.cast_ofNat_Int] at g
                    conv => whnf
                    refine ⟨⟨by omega, by omega⟩, ?_⟩
                    conv => whnf
                    refine ⟨(by first | assumption | rfl), ?_⟩
                    try simp (disch := omega) only [Int.cast_ofNat_Int, up_s, up_a, up_i, mp_a, mp_ge, cp_a, o0, o1, t15, t16, t17, t18, f0, f1, elo, ehi, e11, e12, e13, e14, e38, ep15, ep16, ep17, ep18]
                    conv => whnf
                    refine ⟨⟨by omega, by omega⟩, ?_⟩
                    conv => whnf
                    refine ⟨(by first | assumption | rfl), ?_⟩
                    try simp (disch := omega) only [Int.cast_ofNat_Int, up_s, up_a, up_i, mp_a, mp_ge, cp_a, o0, o1, t15, t16, t17, t18, f0, f1, elo, ehi, e11, e12, e13, e14, e38, ep15, ep16, ep17, ep18]
                    conv => whnf
                    refine ⟨⟨by omega, by omega⟩, ?_⟩
                    conv => whnf
                    refine ⟨sx_ixI (by first | assumption | rfl) (by omega) (by omega), ?_⟩
                    try simp (disch := omega) only [Int.cast_ofNat_Int, up_s, up_a, up_i, mp_a, mp_ge, cp_a, o0, o1, t15, t16, t17, t18, f0, f1, elo, ehi, e11, e12, e13, e14, e38, ep15, ep16, ep17, ep18]
                    conv => whnf
                    refine ⟨(by first | assumption | rfl), ?_⟩
                    try simp (disch := omega) only [Int.cast_ofNat_Int, up_s, up_a, up_i, mp_a, mp_ge, cp_a, o0, o1, t15, t16, t17, t18, f0, f1, elo, ehi, e11, e12, e13, e14, e38, ep15, ep16, ep17, ep18]
                    conv => whnf
                    refine ⟨sx_ixI (by first | assumption | rfl) (by omega) (by omega), ?_⟩
                    try simp (disch := omega) only [Int.cast_ofNat_Int, up_s, up_a, up_i, mp_a, mp_ge, cp_a, o0, o1, t15, t16, t17, t18, f0, f1, elo, ehi, e11, e12, e13, e14, e38, ep15, ep16, ep17, ep18]
                    conv => whnf
                    refine ⟨Nat.le_of_ble_eq_true rfl, Nat.le_of_ble_eq_true rfl, (by first | assumption | rfl), ?_⟩
                    refine c_Kjoined (hsc.1 _ (by omega) (by omega)) (hsc.1 _ (by omega) (by omega)) (by omega) (fun v hve => ?_) (fun hve => ?_)
                    · skip
                      conv => whnf
                      refine ⟨sx_ixI (by first | assumption | rfl) (by omega) (by omega), ?_⟩
                      conv => whnf
                      refine ⟨⟨by omega, by omega⟩, ?_⟩
                      conv => whnf
                      refine ⟨_, ?_, ⟨rfl, _, _, _, rfl, rfl, ?_, rfl⟩⟩
                      · omega
                      · obtain ⟨hw0, hw1, hwl, hwc⟩ := hw (by omega)
                        rcases hwc with ⟨c1, c2, c3, c4, c5, c6, c7⟩ | ⟨c1, c2, c3, c4, c5, c6, c7⟩ | ⟨c1, c2, c3, c4, c5, c6⟩ | ⟨c1, c2, c3, c4, c5, c6, c7⟩
                        · first | (exfalso; omega) | exact ⟨heq.upv, hsc.upv (v := σ (p + 12) i) c4, by omega, by omega, by omega, CV_s hi0 hcv hwl c6 (by omega) c7 (fun g _ => by unfold fOp; rw [if_pos c2, c3])⟩
                        · first | (exfalso; omega) | exact ⟨heq.upv, hsc.upv (hnb _ (by omega) (by omega)), by omega, by omega, by omega, CV_s hi0 hcv hwl c6 (by omega) c7 (fun g _ => by unfold fOp; rw [if_neg (by omega), if_pos c3, c4, hnm _ c1 c2])⟩
                        · first | (exfalso; omega) | exact ⟨heq.upv, hsc.upv (by split <;> exact ⟨by decide, by decide⟩), by omega, by omega, by omega, CV_s hi0 hcv hwl (by omega) (by omega) c6 (fun g hg => by unfold fOp fB; rw [if_neg (by omega), if_neg (by omega), if_pos c2, c4, ← hg (dp i - 1) (by omega) (by omega)]; first | (rw [if_pos (by omega)]; rfl) | (rw [if_neg (by omega)]; rfl))⟩
                        · have c9 : 3 ≤ fKd (σ (p + 11) i) := by unfold fKd; repeat (first | omega | split)
                          have c7' : ix (i + 1) = fun j => if j = dp i + -1 - 1 then i else ix i j := by rw [c7, show dp i + -1 - 1 = dp i - 2 by omega]
                          first | (exfalso; omega) | exact ⟨heq.upv, hsc.upv (fJo_bd (hsc.1 _ (by omega) (by omega)) (hsc.1 _ (by omega) (by omega)) hve), by omega, by omega, by omega, CV_s hi0 hcv hwl (by omega) (by omega) c7' (fun g hg => by rw [fOp_jo (k := fKd (σ (p + 11) i)) c9 c2, c4, c5, ← hg (dp i - 2) (by omega) (by omega), ← hg (dp i - 1) (by omega) (by omega), show dp i - 2 = dp i + -1 - 1 by omega, show dp i - 1 = dp i + -1 by omega]; exact hve)⟩ | exact ⟨heq.upf.upv, (hsc.upf (Or.inr rfl)).upv ⟨by decide, by decide⟩, by omega, by omega, by omega, CV_f hi0 hsc.2 hcv (fun g hg => by rw [fOp_jo (k := fKd (σ (p + 11) i)) c9 c2, c4, c5, ← hg (dp i - 2) (by omega) (by omega), ← hg (dp i - 1) (by omega) (by omega), show dp i - 2 = dp i + -1 - 1 by omega, show dp i - 1 = dp i + -1 by omega]; exact hve)⟩
                    · skip
                      conv => whnf
                      refine ⟨sx_ixI (by first | assumption | rfl) (by omega) (by omega), ?_⟩
                      conv => whnf
                      refine ⟨⟨by omega, by omega⟩, ?_⟩
                      conv => whnf
                      refine ⟨_, ?_, ⟨rfl, _, _, _, rfl, rfl, ?_, rfl⟩⟩
                      · omega
                      · obtain ⟨hw0, hw1, hwl, hwc⟩ := hw (by omega)
                        rcases hwc with ⟨c1, c2, c3, c4, c5, c6, c7⟩ | ⟨c1, c2, c3, c4, c5, c6, c7⟩ | ⟨c1, c2, c3, c4, c5, c6⟩ | ⟨c1, c2, c3, c4, c5, c6, c7⟩
                        · first | (exfalso; omega) | exact ⟨heq.upv, hsc.upv (v := σ (p + 12) i) c4, by omega, by omega, by omega, CV_s hi0 hcv hwl c6 (by omega) c7 (fun g _ => by unfold fOp; rw [if_pos c2, c3])⟩
                        · first | (exfalso; omega) | exact ⟨heq.upv, hsc.upv (hnb _ (by omega) (by omega)), by omega, by omega, by omega, CV_s hi0 hcv hwl c6 (by omega) c7 (fun g _ => by unfold fOp; rw [if_neg (by omega), if_pos c3, c4, hnm _ c1 c2])⟩
                        · first | (exfalso; omega) | exact ⟨heq.upv, hsc.upv (by split <;> exact ⟨by decide, by decide⟩), by omega, by omega, by omega, CV_s hi0 hcv hwl (by omega) (by omega) c6 (fun g hg => by unfold fOp fB; rw [if_neg (by omega), if_neg (by omega), if_pos c2, c4, ← hg (dp i - 1) (by omega) (by omega)]; first | (rw [if_pos (by omega)]; rfl) | (rw [if_neg (by omega)]; rfl))⟩
                        · have c9 : 3 ≤ fKd (σ (p + 11) i) := by unfold fKd; repeat (first | omega | split)
                          have c7' : ix (i + 1) = fun j => if j = dp i + -1 - 1 then i else ix i j := by rw [c7, show dp i + -1 - 1 = dp i - 2 by omega]
                          first | (exfalso; omega) | exact ⟨heq.upv, hsc.upv (fJo_bd (hsc.1 _ (by omega) (by omega)) (hsc.1 _ (by omega) (by omega)) hve), by omega, by omega, by omega, CV_s hi0 hcv hwl (by omega) (by omega) c7' (fun g hg => by rw [fOp_jo (k := fKd (σ (p + 11) i)) c9 c2, c4, c5, ← hg (dp i - 2) (by omega) (by omega), ← hg (dp i - 1) (by omega) (by omega), show dp i - 2 = dp i + -1 - 1 by omega, show dp i - 1 = dp i + -1 by omega]; exact hve)⟩ | exact ⟨heq.upf.upv, (hsc.upf (Or.inr rfl)).upv ⟨by decide, by decide⟩, by omega, by omega, by omega, CV_f hi0 hsc.2 hcv (fun g hg => by rw [fOp_jo (k := fKd (σ (p + 11) i)) c9 c2, c4, c5, ← hg (dp i - 2) (by omega) (by omega), ← hg (dp i - 1) (by omega) (by omega), show dp i - 2 = dp i + -1 - 1 by omega, show dp i - 1 = dp i + -1 by omega]; exact hve)⟩
                · simp only [sx_cc, Classical.not_not] at g; try simp only [cmp_eq, cmp_ge, cmp_lt, cmp_gt, cmp_le, Int.cast_ofNat_Int] at g
                  conv => whnf
                  refine ⟨(by first | assumption | rfl), ?_⟩
                  try simp (disch := omega) only [Int.cast_ofNat_Int, up_s, up_a, up_i, mp_a, mp_ge, cp_a, o0, o1, t15, t16, t17, t18, f0, f1, elo, ehi, e11, e12, e13, e14, e38, ep15, ep16, ep17, ep18]
                  conv => whnf
                  refine ⟨⟨by omega, by omega⟩, ?_⟩
                  conv => whnf
                  refine ⟨(by first | assumption | rfl), ?_⟩
                  try simp (disch := omega) only [Int.cast_ofNat_Int, up_s, up_a, up_i, mp_a, mp_ge, cp_a, o0, o1, t15, t16, t17, t18, f0, f1, elo, ehi, e11, e12, e13, e14, e38, ep15, ep16, ep17, ep18]
                  conv => whnf
                  refine ⟨⟨by omega, by omega⟩, ?_⟩
                  conv => whnf
                  refine ⟨sx_ixI (by first | assumption | rfl) (by omega) (by omega), ?_⟩
                  try simp (disch := omega) only [Int.cast_ofNat_Int, up_s, up_a, up_i, mp_a, mp_ge, cp_a, o0, o1, t15, t16, t17, t18, f0, f1, elo, ehi, e11, e12, e13, e14, e38, ep15, ep16, ep17, ep18]
                  conv => whnf
                  refine ⟨fun g => ?_, fun g => ?_⟩
                  · simp only [sx_cc, Classical.not_not] at g; try simp only [cmp_eq, cmp_ge, cmp_lt, cmp_gt, cmp_le, Int.cast_ofNat_Int] at g
                    conv => whnf
                    refine ⟨Nat.le_of_ble_eq_true rfl, Nat.le_of_ble_eq_true rfl, ?_⟩
                    refine c_Ktruth ?_
                    conv => whnf
                    refine ⟨sx_ixI (by first | assumption | rfl) (by omega) (by omega), ?_⟩
                    conv => whnf
                    refine ⟨⟨by omega, by omega⟩, ?_⟩
                    conv => whnf
                    refine ⟨_, ?_, ⟨rfl, _, _, _, rfl, rfl, ?_, rfl⟩⟩
                    · omega
                    · obtain ⟨hw0, hw1, hwl, hwc⟩ := hw (by omega)
                      rcases hwc with ⟨c1, c2, c3, c4, c5, c6, c7⟩ | ⟨c1, c2, c3, c4, c5, c6, c7⟩ | ⟨c1, c2, c3, c4, c5, c6⟩ | ⟨c1, c2, c3, c4, c5, c6, c7⟩
                      · first | (exfalso; omega) | exact ⟨heq.upv, hsc.upv (v := σ (p + 12) i) c4, by omega, by omega, by omega, CV_s hi0 hcv hwl c6 (by omega) c7 (fun g _ => by unfold fOp; rw [if_pos c2, c3])⟩
                      · first | (exfalso; omega) | exact ⟨heq.upv, hsc.upv (hnb _ (by omega) (by omega)), by omega, by omega, by omega, CV_s hi0 hcv hwl c6 (by omega) c7 (fun g _ => by unfold fOp; rw [if_neg (by omega), if_pos c3, c4, hnm _ c1 c2])⟩
                      · first | (exfalso; omega) | exact ⟨heq.upv, hsc.upv (by split <;> exact ⟨by decide, by decide⟩), by omega, by omega, by omega, CV_s hi0 hcv hwl (by omega) (by omega) c6 (fun g hg => by unfold fOp fB; rw [if_neg (by omega), if_neg (by omega), if_pos c2, c4, ← hg (dp i - 1) (by omega) (by omega)]; first | (rw [if_pos (by omega)]; rfl) | (rw [if_neg (by omega)]; rfl))⟩
                      · have c9 : 3 ≤ fKd (σ (p + 11) i) := by unfold fKd; repeat (first | omega | split)
                        have c7' : ix (i + 1) = fun j => if j = dp i + -1 - 1 then i else ix i j := by rw [c7, show dp i + -1 - 1 = dp i - 2 by omega]
                        first | (exfalso; omega) | exact ⟨heq.upv, hsc.upv (fJo_bd (hsc.1 _ (by omega) (by omega)) (hsc.1 _ (by omega) (by omega)) hve), by omega, by omega, by omega, CV_s hi0 hcv hwl (by omega) (by omega) c7' (fun g hg => by rw [fOp_jo (k := fKd (σ (p + 11) i)) c9 c2, c4, c5, ← hg (dp i - 2) (by omega) (by omega), ← hg (dp i - 1) (by omega) (by omega), show dp i - 2 = dp i + -1 - 1 by omega, show dp i - 1 = dp i + -1 by omega]; exact hve)⟩ | exact ⟨heq.upf.upv, (hsc.upf (Or.inr rfl)).upv ⟨by decide, by decide⟩, by omega, by omega, by omega, CV_f hi0 hsc.2 hcv (fun g hg => by rw [fOp_jo (k := fKd (σ (p + 11) i)) c9 c2, c4, c5, ← hg (dp i - 2) (by omega) (by omega), ← hg (dp i - 1) (by omega) (by omega), show dp i - 2 = dp i + -1 - 1 by omega, show dp i - 1 = dp i + -1 by omega]; exact hve)⟩
                  · simp only [sx_cc, Classical.not_not] at g; try simp only [cmp_eq, cmp_ge, cmp_lt, cmp_gt, cmp_le, Int.cast_ofNat_Int] at g
                    conv => whnf
                    refine ⟨Nat.le_of_ble_eq_true rfl, Nat.le_of_ble_eq_true rfl, ?_⟩
                    refine c_Ktruth ?_
                    conv => whnf
                    refine ⟨sx_ixI (by first | assumption | rfl) (by omega) (by omega), ?_⟩
                    conv => whnf
                    refine ⟨⟨by omega, by omega⟩, ?_⟩
                    conv => whnf
                    refine ⟨_, ?_, ⟨rfl, _, _, _, rfl, rfl, ?_, rfl⟩⟩
                    · omega
                    · obtain ⟨hw0, hw1, hwl, hwc⟩ := hw (by omega)
                      rcases hwc with ⟨c1, c2, c3, c4, c5, c6, c7⟩ | ⟨c1, c2, c3, c4, c5, c6, c7⟩ | ⟨c1, c2, c3, c4, c5, c6⟩ | ⟨c1, c2, c3, c4, c5, c6, c7⟩
                      · first | (exfalso; omega) | exact ⟨heq.upv, hsc.upv (v := σ (p + 12) i) c4, by omega, by omega, by omega, CV_s hi0 hcv hwl c6 (by omega) c7 (fun g _ => by unfold fOp; rw [if_pos c2, c3])⟩
                      · first | (exfalso; omega) | exact ⟨heq.upv, hsc.upv (hnb _ (by omega) (by omega)), by omega, by omega, by omega, CV_s hi0 hcv hwl c6 (by omega) c7 (fun g _ => by unfold fOp; rw [if_neg (by omega), if_pos c3, c4, hnm _ c1 c2])⟩
                      · first | (exfalso; omega) | exact ⟨heq.upv, hsc.upv (by split <;> exact ⟨by decide, by decide⟩), by omega, by omega, by omega, CV_s hi0 hcv hwl (by omega) (by omega) c6 (fun g hg => by unfold fOp fB; rw [if_neg (by omega), if_neg (by omega), if_pos c2, c4, ← hg (dp i - 1) (by omega) (by omega)]; first | (rw [if_pos (by omega)]; rfl) | (rw [if_neg (by omega)]; rfl))⟩
                      · have c9 : 3 ≤ fKd (σ (p + 11) i) := by unfold fKd; repeat (first | omega | split)
                        have c7' : ix (i + 1) = fun j => if j = dp i + -1 - 1 then i else ix i j := by rw [c7, show dp i + -1 - 1 = dp i - 2 by omega]
                        first | (exfalso; omega) | exact ⟨heq.upv, hsc.upv (fJo_bd (hsc.1 _ (by omega) (by omega)) (hsc.1 _ (by omega) (by omega)) hve), by omega, by omega, by omega, CV_s hi0 hcv hwl (by omega) (by omega) c7' (fun g hg => by rw [fOp_jo (k := fKd (σ (p + 11) i)) c9 c2, c4, c5, ← hg (dp i - 2) (by omega) (by omega), ← hg (dp i - 1) (by omega) (by omega), show dp i - 2 = dp i + -1 - 1 by omega, show dp i - 1 = dp i + -1 by omega]; exact hve)⟩ | exact ⟨heq.upf.upv, (hsc.upf (Or.inr rfl)).upv ⟨by decide, by decide⟩, by omega, by omega, by omega, CV_f hi0 hsc.2 hcv (fun g hg => by rw [fOp_jo (k := fKd (σ (p + 11) i)) c9 c2, c4, c5, ← hg (dp i - 2) (by omega) (by omega), ← hg (dp i - 1) (by omega) (by omega), show dp i - 2 = dp i + -1 - 1 by omega, show dp i - 1 = dp i + -1 by omega]; exact hve)⟩
            · simp only [sx_cc, Classical.not_not] at g; try simp only [cmp_eq, cmp_ge, cmp_lt, cmp_gt, cmp_le, Int.cast_ofNat_Int] at g
              conv => whnf
              refine ⟨fun g => ?_, fun g => ?_⟩
              · simp only [sx_cc, Classical.not_not] at g; try simp only [cmp_eq, cmp_ge, cmp_lt, cmp_gt, cmp_le, Int.cast_ofNat_Int] at g
                conv => whnf
                refine ⟨fun g => ?_, fun g => ?_⟩
                · simp only [sx_cc, Classical.not_not] at g; try simp only [cmp_eq, cmp_ge, cmp_lt, cmp_gt, cmp_le, Int.cast_ofNat_Int] at g
                  conv => whnf
                  refine ⟨fun g => ?_, fun g => ?_⟩
                  · simp only [sx_cc, Classical.not_not] at g; try simp only [cmp_eq, cmp_ge, cmp_lt, cmp_gt, cmp_le, Int.cast_ofNat_Int] at g
                    conv => whnf
                    exfalso
                    omega
                  · simp only [sx_cc, Classical.not_not] at g; try simp only [cmp_eq, cmp_ge, cmp_lt, cmp_gt, cmp_le, Int.cast_ofNat_Int] at g
                    conv => whnf
                    refine ⟨⟨by omega, by omega⟩, ?_⟩
                    conv => whnf
                    refine ⟨(by first | assumption | rfl), ?_⟩
                    try simp (disch := omega) only [Int.cast_ofNat_Int, up_s, up_a, up_i, mp_a, mp_ge, cp_a, o0, o1, t15, t16, t17, t18, f0, f1, elo, ehi, e11, e12, e13, e14, e38, ep15, ep16, ep17, ep18]
                    conv => whnf
                    refine ⟨⟨by omega, by omega⟩, ?_⟩
                    conv => whnf
                    refine ⟨(by first | assumption | rfl), ?_⟩
                    try simp (disch := omega) only [Int.cast_ofNat_Int, up_s, up_a, up_i, mp_a, mp_ge, cp_a, o0, o1, t15, t16, t17, t18, f0, f1, elo, ehi, e11, e12, e13, e14, e38, ep15, ep16, ep17, ep18]
                    conv => whnf
                    refine ⟨⟨by omega, by omega⟩, ?_⟩
                    conv => whnf
                    refine ⟨sx_ixI (by first | assumption | rfl) (by omega) (by omega), ?_⟩
                    try simp (disch := omega) only [Int.cast_ofNat_Int, up_s, up_a, up_i, mp_a, mp_ge, cp_a, o0, o1, t15, t16, t17, t18, f0, f1, elo, ehi, e11, e12, e13, e14, e38, ep15, ep16, ep17, ep18]
                    conv => whnf
                    refine ⟨(by first | assumption | rfl), ?_⟩
                    try simp (disch := omega) only [Int.cast_ofNat_Int, up_s, up_a, up_i, mp_a, mp_ge, cp_a, o0, o1, t15, t16, t17, t18, f0, f1, elo, ehi, e11, e12, e13, e14, e38, ep15, ep16, ep17, ep18]
                    conv => whnf
                    refine ⟨sx_ixI (by first | assumption | rfl) (by omega) (by omega), ?_⟩
                    try simp (disch := omega) only [Int.cast_ofNat_Int, up_s, up_a, up_i, mp_a, mp_ge, cp_a, o0, o1, t15, t16, t17, t18, f0, f1, elo, ehi, e11, e12, e13, e14, e38, ep15, ep16, ep17, ep18]
                    conv => whnf
                    refine ⟨Nat.le_of_ble_eq_true rfl, Nat.le_of_ble_eq_true rfl, (by first | assumption | rfl), ?_⟩
                    refine c_Kjoined (hsc.1 _ (by omega) (by omega)) (hsc.1 _ (by omega) (by omega)) (by omega) (fun v hve => ?_) (fun hve => ?_)
                    · skip
                      conv => whnf
                      refine ⟨sx_ixI (by first | assumption | rfl) (by omega) (by omega), ?_⟩
                      conv => whnf
                      refine ⟨⟨by omega, by omega⟩, ?_⟩
                      conv => whnf
                      refine ⟨_, ?_, ⟨rfl, _, _, _, rfl, rfl, ?_, rfl⟩⟩
                      · omega
                      · obtain ⟨hw0, hw1, hwl, hwc⟩ := hw (by omega)
                        rcases hwc with ⟨c1, c2, c3, c4, c5, c6, c7⟩ | ⟨c1, c2, c3, c4, c5, c6, c7⟩ | ⟨c1, c2, c3, c4, c5, c6⟩ | ⟨c1, c2, c3, c4, c5, c6, c7⟩
                        · first | (exfalso; omega) | exact ⟨heq.upv, hsc.upv (v := σ (p + 12) i) c4, by omega, by omega, by omega, CV_s hi0 hcv hwl c6 (by omega) c7 (fun g _ => by unfold fOp; rw [if_pos c2, c3])⟩
                        · first | (exfalso; omega) | exact ⟨heq.upv, hsc.upv (hnb _ (by omega) (by omega)), by omega, by omega, by omega, CV_s hi0 hcv hwl c6 (by omega) c7 (fun g _ => by unfold fOp; rw [if_neg (by omega), if_pos c3, c4, hnm _ c1 c2])⟩
                        · first | (exfalso; omega) | exact ⟨heq.upv, hsc.upv (by split <;> exact ⟨by decide, by decide⟩), by omega, by omega, by omega, CV_s hi0 hcv hwl (by omega) (by omega) c6 (fun g hg => by unfold fOp fB; rw [if_neg (by omega), if_neg (by omega), if_pos c2, c4, ← hg (dp i - 1) (by omega) (by omega)]; first | (rw [if_pos (by omega)]; rfl) | (rw [if_neg (by omega)]; rfl))⟩
                        · have c9 : 3 ≤ fKd (σ (p + 11) i) := by unfold fKd; repeat (first | omega | split)
                          have c7' : ix (i + 1) = fun j => if j = dp i + -1 - 1 then i else ix i j := by rw [c7, show dp i + -1 - 1 = dp i - 2 by omega]
                          first | (exfalso; omega) | exact ⟨heq.upv, hsc.upv (fJo_bd (hsc.1 _ (by omega) (by omega)) (hsc.1 _ (by omega) (by omega)) hve), by omega, by omega, by omega, CV_s hi0 hcv hwl (by omega) (by omega) c7' (fun g hg => by rw [fOp_jo (k := fKd (σ (p + 11) i)) c9 c2, c4, c5, ← hg (dp i - 2) (by omega) (by omega), ← hg (dp i - 1) (by omega) (by omega), show dp i - 2 = dp i + -1 - 1 by omega, show dp i - 1 = dp i + -1 by omega]; exact hve)⟩ | exact ⟨heq.upf.upv, (hsc.upf (Or.inr rfl)).upv ⟨by decide, by decide⟩, by omega, by omega, by omega, CV_f hi0 hsc.2 hcv (fun g hg => by rw [fOp_jo (k := fKd (σ (p + 11) i)) c9 c2, c4, c5, ← hg (dp i - 2) (by omega) (by omega), ← hg (dp i - 1) (by omega) (by omega), show dp i - 2 = dp i + -1 - 1 by omega, show dp i - 1 = dp i + -1 by omega]; exact hve)⟩
                    · skip
                      conv => whnf
                      refine ⟨sx_ixI (by first | assumption | rfl) (by omega) (by omega), ?_⟩
                      conv => whnf
                      refine ⟨⟨by omega, by omega⟩, ?_⟩
                      conv => whnf
                      refine ⟨_, ?_, ⟨rfl, _, _, _, rfl, rfl, ?_, rfl⟩⟩
                      · omega
                      · obtain ⟨hw0, hw1, hwl, hwc⟩ := hw (by omega)
                        rcases hwc with ⟨c1, c2, c3, c4, c5, c6, c7⟩ | ⟨c1, c2, c3, c4, c5, c6, c7⟩ | ⟨c1, c2, c3, c4, c5, c6⟩ | ⟨c1, c2, c3, c4, c5, c6, c7⟩
                        · first | (exfalso; omega) | exact ⟨heq.upv, hsc.upv (v := σ (p + 12) i) c4, by omega, by omega, by omega, CV_s hi0 hcv hwl c6 (by omega) c7 (fun g _ => by unfold fOp; rw [if_pos c2, c3])⟩
                        · first | (exfalso; omega) | exact ⟨heq.upv, hsc.upv (hnb _ (by omega) (by omega)), by omega, by omega, by omega, CV_s hi0 hcv hwl c6 (by omega) c7 (fun g _ => by unfold fOp; rw [if_neg (by omega), if_pos c3, c4, hnm _ c1 c2])⟩
                        · first | (exfalso; omega) | exact ⟨heq.upv, hsc.upv (by split <;> exact ⟨by decide, by decide⟩), by omega, by omega, by omega, CV_s hi0 hcv hwl (by omega) (by omega) c6 (fun g hg => by unfold fOp fB; rw [if_neg (by omega), if_neg (by omega), if_pos c2, c4, ← hg (dp i - 1) (by omega) (by omega)]; first | (rw [if_pos (by omega)]; rfl) | (rw [if_neg (by omega)]; rfl))⟩
                        · have c9 : 3 ≤ fKd (σ (p + 11) i) := by unfold fKd; repeat (first | omega | split)
                          have c7' : ix (i + 1) = fun j => if j = dp i + -1 - 1 then i else ix i j := by rw [c7, show dp i + -1 - 1 = dp i - 2 by omega]
                          first | (exfalso; omega) | exact ⟨heq.upv, hsc.upv (fJo_bd (hsc.1 _ (by omega) (by omega)) (hsc.1 _ (by omega) (by omega)) hve), by omega, by omega, by omega, CV_s hi0 hcv hwl (by omega) (by omega) c7' (fun g hg => by rw [fOp_jo (k := fKd (σ (p + 11) i)) c9 c2, c4, c5, ← hg (dp i - 2) (by omega) (by omega), ← hg (dp i - 1) (by omega) (by omega), show dp i - 2 = dp i + -1 - 1 by omega, show dp i - 1 = dp i + -1 by omega]; exact hve)⟩ | exact ⟨heq.upf.upv, (hsc.upf (Or.inr rfl)).upv ⟨by decide, by decide⟩, by omega, by omega, by omega, CV_f hi0 hsc.2 hcv (fun g hg => by rw [fOp_jo (k := fKd (σ (p + 11) i)) c9 c2, c4, c5, ← hg (dp i - 2) (by omega) (by omega), ← hg (dp i - 1) (by omega) (by omega), show dp i - 2 = dp i + -1 - 1 by omega, show dp i - 1 = dp i + -1 by omega]; exact hve)⟩
                · simp only [sx_cc, Classical.not_not] at g; try simp only [cmp_eq, cmp_ge, cmp_lt, cmp_gt, cmp_le, Int.cast_ofNat_Int] at g
                  conv => whnf
                  refine ⟨fun g => ?_, fun g => ?_⟩
                  · simp only [sx_cc, Classical.not_not] at g; try simp only [cmp_eq, cmp_ge, cmp_lt, cmp_gt, cmp_le, Int.cast_ofNat_Int] at g
                    conv => whnf
                    refine ⟨fun g => ?_, fun g => ?_⟩
                    · simp only [sx_cc, Classical.not_not] at g; try simp only [cmp_eq, cmp_ge, cmp_lt, cmp_gt, cmp_le, Int.cast_ofNat_Int] at g
                      conv => whnf
                      exfalso
                      omega
                    · simp only [sx_cc, Classical.not_not] at g; try simp only [cmp_eq, cmp_ge, cmp_lt, cmp_gt, cmp_le, Int.cast_ofNat_Int] at g
                      conv => whnf
                      refine ⟨⟨by omega, by omega⟩, ?_⟩
                      conv => whnf
                      refine ⟨(by first | assumption | rfl), ?_⟩
                      try simp (disch := omega) only [Int.cast_ofNat_Int, up_s, up_a, up_i, mp_a, mp_ge, cp_a, o0, o1, t15, t16, t17, t18, f0, f1, elo, ehi, e11, e12, e13, e14, e38, ep15, ep16, ep17, ep18]
                      conv => whnf
                      refine ⟨⟨by omega, by omega⟩, ?_⟩
                      conv => whnf
                      refine ⟨(by first | assumption | rfl), ?_⟩
                      try simp (disch := omega) only [Int.cast_ofNat_Int, up_s, up_a, up_i, mp_a, mp_ge, cp_a, o0, o1, t15, t16, t17, t18, f0, f1, elo, ehi, e11, e12, e13, e14, e38, ep15, ep16, ep17, ep18]
                      conv => whnf
                      refine ⟨⟨by omega, by omega⟩, ?_⟩
                      conv => whnf
                      refine ⟨sx_ixI (by first | assumption | rfl) (by omega) (by omega), ?_⟩
                      try simp (disch := omega) only [Int.cast_ofNat_Int, up_s, up_a, up_i, mp_a, mp_ge, cp_a, o0, o1, t15, t16, t17, t18, f0, f1, elo, ehi, e11, e12, e13, e14, e38, ep15, ep16, ep17, ep18]
                      conv => whnf
                      refine ⟨(by first | assumption | rfl), ?_⟩
                      try simp (disch := omega) only [Int.cast_ofNat_Int, up_s, up_a, up_i, mp_a, mp_ge, cp_a, o0, o1, t15, t16, t17, t18, f0, f1, elo, ehi, e11, e12, e13, e14, e38, ep15, ep16, ep17, ep18]
                      conv => whnf
                      refine ⟨sx_ixI (by first | assumption | rfl) (by omega) (by omega), ?_⟩
                      try simp (disch := omega) only [Int.cast_ofNat_Int, up_s, up_a, up_i, mp_a, mp_ge, cp_a, o0, o1, t15, t16, t17, t18, f0, f1, elo, ehi, e11, e12, e13, e14, e38, ep15, ep16, ep17, ep18]
                      conv => whnf
                      refine ⟨Nat.le_of_ble_eq_true rfl, Nat.le_of_ble_eq_true rfl, (by first | assumption | rfl), ?_⟩
                      refine c_Kjoined (hsc.1 _ (by omega) (by omega)) (hsc.1 _ (by omega) (by omega)) (by omega) (fun v hve => ?_) (fun hve => ?_)
                      · skip
                        conv => whnf
                        refine ⟨sx_ixI (by first | assumption | rfl) (by omega) (by omega), ?_⟩
                        conv => whnf
                        refine ⟨⟨by omega, by omega⟩, ?_⟩
                        conv => whnf
                        refine ⟨_, ?_, ⟨rfl, _, _, _, rfl, rfl, ?_, rfl⟩⟩
                        · omega
                        · obtain ⟨hw0, hw1, hwl, hwc⟩ := hw (by omega)
                          rcases hwc with ⟨c1, c2, c3, c4, c5, c6, c7⟩ | ⟨c1, c2, c3, c4, c5, c6, c7⟩ | ⟨c1, c2, c3, c4, c5, c6⟩ | ⟨c1, c2, c3, c4, c5, c6, c7⟩
                          · first | (exfalso; omega) | exact ⟨heq.upv, hsc.upv (v := σ (p + 12) i) c4, by omega, by omega, by omega, CV_s hi0 hcv hwl c6 (by omega) c7 (fun g _ => by unfold fOp; rw [if_pos c2, c3])⟩
                          · first | (exfalso; omega) | exact ⟨heq.upv, hsc.upv (hnb _ (by omega) (by omega)), by omega, by omega, by omega, CV_s hi0 hcv hwl c6 (by omega) c7 (fun g _ => by unfold fOp; rw [if_neg (by omega), if_pos c3, c4, hnm _ c1 c2])⟩
                          · first | (exfalso; omega) | exact ⟨heq.upv, hsc.upv (by split <;> exact ⟨by decide, by decide⟩), by omega, by omega, by omega, CV_s hi0 hcv hwl (by omega) (by omega) c6 (fun g hg => by unfold fOp fB; rw [if_neg (by omega), if_neg (by omega), if_pos c2, c4, ← hg (dp i - 1) (by omega) (by omega)]; first | (rw [if_pos (by omega)]; rfl) | (rw [if_neg (by omega)]; rfl))⟩
                          · have c9 : 3 ≤ fKd (σ (p + 11) i) := by unfold fKd; repeat (first | omega | split)
                            have c7' : ix (i + 1) = fun j => if j = dp i + -1 - 1 then i else ix i j := by rw [c7, show dp i + -1 - 1 = dp i - 2 by omega]
                            first | (exfalso; omega) | exact ⟨heq.upv, hsc.upv (fJo_bd (hsc.1 _ (by omega) (by omega)) (hsc.1 _ (by omega) (by omega)) hve), by omega, by omega, by omega, CV_s hi0 hcv hwl (by omega) (by omega) c7' (fun g hg => by rw [fOp_jo (k := fKd (σ (p + 11) i)) c9 c2, c4, c5, ← hg (dp i - 2) (by omega) (by omega), ← hg (dp i - 1) (by omega) (by omega), show dp i - 2 = dp i + -1 - 1 by omega, show dp i - 1 = dp i + -1 by omega]; exact hve)⟩ | exact ⟨heq.upf.upv, (hsc.upf (Or.inr rfl)).upv ⟨by decide, by decide⟩, by omega, by omega, by omega, CV_f hi0 hsc.2 hcv (fun g hg => by rw [fOp_jo (k := fKd (σ (p + 11) i)) c9 c2, c4, c5, ← hg (dp i - 2) (by omega) (by omega), ← hg (dp i - 1) (by omega) (by omega), show dp i - 2 = dp i + -1 - 1 by omega, show dp i - 1 = dp i + -1 by omega]; exact hve)⟩
                      · skip
                        conv => whnf
                        refine ⟨sx_ixI (by first | assumption | rfl) (by omega) (by omega), ?_⟩
                        conv => whnf
                        refine ⟨⟨by omega, by omega⟩, ?_⟩
                        conv => whnf
                        refine ⟨_, ?_, ⟨rfl, _, _, _, rfl, rfl, ?_, rfl⟩⟩
                        · omega
                        · obtain ⟨hw0, hw1, hwl, hwc⟩ := hw (by omega)
                          rcases hwc with ⟨c1, c2, c3, c4, c5, c6, c7⟩ | ⟨c1, c2, c3, c4, c5, c6, c7⟩ | ⟨c1, c2, c3, c4, c5, c6⟩ | ⟨c1, c2, c3, c4, c5, c6, c7⟩
                          · first | (exfalso; omega) | exact ⟨heq.upv, hsc.upv (v := σ (p + 12) i) c4, by omega, by omega, by omega, CV_s hi0 hcv hwl c6 (by omega) c7 (fun g _ => by unfold fOp; rw [if_pos c2, c3])⟩
                          · first | (exfalso; omega) | exact ⟨heq.upv, hsc.upv (hnb _ (by omega) (by omega)), by omega, by omega, by omega, CV_s hi0 hcv hwl c6 (by omega) c7 (fun g _ => by unfold fOp; rw [if_neg (by omega), if_pos c3, c4, hnm _ c1 c2])⟩
                          · first | (exfalso; omega) | exact ⟨heq.upv, hsc.upv (by split <;> exact ⟨by decide, by decide⟩), by omega, by omega, by omega, CV_s hi0 hcv hwl (by omega) (by omega) c6 (fun g hg => by unfold fOp fB; rw [if_neg (by omega), if_neg (by omega), if_pos c2, c4, ← hg (dp i - 1) (by omega) (by omega)]; first | (rw [if_pos (by omega)]; rfl) | (rw [if_neg (by omega)]; rfl))⟩
                          · have c9 : 3 ≤ fKd (σ (p + 11) i) := by unfold fKd; repeat (first | omega | split)
                            have c7' : ix (i + 1) = fun j => if j = dp i + -1 - 1 then i else ix i j := by rw [c7, show dp i + -1 - 1 = dp i - 2 by omega]
                            first | (exfalso; omega) | exact ⟨heq.upv, hsc.upv (fJo_bd (hsc.1 _ (by omega) (by omega)) (hsc.1 _ (by omega) (by omega)) hve), by omega, by omega, by omega, CV_s hi0 hcv hwl (by omega) (by omega) c7' (fun g hg => by rw [fOp_jo (k := fKd (σ (p + 11) i)) c9 c2, c4, c5, ← hg (dp i - 2) (by omega) (by omega), ← hg (dp i - 1) (by omega) (by omega), show dp i - 2 = dp i + -1 - 1 by omega, show dp i - 1 = dp i + -1 by omega]; exact hve)⟩ | exact ⟨heq.upf.upv, (hsc.upf (Or.inr rfl)).upv ⟨by decide, by decide⟩, by omega, by omega, by omega, CV_f hi0 hsc.2 hcv (fun g hg => by rw [fOp_jo (k := fKd (σ (p + 11) i)) c9 c2, c4, c5, ← hg (dp i - 2) (by omega) (by omega), ← hg (dp i - 1) (by omega) (by omega), show dp i - 2 = dp i + -1 - 1 by omega, show dp i - 1 = dp i + -1 by omega]; exact hve)⟩
                  · simp only [sx_cc, Classical.not_not] at g; try simp only [cmp_eq, cmp_ge, cmp_lt, cmp_gt, cmp_le, Int.cast_ofNat_Int] at g
                    conv => whnf
                    refine ⟨(by first | assumption | rfl), ?_⟩
                    try simp (disch := omega) only [Int.cast_ofNat_Int, up_s, up_a, up_i, mp_a, mp_ge, cp_a, o0, o1, t15, t16, t17, t18, f0, f1, elo, ehi, e11, e12, e13, e14, e38, ep15, ep16, ep17, ep18]
                    conv => whnf
                    refine ⟨⟨by omega, by omega⟩, ?_⟩
                    conv => whnf
                    refine ⟨(by first | assumption | rfl), ?_⟩
                    try simp (disch := omega) only [Int.cast_ofNat_Int, up_s, up_a, up_i, mp_a, mp_ge, cp_a, o0, o1, t15, t16, t17, t18, f0, f1, elo, ehi, e11, e12, e13, e14, e38, ep15, ep16, ep17, ep18]
                    conv => whnf
                    refine ⟨⟨by omega, by omega⟩, ?_⟩
                    conv => whnf
                    refine ⟨sx_ixI (by first | assumption | rfl) (by omega) (by omega), ?_⟩
                    try simp (disch := omega) only [Int.cast_ofNat_Int, up_s, up_a, up_i, mp_a, mp_ge, cp_a, o0, o1, t15, t16, t17, t18, f0, f1, elo, ehi, e11, e12, e13, e14, e38, ep15, ep16, ep17, ep18]
                    conv => whnf
                    refine ⟨fun g => ?_, fun g => ?_⟩
                    · simp only [sx_cc, Classical.not_not] at g; try simp only [cmp_eq, cmp_ge, cmp_lt, cmp_gt, cmp_le, Int.cast_ofNat_Int] at g
                      conv => whnf
                      refine ⟨Nat.le_of_ble_eq_true rfl, Nat.le_of_ble_eq_true rfl, ?_⟩
                      refine c_Ktruth ?_
                      conv => whnf
                      refine ⟨sx_ixI (by first | assumption | rfl) (by omega) (by omega), ?_⟩
                      conv => whnf
                      refine ⟨⟨by omega, by omega⟩, ?_⟩
                      conv => whnf
                      refine ⟨_, ?_, ⟨rfl, _, _, _, rfl, rfl, ?_, rfl⟩⟩
                      · omega
                      · obtain ⟨hw0, hw1, hwl, hwc⟩ := hw (by omega)
                        rcases hwc with ⟨c1, c2, c3, c4, c5, c6, c7⟩ | ⟨c1, c2, c3, c4, c5, c6, c7⟩ | ⟨c1, c2, c3, c4, c5, c6⟩ | ⟨c1, c2, c3, c4, c5, c6, c7⟩
                        · first | (exfalso; omega) | exact ⟨heq.upv, hsc.upv (v := σ (p + 12) i) c4, by omega, by omega, by omega, CV_s hi0 hcv hwl c6 (by omega) c7 (fun g _ => by unfold fOp; rw [if_pos c2, c3])⟩
                        · first | (exfalso; omega) | exact ⟨heq.upv, hsc.upv (hnb _ (by omega) (by omega)), by omega, by omega, by omega, CV_s hi0 hcv hwl c6 (by omega) c7 (fun g _ => by unfold fOp; rw [if_neg (by omega), if_pos c3, c4, hnm _ c1 c2])⟩
                        · first | (exfalso; omega) | exact ⟨heq.upv, hsc.upv (by split <;> exact ⟨by decide, by decide⟩), by omega, by omega, by omega, CV_s hi0 hcv hwl (by omega) (by omega) c6 (fun g hg => by unfold fOp fB; rw [if_neg (by omega), if_neg (by omega), if_pos c2, c4, ← hg (dp i - 1) (by omega) (by omega)]; first | (rw [if_pos (by omega)]; rfl) | (rw [if_neg (by omega)]; rfl))⟩
                        · have c9 : 3 ≤ fKd (σ (p + 11) i) := by unfold fKd; repeat (first | omega | split)
                          have c7' : ix (i + 1) = fun j => if j = dp i + -1 - 1 then i else ix i j := by rw [c7, show dp i + -1 - 1 = dp i - 2 by omega]
                          first | (exfalso; omega) | exact ⟨heq.upv, hsc.upv (fJo_bd (hsc.1 _ (by omega) (by omega)) (hsc.1 _ (by omega) (by omega)) hve), by omega, by omega, by omega, CV_s hi0 hcv hwl (by omega) (by omega) c7' (fun g hg => by rw [fOp_jo (k := fKd (σ (p + 11) i)) c9 c2, c4, c5, ← hg (dp i - 2) (by omega) (by omega), ← hg (dp i - 1) (by omega) (by omega), show dp i - 2 = dp i + -1 - 1 by omega, show dp i - 1 = dp i + -1 by omega]; exact hve)⟩ | exact ⟨heq.upf.upv, (hsc.upf (Or.inr rfl)).upv ⟨by decide, by decide⟩, by omega, by omega, by omega, CV_f hi0 hsc.2 hcv (fun g hg => by rw [fOp_jo (k := fKd (σ (p + 11) i)) c9 c2, c4, c5, ← hg (dp i - 2) (by omega) (by omega), ← hg (dp i - 1) (by omega) (by omega), show dp i - 2 = dp i + -1 - 1 by omega, show dp i - 1 = dp i + -1 by omega]; exact hve)⟩
                    · simp only [sx_cc, Classical.not_not] at g; try simp only [cmp_eq, cmp_ge, cmp_lt, cmp_gt, cmp_le, Int.cast_ofNat_Int] at g
                      conv => whnf
                      refine ⟨Nat.le_of_ble_eq_true rfl, Nat.le_of_ble_eq_true rfl, ?_⟩
                      refine c_Ktruth ?_
                      conv => whnf
                      refine ⟨sx_ixI (by first | assumption | rfl) (by omega) (by omega), ?_⟩
                      conv => whnf
                      refine ⟨⟨by omega, by omega⟩, ?_⟩
                      conv => whnf
                      refine ⟨_, ?_, ⟨rfl, _, _, _, rfl, rfl, ?_, rfl⟩⟩
                      · omega
                      · obtain ⟨hw0, hw1, hwl, hwc⟩ := hw (by omega)
                        rcases hwc with ⟨c1, c2, c3, c4, c5, c6, c7⟩ | ⟨c1, c2, c3, c4, c5, c6, c7⟩ | ⟨c1, c2, c3, c4, c5, c6⟩ | ⟨c1, c2, c3, c4, c5, c6, c7⟩
                        · first | (exfalso; omega) | exact ⟨heq.upv, hsc.upv (v := σ (p + 12) i) c4, by omega, by omega, by omega, CV_s hi0 hcv hwl c6 (by omega) c7 (fun g _ => by unfold fOp; rw [if_pos c2, c3])⟩
                        · first | (exfalso; omega) | exact ⟨heq.upv, hsc.upv (hnb _ (by omega) (by omega)), by omega, by omega, by omega, CV_s hi0 hcv hwl c6 (by omega) c7 (fun g _ => by unfold fOp; rw [if_neg (by omega), if_pos c3, c4, hnm _ c1 c2])⟩
                        · first | (exfalso; omega) | exact ⟨heq.upv, hsc.upv (by split <;> exact ⟨by decide, by decide⟩), by omega, by omega, by omega, CV_s hi0 hcv hwl (by omega) (by omega) c6 (fun g hg => by unfold fOp fB; rw [if_neg (by omega), if_neg (by omega), if_pos c2, c4, ← hg (dp i - 1) (by omega) (by omega)]; first | (rw [if_pos (by omega)]; rfl) | (rw [if_neg (by omega)]; rfl))⟩
                        · have c9 : 3 ≤ fKd (σ (p + 11) i) := by unfold fKd; repeat (first | omega | split)
                          have c7' : ix (i + 1) = fun j => if j = dp i + -1 - 1 then i else ix i j := by rw [c7, show dp i + -1 - 1 = dp i - 2 by omega]
                          first | (exfalso; omega) | exact ⟨heq.upv, hsc.upv (fJo_bd (hsc.1 _ (by omega) (by omega)) (hsc.1 _ (by omega) (by omega)) hve), by omega, by omega, by omega, CV_s hi0 hcv hwl (by omega) (by omega) c7' (fun g hg => by rw [fOp_jo (k := fKd (σ (p + 11) i)) c9 c2, c4, c5, ← hg (dp i - 2) (by omega) (by omega), ← hg (dp i - 1) (by omega) (by omega), show dp i - 2 = dp i + -1 - 1 by omega, show dp i - 1 = dp i + -1 by omega]; exact hve)⟩ | exact ⟨heq.upf.upv, (hsc.upf (Or.inr rfl)).upv ⟨by decide, by decide⟩, by omega, by omega, by omega, CV_f hi0 hsc.2 hcv (fun g hg => by rw [fOp_jo (k := fKd (σ (p + 11) i)) c9 c2, c4, c5, ← hg (dp i - 2) (by omega) (by omega), ← hg (dp i - 1) (by omega) (by omega), show dp i - 2 = dp i + -1 - 1 by omega, show dp i - 1 = dp i + -1 by omega]; exact hve)⟩
              · simp only [sx_cc, Classical.not_not] at g; try simp only [cmp_eq, cmp_ge, cmp_lt, cmp_gt, cmp_le, Int.cast_ofNat_Int] at g
                conv => whnf
                refine ⟨(by first | assumption | rfl), ?_⟩
                try simp (disch := omega) only [Int.cast_ofNat_Int, up_s, up_a, up_i, mp_a, mp_ge, cp_a, o0, o1, t15, t16, t17, t18, f0, f1, elo, ehi, e11, e12, e13, e14, e38, ep15, ep16, ep17, ep18]
                conv => whnf
                refine ⟨(by first | assumption | rfl), ?_⟩
                try simp (disch := omega) only [Int.cast_ofNat_Int, up_s, up_a, up_i, mp_a, mp_ge, cp_a, o0, o1, t15, t16, t17, t18, f0, f1, elo, ehi, e11, e12, e13, e14, e38, ep15, ep16, ep17, ep18]
                conv => whnf
                refine ⟨⟨by omega, by omega⟩, ?_⟩
                conv => whnf
                refine ⟨sx_ixI (by first | assumption | rfl) (by omega) (by omega), ?_⟩
                try simp (disch := omega) only [Int.cast_ofNat_Int, up_s, up_a, up_i, mp_a, mp_ge, cp_a, o0, o1, t15, t16, t17, t18, f0, f1, elo, ehi, e11, e12, e13, e14, e38, ep15, ep16, ep17, ep18]
                conv => whnf
                refine ⟨sx_ixI (by first | assumption | rfl) (by omega) (by omega), ?_⟩
                conv => whnf
                refine ⟨⟨by omega, by omega⟩, ?_⟩
                conv => whnf
                refine ⟨⟨by omega, by omega⟩, ?_⟩
                conv => whnf
                refine ⟨_, ?_, ⟨rfl, _, _, _, rfl, rfl, ?_, rfl⟩⟩
                · omega
                · obtain ⟨hw0, hw1, hwl, hwc⟩ := hw (by omega)
                  rcases hwc with ⟨c1, c2, c3, c4, c5, c6, c7⟩ | ⟨c1, c2, c3, c4, c5, c6, c7⟩ | ⟨c1, c2, c3, c4, c5, c6⟩ | ⟨c1, c2, c3, c4, c5, c6, c7⟩
                  · first | (exfalso; omega) | exact ⟨heq.upv, hsc.upv (v := σ (p + 12) i) c4, by omega, by omega, by omega, CV_s hi0 hcv hwl c6 (by omega) c7 (fun g _ => by unfold fOp; rw [if_pos c2, c3])⟩
                  · first | (exfalso; omega) | exact ⟨heq.upv, hsc.upv (hnb _ (by omega) (by omega)), by omega, by omega, by omega, CV_s hi0 hcv hwl c6 (by omega) c7 (fun g _ => by unfold fOp; rw [if_neg (by omega), if_pos c3, c4, hnm _ c1 c2])⟩
                  · first | (exfalso; omega) | exact ⟨heq.upv, hsc.upv (by split <;> exact ⟨by decide, by decide⟩), by omega, by omega, by omega, CV_s hi0 hcv hwl (by omega) (by omega) c6 (fun g hg => by unfold fOp fB; rw [if_neg (by omega), if_neg (by omega), if_pos c2, c4, ← hg (dp i - 1) (by omega) (by omega)]; first | (rw [if_pos (by omega)]; rfl) | (rw [if_neg (by omega)]; rfl))⟩
                  · have c9 : 3 ≤ fKd (σ (p + 11) i) := by unfold fKd; repeat (first | omega | split)
                    have c7' : ix (i + 1) = fun j => if j = dp i + -1 - 1 then i else ix i j := by rw [c7, show dp i + -1 - 1 = dp i - 2 by omega]
                    first | (exfalso; omega) | exact ⟨heq.upv, hsc.upv (fJo_bd (hsc.1 _ (by omega) (by omega)) (hsc.1 _ (by omega) (by omega)) hve), by omega, by omega, by omega, CV_s hi0 hcv hwl (by omega) (by omega) c7' (fun g hg => by rw [fOp_jo (k := fKd (σ (p + 11) i)) c9 c2, c4, c5, ← hg (dp i - 2) (by omega) (by omega), ← hg (dp i - 1) (by omega) (by omega), show dp i - 2 = dp i + -1 - 1 by omega, show dp i - 1 = dp i + -1 by omega]; exact hve)⟩ | exact ⟨heq.upf.upv, (hsc.upf (Or.inr rfl)).upv ⟨by decide, by decide⟩, by omega, by omega, by omega, CV_f hi0 hsc.2 hcv (fun g hg => by rw [fOp_jo (k := fKd (σ (p + 11) i)) c9 c2, c4, c5, ← hg (dp i - 2) (by omega) (by omega), ← hg (dp i - 1) (by omega) (by omega), show dp i - 2 = dp i + -1 - 1 by omega, show dp i - 1 = dp i + -1 by omega]; exact hve)⟩
        · simp only [sx_cc, Classical.not_not] at g; try simp only [cmp_eq, cmp_ge, cmp_lt, cmp_gt, cmp_le, Int.cast_ofNat_Int] at g
          conv => whnf
          refine ⟨fun g => ?_, fun g => ?_⟩
          · simp only [sx_cc, Classical.not_not] at g; try simp only [cmp_eq, cmp_ge, cmp_lt, cmp_gt, cmp_le, Int.cast_ofNat_Int] at g
            conv => whnf
            refine ⟨fun g => ?_, fun g => ?_⟩
            · simp only [sx_cc, Classical.not_not] at g; try simp only [cmp_eq, cmp_ge, cmp_lt, cmp_gt, cmp_le, Int.cast_ofNat_Int] at g
              conv => whnf
              refine ⟨fun g => ?_, fun g => ?_⟩
              · simp only [sx_cc, Classical.not_not] at g; try simp only [cmp_eq, cmp_ge, cmp_lt, cmp_gt, cmp_le, Int.cast_ofNat_Int] at g
                conv => whnf
                refine ⟨fun g => ?_, fun g => ?_⟩
                · simp only [sx_cc, Classical.not_not] at g; try simp only [cmp_eq, cmp_ge, cmp_lt, cmp_gt, cmp_le, Int.cast_ofNat_Int] at g
                  conv => whnf
                  exfalso
                  omega
                · simp only [sx_cc, Classical.not_not] at g; try simp only [cmp_eq, cmp_ge, cmp_lt, cmp_gt, cmp_le, Int.cast_ofNat_Int] at g
                  conv => whnf
                  refine ⟨⟨by omega, by omega⟩, ?_⟩
                  conv => whnf
                  refine ⟨(by first | assumption | rfl), ?_⟩
                  try simp (disch := omega) only [Int.cast_ofNat_Int, up_s, up_a, up_i, mp_a, mp_ge, cp_a, o0, o1, t15, t16, t17, t18, f0, f1, elo, ehi, e11, e12, e13, e14, e38, ep15, ep16, ep17, ep18]
                  conv => whnf
                  refine ⟨⟨by omega, by omega⟩, ?_⟩
                  conv => whnf
                  refine ⟨(by first | assumption | rfl), ?_⟩
                  try simp (disch := omega) only [Int.cast_ofNat_Int, up_s, up_a, up_i, mp_a, mp_ge, cp_a, o0, o1, t15, t16, t17, t18, f0, f1, elo, ehi, e11, e12, e13, e14, e38, ep15, ep16, ep17, ep18]
                  conv => whnf
                  refine ⟨⟨by omega, by omega⟩, ?_⟩
                  conv => whnf
                  refine ⟨sx_ixI (by first | assumption | rfl) (by omega) (by omega), ?_⟩
                  try simp (disch := omega) only [Int.cast_ofNat_Int, up_s, up_a, up_i, mp_a, mp_ge, cp_a, o0, o1, t15, t16, t17, t18, f0, f1, elo, ehi, e11, e12, e13, e14, e38, ep15, ep16, ep17, ep18]
                  conv => whnf
                  refine ⟨(by first | assumption | rfl), ?_⟩
                  try simp (disch := omega) only [Int.cast_ofNat_Int, up_s, up_a, up_i, mp_a, mp_ge, cp_a, o0, o1, t15, t16, t17, t18, f0, f1, elo, ehi, e11, e12, e13, e14, e38, ep15, ep16, ep17, ep18]
                  conv => whnf
                  refine ⟨sx_ixI (by first | assumption | rfl) (by omega) (by omega), ?_⟩
                  try simp (disch := omega) only [Int.cast_ofNat_Int, up_s, up_a, up_i, mp_a, mp_ge, cp_a, o0, o1, t15, t16, t17, t18, f0, f1, elo, ehi, e11, e12, e13, e14, e38, ep15, ep16, ep17, ep18]
                  conv => whnf
                  refine ⟨Nat.le_of_ble_eq_true rfl, Nat.le_of_ble_eq_true rfl, (by first | assumption | rfl), ?_⟩
                  refine c_Kjoined (hsc.1 _ (by omega) (by omega)) (hsc.1 _ (by omega) (by omega)) (by omega) (fun v hve => ?_) (fun hve => ?_)
                  · skip
                    conv => whnf
                    refine ⟨sx_ixI (by first | assumption | rfl) (by omega) (by omega), ?_⟩
                    conv => whnf
                    refine ⟨⟨by omega, by omega⟩, ?_⟩
                    conv => whnf
                    refine ⟨_, ?_, ⟨rfl, _, _, _, rfl, rfl, ?_, rfl⟩⟩
                    · omega
                    · obtain ⟨hw0, hw1, hwl, hwc⟩ := hw (by omega)
                      rcases hwc with ⟨c1, c2, c3, c4, c5, c6, c7⟩ | ⟨c1, c2, c3, c4, c5, c6, c7⟩ | ⟨c1, c2, c3, c4, c5, c6⟩ | ⟨c1, c2, c3, c4, c5, c6, c7⟩
                      · first | (exfalso; omega) | exact ⟨heq.upv, hsc.upv (v := σ (p + 12) i) c4, by omega, by omega, by omega, CV_s hi0 hcv hwl c6 (by omega) c7 (fun g _ => by unfold fOp; rw [if_pos c2, c3])⟩
                      · first | (exfalso; omega) | exact ⟨heq.upv, hsc.upv (hnb _ (by omega) (by omega)), by omega, by omega, by omega, CV_s hi0 hcv hwl c6 (by omega) c7 (fun g _ => by unfold fOp; rw [if_neg (by omega), if_pos c3, c4, hnm _ c1 c2])⟩
                      · first | (exfalso; omega) | exact ⟨heq.upv, hsc.upv (by split <;> exact ⟨by decide, by decide⟩), by omega, by omega, by omega, CV_s hi0 hcv hwl (by omega) (by omega) c6 (fun g hg => by unfold fOp fB; rw [if_neg (by omega), if_neg (by omega), if_pos c2, c4, ← hg (dp i - 1) (by omega) (by omega)]; first | (rw [if_pos (by omega)]; rfl) | (rw [if_neg (by omega)]; rfl))⟩
                      · have c9 : 3 ≤ fKd (σ (p + 11) i) := by unfold fKd; repeat (first | omega | split)
                        have c7' : ix (i + 1) = fun j => if j = dp i + -1 - 1 then i else ix i j := by rw [c7, show dp i + -1 - 1 = dp i - 2 by omega]
                        first | (exfalso; omega) | exact ⟨heq.upv, hsc.upv (fJo_bd (hsc.1 _ (by omega) (by omega)) (hsc.1 _ (by omega) (by omega)) hve), by omega, by omega, by omega, CV_s hi0 hcv hwl (by omega) (by omega) c7' (fun g hg => by rw [fOp_jo (k := fKd (σ (p + 11) i)) c9 c2, c4, c5, ← hg (dp i - 2) (by omega) (by omega), ← hg (dp i - 1) (by omega) (by omega), show dp i - 2 = dp i + -1 - 1 by omega, show dp i - 1 = dp i + -1 by omega]; exact hve)⟩ | exact ⟨heq.upf.upv, (hsc.upf (Or.inr rfl)).upv ⟨by decide, by decide⟩, by omega, by omega, by omega, CV_f hi0 hsc.2 hcv (fun g hg => by rw [fOp_jo (k := fKd (σ (p + 11) i)) c9 c2, c4, c5, ← hg (dp i - 2) (by omega) (by omega), ← hg (dp i - 1) (by omega) (by omega), show dp i - 2 = dp i + -1 - 1 by omega, show dp i - 1 = dp i + -1 by omega]; exact hve)⟩
                  · skip
                    conv => whnf
                    refine ⟨sx_ixI (by first | assumption | rfl) (by omega) (by omega), ?_⟩
                    conv => whnf
                    refine ⟨⟨by omega, by omega⟩, ?_⟩
                    conv => whnf
                    refine ⟨_, ?_, ⟨rfl, _, _, _, rfl, rfl, ?_, rfl⟩⟩
                    · omega
                    · obtain ⟨hw0, hw1, hwl, hwc⟩ := hw (by omega)
                      rcases hwc with ⟨c1, c2, c3, c4, c5, c6, c7⟩ | ⟨c1, c2, c3, c4, c5, c6, c7⟩ | ⟨c1, c2, c3, c4, c5, c6⟩ | ⟨c1, c2, c3, c4, c5, c6, c7⟩
                      · first | (exfalso; omega) | exact ⟨heq.upv, hsc.upv (v := σ (p + 12) i) c4, by omega, by omega, by omega, CV_s hi0 hcv hwl c6 (by omega) c7 (fun g _ => by unfold fOp; rw [if_pos c2, c3])⟩
                      · first | (exfalso; omega) | exact ⟨heq.upv, hsc.upv (hnb _ (by omega) (by omega)), by omega, by omega, by omega, CV_s hi0 hcv hwl c6 (by omega) c7 (fun g _ => by unfold fOp; rw [if_neg (by omega), if_pos c3, c4, hnm _ c1 c2])⟩
                      · first | (exfalso; omega) | exact ⟨heq.upv, hsc.upv (by split <;> exact ⟨by decide, by decide⟩), by omega, by omega, by omega, CV_s hi0 hcv hwl (by omega) (by omega) c6 (fun g hg => by unfold fOp fB; rw [if_neg (by omega), if_neg (by omega), if_pos c2, c4, ← hg (dp i - 1) (by omega) (by omega)]; first | (rw [if_pos (by omega)]; rfl) | (rw [if_neg (by omega)]; rfl))⟩
                      · have c9 : 3 ≤ fKd (σ (p + 11) i) := by unfold fKd; repeat (first | omega | split)
                        have c7' : ix (i + 1) = fun j => if j = dp i + -1 - 1 then i else ix i j := by rw [c7, show dp i + -1 - 1 = dp i - 2 by omega]
                        first | (exfalso; omega) | exact ⟨heq.upv, hsc.upv (fJo_bd (hsc.1 _ (by omega) (by omega)) (hsc.1 _ (by omega) (by omega)) hve), by omega, by omega, by omega, CV_s hi0 hcv hwl (by omega) (by omega) c7' (fun g hg => by rw [fOp_jo (k := fKd (σ (p + 11) i)) c9 c2, c4, c5, ← hg (dp i - 2) (by omega) (by omega), ← hg (dp i - 1) (by omega) (by omega), show dp i - 2 = dp i + -1 - 1 by omega, show dp i - 1 = dp i + -1 by omega]; exact hve)⟩ | exact ⟨heq.upf.upv, (hsc.upf (Or.inr rfl)).upv ⟨by decide, by decide⟩, by omega, by omega, by omega, CV_f hi0 hsc.2 hcv (fun g hg => by rw [fOp_jo (k := fKd (σ (p + 11) i)) c9 c2, c4, c5, ← hg (dp i - 2) (by omega) (by omega), ← hg (dp i - 1) (by omega) (by omega), show dp i - 2 = dp i + -1 - 1 by omega, show dp i - 1 = dp i + -1 by omega]; exact hve)⟩
              · simp only [sx_cc, Classical.not_not] at g; try simp only [cmp_eq, cmp_ge, cmp_lt, cmp_gt, cmp_le, Int.cast_ofNat_Int] at g
                conv => whnf
                refine ⟨fun g => ?_, fun g => ?_⟩
                · simp only [sx_cc, Classical.not_not] at g; try simp only [cmp_eq, cmp_ge, cmp_lt, cmp_gt, cmp_le, Int.cast_ofNat_Int] at g
                  conv => whnf
                  refine ⟨fun g => ?_, fun g => ?_⟩
                  · simp only [sx_cc, Classical.not_not] at g; try simp only [cmp_eq, cmp_ge, cmp_lt, cmp_gt, cmp_le, Int.cast_ofNat_Int] at g
                    conv => whnf
                    exfalso
                    omega
                  · simp only [sx_cc, Classical.not_not] at g; try simp only [cmp_eq, cmp_ge, cmp_lt, cmp_gt, cmp_le, Int.cast_ofNat_Int] at g
                    conv => whnf
                    refine ⟨⟨by omega, by omega⟩, ?_⟩
                    conv => whnf
                    refine ⟨(by first | assumption | rfl), ?_⟩
                    try simp (disch := omega) only [Int.cast_ofNat_Int, up_s, up_a, up_i, mp_a, mp_ge, cp_a, o0, o1, t15, t16, t17, t18, f0, f1, elo, ehi, e11, e12, e13, e14, e38, ep15, ep16, ep17, ep18]
                    conv => whnf
                    refine ⟨⟨by omega, by omega⟩, ?_⟩
                    conv => whnf
                    refine ⟨(by first | assumption | rfl), ?_⟩
                    try simp (disch := omega) only [Int.cast_ofNat_Int, up_s, up_a, up_i, mp_a, mp_ge, cp_a, o0, o1, t15, t16, t17, t18, f0, f1, elo, ehi, e11, e12, e13, e14, e38, ep15, ep16, ep17, ep18]
                    conv => whnf
                    refine ⟨⟨by omega, by omega⟩, ?_⟩
                    conv => whnf
                    refine ⟨sx_ixI (by first | assumption | rfl) (by omega) (by omega), ?_⟩
                    try simp (disch := omega) only [Int.cast_ofNat_Int, up_s, up_a, up_i, mp_a, mp_ge, cp_a, o0, o1, t15, t16, t17, t18, f0, f1, elo, ehi, e11, e12, e13, e14, e38, ep15, ep16, ep17, ep18]
                    conv => whnf
                    refine ⟨(by first | assumption | rfl), ?_⟩
                    try simp (disch := omega) only [Int.cast_ofNat_Int, up_s, up_a, up_i, mp_a, mp_ge, cp_a, o0, o1, t15, t16, t17, t18, f0, f1, elo, ehi, e11, e12, e13, e14, e38, ep15, ep16, ep17, ep18]
                    conv => whnf
                    refine ⟨sx_ixI (by first | assumption | rfl) (by omega) (by omega), ?_⟩
                    try simp (disch := omega) only [Int.cast_ofNat_Int, up_s, up_a, up_i, mp_a, mp_ge, cp_a, o0, o1, t15, t16, t17, t18, f0, f1, elo, ehi, e11, e12, e13, e14, e38, ep15, ep16, ep17, ep18]
                    conv => whnf
                    refine ⟨Nat.le_of_ble_eq_true rfl, Nat.le_of_ble_eq_true rfl, (by first | assumption | rfl), ?_⟩
                    refine c_Kjoined (hsc.1 _ (by omega) (by omega)) (hsc.1 _ (by omega) (by omega)) (by omega) (fun v hve => ?_) (fun hve => ?_)
                    · skip
                      conv => whnf
                      refine ⟨sx_ixI (by first | assumption | rfl) (by omega) (by omega), ?_⟩
                      conv => whnf
                      refine ⟨⟨by omega, by omega⟩, ?_⟩
                      conv => whnf
                      refine ⟨_, ?_, ⟨rfl, _, _, _, rfl, rfl, ?_, rfl⟩⟩
                      · omega
                      · obtain ⟨hw0, hw1, hwl, hwc⟩ := hw (by omega)
                        rcases hwc with ⟨c1, c2, c3, c4, c5, c6, c7⟩ | ⟨c1, c2, c3, c4, c5, c6, c7⟩ | ⟨c1, c2, c3, c4, c5, c6⟩ | ⟨c1, c2, c3, c4, c5, c6, c7⟩
                        · first | (exfalso; omega) | exact ⟨heq.upv, hsc.upv (v := σ (p + 12) i) c4, by omega, by omega, by omega, CV_s hi0 hcv hwl c6 (by omega) c7 (fun g _ => by unfold fOp; rw [if_pos c2, c3])⟩
                        · first | (exfalso; omega) | exact ⟨heq.upv, hsc.upv (hnb _ (by omega) (by omega)), by omega, by omega, by omega, CV_s hi0 hcv hwl c6 (by omega) c7 (fun g _ => by unfold fOp; rw [if_neg (by omega), if_pos c3, c4, hnm _ c1 c2])⟩
                        · first | (exfalso; omega) | exact ⟨heq.upv, hsc.upv (by split <;> exact ⟨by decide, by decide⟩), by omega, by omega, by omega, CV_s hi0 hcv hwl (by omega) (by omega) c6 (fun g hg => by unfold fOp fB; rw [if_neg (by omega), if_neg (by omega), if_pos c2, c4, ← hg (dp i - 1) (by omega) (by omega)]; first | (rw [if_pos (by omega)]; rfl) | (rw [if_neg (by omega)]; rfl))⟩
                        · have c9 : 3 ≤ fKd (σ (p + 11) i) := by unfold fKd; repeat (first | omega | split)
                          have c7' : ix (i + 1) = fun j => if j = dp i + -1 - 1 then i else ix i j := by rw [c7, show dp i + -1 - 1 = dp i - 2 by omega]
                          first | (exfalso; omega) | exact ⟨heq.upv, hsc.upv (fJo_bd (hsc.1 _ (by omega) (by omega)) (hsc.1 _ (by omega) (by omega)) hve), by omega, by omega, by omega, CV_s hi0 hcv hwl (by omega) (by omega) c7' (fun g hg => by rw [fOp_jo (k := fKd (σ (p + 11) i)) c9 c2, c4, c5, ← hg (dp i - 2) (by omega) (by omega), ← hg (dp i - 1) (by omega) (by omega), show dp i - 2 = dp i + -1 - 1 by omega, show dp i - 1 = dp i + -1 by omega]; exact hve)⟩ | exact ⟨heq.upf.upv, (hsc.upf (Or.inr rfl)).upv ⟨by decide, by decide⟩, by omega, by omega, by omega, CV_f hi0 hsc.2 hcv (fun g hg => by rw [fOp_jo (k := fKd (σ (p + 11) i)) c9 c2, c4, c5, ← hg (dp i - 2) (by omega) (by omega), ← hg (dp i - 1) (by omega) (by omega), show dp i - 2 = dp i + -1 - 1 by omega, show dp i - 1 = dp i + -1 by omega]; exact hve)⟩
                    · skip
                      conv => whnf
                      refine ⟨sx_ixI (by first | assumption | rfl) (by omega) (by omega), ?_⟩
                      conv => whnf
                      refine ⟨⟨by omega, by omega⟩, ?_⟩
                      conv => whnf
                      refine ⟨_, ?_, ⟨rfl, _, _, _, rfl, rfl, ?_, rfl⟩⟩
                      · omega
                      · obtain ⟨hw0, hw1, hwl, hwc⟩ := hw (by omega)
                        rcases hwc with ⟨c1, c2, c3, c4, c5, c6, c7⟩ | ⟨c1, c2, c3, c4, c5, c6, c7⟩ | ⟨c1, c2, c3, c4, c5, c6⟩ | ⟨c1, c2, c3, c4, c5, c6, c7⟩
                        · first | (exfalso; omega) | exact ⟨heq.upv, hsc.upv (v := σ (p + 12) i) c4, by omega, by omega, by omega, CV_s hi0 hcv hwl c6 (by omega) c7 (fun g _ => by unfold fOp; rw [if_pos c2, c3])⟩
                        · first | (exfalso; omega) | exact ⟨heq.upv, hsc.upv (hnb _ (by omega) (by omega)), by omega, by omega, by omega, CV_s hi0 hcv hwl c6 (by omega) c7 (fun g _ => by unfold fOp; rw [if_neg (by omega), if_pos c3, c4, hnm _ c1 c2])⟩
                        · first | (exfalso; omega) | exact ⟨heq.upv, hsc.upv (by split <;> exact ⟨by decide, by decide⟩), by omega, by omega, by omega, CV_s hi0 hcv hwl (by omega) (by omega) c6 (fun g hg => by unfold fOp fB; rw [if_neg (by omega), if_neg (by omega), if_pos c2, c4, ← hg (dp i - 1) (by omega) (by omega)]; first | (rw [if_pos (by omega)]; rfl) | (rw [if_neg (by omega)]; rfl))⟩
                        · have c9 : 3 ≤ fKd (σ (p + 11) i) := by unfold fKd; repeat (first | omega | split)
                          have c7' : ix (i + 1) = fun j => if j = dp i + -1 - 1 then i else ix i j := by rw [c7, show dp i + -1 - 1 = dp i - 2 by omega]
                          first | (exfalso; omega) | exact ⟨heq.upv, hsc.upv (fJo_bd (hsc.1 _ (by omega) (by omega)) (hsc.1 _ (by omega) (by omega)) hve), by omega, by omega, by omega, CV_s hi0 hcv hwl (by omega) (by omega) c7' (fun g hg => by rw [fOp_jo (k := fKd (σ (p + 11) i)) c9 c2, c4, c5, ← hg (dp i - 2) (by omega) (by omega), ← hg (dp i - 1) (by omega) (by omega), show dp i - 2 = dp i + -1 - 1 by omega, show dp i - 1 = dp i + -1 by omega]; exact hve)⟩ | exact ⟨heq.upf.upv, (hsc.upf (Or.inr rfl)).upv ⟨by decide, by decide⟩, by omega, by omega, by omega, CV_f hi0 hsc.2 hcv (fun g hg => by rw [fOp_jo (k := fKd (σ (p + 11) i)) c9 c2, c4, c5, ← hg (dp i - 2) (by omega) (by omega), ← hg (dp i - 1) (by omega) (by omega), show dp i - 2 = dp i + -1 - 1 by omega, show dp i - 1 = dp i + -1 by omega]; exact hve)⟩
                · simp only [sx_cc, Classical.not_not] at g; try simp only [cmp_eq, cmp_ge, cmp_lt, cmp_gt, cmp_le, Int.cast_ofNat_Int] at g
                  conv => whnf
                  refine ⟨(by first | assumption | rfl), ?_⟩
                  try simp (disch := omega) only [Int.cast_ofNat_Int, up_s, up_a, up_i, mp_a, mp_ge, cp_a, o0, o1, t15, t16, t17, t18, f0, f1, elo, ehi, e11, e12, e13, e14, e38, ep15, ep16, ep17, ep18]
                  conv => whnf
                  refine ⟨⟨by omega, by omega⟩, ?_⟩
                  conv => whnf
                  refine ⟨(by first | assumption | rfl), ?_⟩
                  try simp (disch := omega) only [Int.cast_ofNat_Int, up_s, up_a, up_i, mp_a, mp_ge, cp_a, o0, o1, t15, t16, t17, t18, f0, f1, elo, ehi, e11, e12, e13, e14, e38, ep15, ep16, ep17, ep18]
                  conv => whnf
                  refine ⟨⟨by omega, by omega⟩, ?_⟩
                  conv => whnf
                  refine ⟨sx_ixI (by first | assumption | rfl) (by omega) (by omega), ?_⟩
                  try simp (disch := omega) only [Int.cast_ofNat_Int, up_s, up_a, up_i, mp_a, mp_ge, cp_a, o0, o1, t15, t16, t17, t18, f0, f1, elo, ehi, e11, e12, e13, e14, e38, ep15, ep16, ep17, ep18]
                  conv => whnf
                  refine ⟨fun g => ?_, fun g => ?_⟩
                  · simp only [sx_cc, Classical.not_not] at g; try simp only [cmp_eq, cmp_ge, cmp_lt, cmp_gt, cmp_le, Int.cast_ofNat_Int] at g
                    conv => whnf
                    refine ⟨Nat.le_of_ble_eq_true rfl, Nat.le_of_ble_eq_true rfl, ?_⟩
                    refine c_Ktruth ?_
                    conv => whnf
                    refine ⟨sx_ixI (by first | assumption | rfl) (by omega) (by omega), ?_⟩
                    conv => whnf
                    refine ⟨⟨by omega, by omega⟩, ?_⟩
                    conv => whnf
                    refine ⟨_, ?_, ⟨rfl, _, _, _, rfl, rfl, ?_, rfl⟩⟩
                    · omega
                    · obtain ⟨hw0, hw1, hwl, hwc⟩ := hw (by omega)
                      rcases hwc with ⟨c1, c2, c3, c4, c5, c6, c7⟩ | ⟨c1, c2, c3, c4, c5, c6, c7⟩ | ⟨c1, c2, c3, c4, c5, c6⟩ | ⟨c1, c2, c3, c4, c5, c6, c7⟩
                      · first | (exfalso; omega) | exact ⟨heq.upv, hsc.upv (v := σ (p + 12) i) c4, by omega, by omega, by omega, CV_s hi0 hcv hwl c6 (by omega) c7 (fun g _ => by unfold fOp; rw [if_pos c2, c3])⟩
                      · first | (exfalso; omega) | exact ⟨heq.upv, hsc.upv (hnb _ (by omega) (by omega)), by omega, by omega, by omega, CV_s hi0 hcv hwl c6 (by omega) c7 (fun g _ => by unfold fOp; rw [if_neg (by omega), if_pos c3, c4, hnm _ c1 c2])⟩
                      · first | (exfalso; omega) | exact ⟨heq.upv, hsc.upv (by split <;> exact ⟨by decide, by decide⟩), by omega, by omega, by omega, CV_s hi0 hcv hwl (by omega) (by omega) c6 (fun g hg => by unfold fOp fB; rw [if_neg (by omega), if_neg (by omega), if_pos c2, c4, ← hg (dp i - 1) (by omega) (by omega)]; first | (rw [if_pos (by omega)]; rfl) | (rw [if_neg (by omega)]; rfl))⟩
                      · have c9 : 3 ≤ fKd (σ (p + 11) i) := by unfold fKd; repeat (first | omega | split)
                        have c7' : ix (i + 1) = fun j => if j = dp i + -1 - 1 then i else ix i j := by rw [c7, show dp i + -1 - 1 = dp i - 2 by omega]
                        first | (exfalso; omega) | exact ⟨heq.upv, hsc.upv (fJo_bd (hsc.1 _ (by omega) (by omega)) (hsc.1 _ (by omega) (by omega)) hve), by omega, by omega, by omega, CV_s hi0 hcv hwl (by omega) (by omega) c7' (fun g hg => by rw [fOp_jo (k := fKd (σ (p + 11) i)) c9 c2, c4, c5, ← hg (dp i - 2) (by omega) (by omega), ← hg (dp i - 1) (by omega) (by omega), show dp i - 2 = dp i + -1 - 1 by omega, show dp i - 1 = dp i + -1 by omega]; exact hve)⟩ | exact ⟨heq.upf.upv, (hsc.upf (Or.inr rfl)).upv ⟨by decide, by decide⟩, by omega, by omega, by omega, CV_f hi0 hsc.2 hcv (fun g hg => by rw [fOp_jo (k := fKd (σ (p + 11) i)) c9 c2, c4, c5, ← hg (dp i - 2) (by omega) (by omega), ← hg (dp i - 1) (by omega) (by omega), show dp i - 2 = dp i + -1 - 1 by omega, show dp i - 1 = dp i + -1 by omega]; exact hve)⟩
                  · simp only [sx_cc, Classical.not_not] at g; try simp only [cmp_eq, cmp_ge, cmp_lt, cmp_gt, cmp_le, Int.cast_ofNat_Int] at g
                    conv => whnf
                    refine ⟨Nat.le_of_ble_eq_true rfl, Nat.le_of_ble_eq_true rfl, ?_⟩
                    refine c_Ktruth ?_
                    conv => whnf
                    refine ⟨sx_ixI (by first | assumption | rfl) (by omega) (by omega), ?_⟩
                    conv => whnf
                    refine ⟨⟨by omega, by omega⟩, ?_⟩
                    conv => whnf
                    refine ⟨_, ?_, ⟨rfl, _, _, _, rfl, rfl, ?_, rfl⟩⟩
                    · omega
                    · obtain ⟨hw0, hw1, hwl, hwc⟩ := hw (by omega)
                      rcases hwc with ⟨c1, c2, c3, c4, c5, c6, c7⟩ | ⟨c1, c2, c3, c4, c5, c6, c7⟩ | ⟨c1, c2, c3, c4, c5, c6⟩ | ⟨c1, c2, c3, c4, c5, c6, c7⟩
                      · first | (exfalso; omega) | exact ⟨heq.upv, hsc.upv (v := σ (p + 12) i) c4, by omega, by omega, by omega, CV_s hi0 hcv hwl c6 (by omega) c7 (fun g _ => by unfold fOp; rw [if_pos c2, c3])⟩
                      · first | (exfalso; omega) | exact ⟨heq.upv, hsc.upv (hnb _ (by omega) (by omega)), by omega, by omega, by omega, CV_s hi0 hcv hwl c6 (by omega) c7 (fun g _ => by unfold fOp; rw [if_neg (by omega), if_pos c3, c4, hnm _ c1 c2])⟩
                      · first | (exfalso; omega) | exact ⟨heq.upv, hsc.upv (by split <;> exact ⟨by decide, by decide⟩), by omega, by omega, by omega, CV_s hi0 hcv hwl (by omega) (by omega) c6 (fun g hg => by unfold fOp fB; rw [if_neg (by omega), if_neg (by omega), if_pos c2, c4, ← hg (dp i - 1) (by omega) (by omega)]; first | (rw [if_pos (by omega)]; rfl) | (rw [if_neg (by omega)]; rfl))⟩
                      · have c9 : 3 ≤ fKd (σ (p + 11) i) := by unfold fKd; repeat (first | omega | split)
                        have c7' : ix (i + 1) = fun j => if j = dp i + -1 - 1 then i else ix i j := by rw [c7, show dp i + -1 - 1 = dp i - 2 by omega]
                        first | (exfalso; omega) | exact ⟨heq.upv, hsc.upv (fJo_bd (hsc.1 _ (by omega) (by omega)) (hsc.1 _ (by omega) (by omega)) hve), by omega, by omega, by omega, CV_s hi0 hcv hwl (by omega) (by omega) c7' (fun g hg => by rw [fOp_jo (k := fKd (σ (p + 11) i)) c9 c2, c4, c5, ← hg (dp i - 2) (by omega) (by omega), ← hg (dp i - 1) (by omega) (by omega), show dp i - 2 = dp i + -1 - 1 by omega, show dp i - 1 = dp i + -1 by omega]; exact hve)⟩ | exact ⟨heq.upf.upv, (hsc.upf (Or.inr rfl)).upv ⟨by decide, by decide⟩, by omega, by omega, by omega, CV_f hi0 hsc.2 hcv (fun g hg => by rw [fOp_jo (k := fKd (σ (p + 11) i)) c9 c2, c4, c5, ← hg (dp i - 2) (by omega) (by omega), ← hg (dp i - 1) (by omega) (by omega), show dp i - 2 = dp i + -1 - 1 by omega, show dp i - 1 = dp i + -1 by omega]; exact hve)⟩
            · simp only [sx_cc, Classical.not_not] at g; try simp only [cmp_eq, cmp_ge, cmp_lt, cmp_gt, cmp_le, Int.cast_ofNat_Int] at g
              conv => whnf
              refine ⟨fun g => ?_, fun g => ?_⟩
              · simp only [sx_cc, Classical.not_not] at g; try simp only [cmp_eq, cmp_ge, cmp_lt, cmp_gt, cmp_le, Int.cast_ofNat_Int] at g
                conv => whnf
                refine ⟨fun g => ?_, fun g => ?_⟩
                · simp only [sx_cc, Classical.not_not] at g; try simp only [cmp_eq, cmp_ge, cmp_lt, cmp_gt, cmp_le, Int.cast_ofNat_Int] at g
                  conv => whnf
                  refine ⟨fun g => ?_, fun g => ?_⟩
                  · simp only [sx_cc, Classical.not_not] at g; try simp only [cmp_eq, cmp_ge, cmp_lt, cmp_gt, cmp_le, Int.cast_ofNat_Int] at g
                    conv => whnf
                    exfalso
                    omega
                  · simp only [sx_cc, Classical.not_not] at g; try simp only [cmp_eq, cmp_ge, cmp_lt, cmp_gt, cmp_le, Int.cast_ofNat_Int] at g
                    conv => whnf
                    refine ⟨⟨by omega, by omega⟩, ?_⟩
                    conv => whnf
                    refine ⟨(by first | assumption | rfl), ?_⟩
                    try simp (disch := omega) only [Int.cast_ofNat_Int, up_s, up_a, up_i, mp_a, mp_ge, cp_a, o0, o1, t15, t16, t17, t18, f0, f1, elo, ehi, e11, e12, e13, e14, e38, ep15, ep16, ep17, ep18]
                    conv => whnf
                    refine ⟨⟨by omega, by omega⟩, ?_⟩
                    conv => whnf
                    refine ⟨(by first | assumption | rfl), ?_⟩
                    try simp (disch := omega) only [Int.cast_ofNat_Int, up_s, up_a, up_i, mp_a, mp_ge, cp_a, o0, o1, t15, t16, t17, t18, f0, f1, elo, ehi, e11, e12, e13, e14, e38, ep15, ep16, ep17, ep18]
                    conv => whnf
                    refine ⟨⟨by omega, by omega⟩, ?_⟩
                    conv => whnf
                    refine ⟨sx_ixI (by first | assumption | rfl) (by omega) (by omega), ?_⟩
                    try simp (disch := omega) only [Int.cast_ofNat_Int, up_s, up_a, up_i, mp_a, mp_ge, cp_a, o0, o1, t15, t16, t17, t18, f0, f1, elo, ehi, e11, e12, e13, e14, e38, ep15, ep16, ep17, ep18]
                    conv => whnf
                    refine ⟨(by first | assumption | rfl), ?_⟩
                    try simp (disch := omega) only [Int.cast_ofNat_Int, up_s, up_a, up_i, mp_a, mp_ge, cp_a, o0, o1, t15, t16, t17, t18, f0, f1, elo, ehi, e11, e12, e13, e14, e38, ep15, ep16, ep17, ep18]
                    conv => whnf
                    refine ⟨sx_ixI (by first | assumption | rfl) (by omega) (by omega), ?_⟩
                    try simp (disch := omega) only [Int.cast_ofNat_Int, up_s, up_a, up_i, mp_a, mp_ge, cp_a, o0, o1, t15, t16, t17, t18, f0, f1, elo, ehi, e11, e12, e13, e14, e38, ep15, ep16, ep17, ep18]
                    conv => whnf
                    refine ⟨Nat.le_of_ble_eq_true rfl, Nat.le_of_ble_eq_true rfl, (by first | assumption | rfl), ?_⟩
                    refine c_Kjoined (hsc.1 _ (by omega) (by omega)) (hsc.1 _ (by omega) (by omega)) (by omega) (fun v hve => ?_) (fun hve => ?_)
                    · skip
                      conv => whnf
                      refine ⟨sx_ixI (by first | assumption | rfl) (by omega) (by omega), ?_⟩
                      conv => whnf
                      refine ⟨⟨by omega, by omega⟩, ?_⟩
                      conv => whnf
                      refine ⟨_, ?_, ⟨rfl, _, _, _, rfl, rfl, ?_, rfl⟩⟩
                      · omega
                      · obtain ⟨hw0, hw1, hwl, hwc⟩ := hw (by omega)
                        rcases hwc with ⟨c1, c2, c3, c4, c5, c6, c7⟩ | ⟨c1, c2, c3, c4, c5, c6, c7⟩ | ⟨c1, c2, c3, c4, c5, c6⟩ | ⟨c1, c2, c3, c4, c5, c6, c7⟩
                        · first | (exfalso; omega) | exact ⟨heq.upv, hsc.upv (v := σ (p + 12) i) c4, by omega, by omega, by omega, CV_s hi0 hcv hwl c6 (by omega) c7 (fun g _ => by unfold fOp; rw [if_pos c2, c3])⟩
                        · first | (exfalso; omega) | exact ⟨heq.upv, hsc.upv (hnb _ (by omega) (by omega)), by omega, by omega, by omega, CV_s hi0 hcv hwl c6 (by omega) c7 (fun g _ => by unfold fOp; rw [if_neg (by omega), if_pos c3, c4, hnm _ c1 c2])⟩
                        · first | (exfalso; omega) | exact ⟨heq.upv, hsc.upv (by split <;> exact ⟨by decide, by decide⟩), by omega, by omega, by omega, CV_s hi0 hcv hwl (by omega) (by omega) c6 (fun g hg => by unfold fOp fB; rw [if_neg (by omega), if_neg (by omega), if_pos c2, c4, ← hg (dp i - 1) (by omega) (by omega)]; first | (rw [if_pos (by omega)]; rfl) | (rw [if_neg (by omega)]; rfl))⟩
                        · have c9 : 3 ≤ fKd (σ (p + 11) i) := by unfold fKd; repeat (first | omega | split)
                          have c7' : ix (i + 1) = fun j => if j = dp i + -1 - 1 then i else ix i j := by rw [c7, show dp i + -1 - 1 = dp i - 2 by omega]
                          first | (exfalso; omega) | exact ⟨heq.upv, hsc.upv (fJo_bd (hsc.1 _ (by omega) (by omega)) (hsc.1 _ (by omega) (by omega)) hve), by omega, by omega, by omega, CV_s hi0 hcv hwl (by omega) (by omega) c7' (fun g hg => by rw [fOp_jo (k := fKd (σ (p + 11) i)) c9 c2, c4, c5, ← hg (dp i - 2) (by omega) (by omega), ← hg (dp i - 1) (by omega) (by omega), show dp i - 2 = dp i + -1 - 1 by omega, show dp i - 1 = dp i + -1 by omega]; exact hve)⟩ | exact ⟨heq.upf.upv, (hsc.upf (Or.inr rfl)).upv ⟨by decide, by decide⟩, by omega, by omega, by omega, CV_f hi0 hsc.2 hcv (fun g hg => by rw [fOp_jo (k := fKd (σ (p + 11) i)) c9 c2, c4, c5, ← hg (dp i - 2) (by omega) (by omega), ← hg (dp i - 1) (by omega) (by omega), show dp i - 2 = dp i + -1 - 1 by omega, show dp i - 1 = dp i + -1 by omega]; exact hve)⟩
                    · skip
                      conv => whnf
                      refine ⟨sx_ixI (by first | assumption | rfl) (by omega) (by omega), ?_⟩
                      conv => whnf
                      refine ⟨⟨by omega, by omega⟩, ?_⟩
                      conv => whnf
                      refine ⟨_, ?_, ⟨rfl, _, _, _, rfl, rfl, ?_, rfl⟩⟩
                      · omega
                      · obtain ⟨hw0, hw1, hwl, hwc⟩ := hw (by omega)
                        rcases hwc with ⟨c1, c2, c3, c4, c5, c6, c7⟩ | ⟨c1, c2, c3, c4, c5, c6, c7⟩ | ⟨c1, c2, c3, c4, c5, c6⟩ | ⟨c1, c2, c3, c4, c5, c6, c7⟩
                        · first | (exfalso; omega) | exact ⟨heq.upv, hsc.upv (v := σ (p + 12) i) c4, by omega, by omega, by omega, CV_s hi0 hcv hwl c6 (by omega) c7 (fun g _ => by unfold fOp; rw [if_pos c2, c3])⟩
                        · first | (exfalso; omega) | exact ⟨heq.upv, hsc.upv (hnb _ (by omega) (by omega)), by omega, by omega, by omega, CV_s hi0 hcv hwl c6 (by omega) c7 (fun g _ => by unfold fOp; rw [if_neg (by omega), if_pos c3, c4, hnm _ c1 c2])⟩
                        · first | (exfalso; omega) | exact ⟨heq.upv, hsc.upv (by split <;> exact ⟨by decide, by decide⟩), by omega, by omega, by omega, CV_s hi0 hcv hwl (by omega) (by omega) c6 (fun g hg => by unfold fOp fB; rw [if_neg (by omega), if_neg (by omega), if_pos c2, c4, ← hg (dp i - 1) (by omega) (by omega)]; first | (rw [if_pos (by omega)]; rfl) | (rw [if_neg (by omega)]; rfl))⟩
                        · have c9 : 3 ≤ fKd (σ (p + 11) i) := by unfold fKd; repeat (first | omega | split)
                          have c7' : ix (i + 1) = fun j => if j = dp i + -1 - 1 then i else ix i j := by rw [c7, show dp i + -1 - 1 = dp i - 2 by omega]
                          first | (exfalso; omega) | exact ⟨heq.upv, hsc.upv (fJo_bd (hsc.1 _ (by omega) (by omega)) (hsc.1 _ (by omega) (by omega)) hve), by omega, by omega, by omega, CV_s hi0 hcv hwl (by omega) (by omega) c7' (fun g hg => by rw [fOp_jo (k := fKd (σ (p + 11) i)) c9 c2, c4, c5, ← hg (dp i - 2) (by omega) (by omega), ← hg (dp i - 1) (by omega) (by omega), show dp i - 2 = dp i + -1 - 1 by omega, show dp i - 1 = dp i + -1 by omega]; exact hve)⟩ | exact ⟨heq.upf.upv, (hsc.upf (Or.inr rfl)).upv ⟨by decide, by decide⟩, by omega, by omega, by omega, CV_f hi0 hsc.2 hcv (fun g hg => by rw [fOp_jo (k := fKd (σ (p + 11) i)) c9 c2, c4, c5, ← hg (dp i - 2) (by omega) (by omega), ← hg (dp i - 1) (by omega) (by omega), show dp i - 2 = dp i + -1 - 1 by omega, show dp i - 1 = dp i + -1 by omega]; exact hve)⟩
                · simp only [sx_cc, Classical.not_not] at g; try simp only [cmp_eq, cmp_ge, cmp_lt, cmp_gt, cmp_le, Int.cast_ofNat_Int] at g
                  conv => whnf
                  refine ⟨fun g => ?_, fun g => ?_⟩
                  · simp only [sx_cc, Classical.not_not] at g; try simp only [cmp_eq, cmp_ge, cmp_lt, cmp_gt, cmp_le, Int.cast_ofNat_Int] at g
                    conv => whnf
                    refine ⟨fun g => ?_, fun g => ?_⟩
                    · simp only [sx_cc, Classical.not_not] at g; try simp only [cmp_eq, cmp_ge, cmp_lt, cmp_gt, cmp_le, Int.cast_ofNat_Int] at g
                      conv => whnf
                      exfalso
                      omega
                    · simp only [sx_cc, Classical.not_not] at g; try simp only [cmp_eq, cmp_ge, cmp_lt, cmp_gt, cmp_le, Int.cast_ofNat_Int] at g
                      conv => whnf
                      refine ⟨⟨by omega, by omega⟩, ?_⟩
                      conv => whnf
                      refine ⟨(by first | assumption | rfl), ?_⟩
                      try simp (disch := omega) only [Int.cast_ofNat_Int, up_s, up_a, up_i, mp_a, mp_ge, cp_a, o0, o1, t15, t16, t17, t18, f0, f1, elo, ehi, e11, e12, e13, e14, e38, ep15, ep16, ep17, ep18]
                      conv => whnf
                      refine ⟨⟨by omega, by omega⟩, ?_⟩
                      conv => whnf
                      refine ⟨(by first | assumption | rfl), ?_⟩
                      try simp (disch := omega) only [Int.cast_ofNat_Int, up_s, up_a, up_i, mp_a, mp_ge, cp_a, o0, o1, t15, t16, t17, t18, f0, f1, elo, ehi, e11, e12, e13, e14, e38, ep15, ep16, ep17, ep18]
                      conv => whnf
                      refine ⟨⟨by omega, by omega⟩, ?_⟩
                      conv => whnf
                      refine ⟨sx_ixI (by first | assumption | rfl) (by omega) (by omega), ?_⟩
                      try simp (disch := omega) only [Int.cast_ofNat_Int, up_s, up_a, up_i, mp_a, mp_ge, cp_a, o0, o1, t15, t16, t17, t18, f0, f1, elo, ehi, e11, e12, e13, e14, e38, ep15, ep16, ep17, ep18]
                      conv => whnf
                      refine ⟨(by first | assumption | rfl), ?_⟩
                      try simp (disch := omega) only [Int.cast_ofNat_Int, up_s, up_a, up_i, mp_a, mp_ge, cp_a, o0, o1, t15, t16, t17, t18, f0, f1, elo, ehi, e11, e12, e13, e14, e38, ep15, ep16, ep17, ep18]
                      conv => whnf
                      refine ⟨sx_ixI (by first | assumption | rfl) (by omega) (by omega), ?_⟩
                      try simp (disch := omega) only [Int.cast_ofNat_Int, up_s, up_a, up_i, mp_a, mp_ge, cp_a, o0, o1, t15, t16, t17, t18, f0, f1, elo, ehi, e11, e12, e13, e14, e38, ep15, ep16, ep17, ep18]
                      conv => whnf
                      refine ⟨Nat.le_of_ble_eq_true rfl, Nat.le_of_ble_eq_true rfl, (by first | assumption | rfl), ?_⟩
                      refine c_Kjoined (hsc.1 _ (by omega) (by omega)) (hsc.1 _ (by omega) (by omega)) (by omega) (fun v hve => ?_) (fun hve => ?_)
                      · skip
                        conv => whnf
                        refine ⟨sx_ixI (by first | assumption | rfl) (by omega) (by omega), ?_⟩
                        conv => whnf
                        refine ⟨⟨by omega, by omega⟩, ?_⟩
                        conv => whnf
                        refine ⟨_, ?_, ⟨rfl, _, _, _, rfl, rfl, ?_, rfl⟩⟩
                        · omega
                        · obtain ⟨hw0, hw1, hwl, hwc⟩ := hw (by omega)
                          rcases hwc with ⟨c1, c2, c3, c4, c5, c6, c7⟩ | ⟨c1, c2, c3, c4, c5, c6, c7⟩ | ⟨c1, c2, c3, c4, c5, c6⟩ | ⟨c1, c2, c3, c4, c5, c6, c7⟩
                          · first | (exfalso; omega) | exact ⟨heq.upv, hsc.upv (v := σ (p + 12) i) c4, by omega, by omega, by omega, CV_s hi0 hcv hwl c6 (by omega) c7 (fun g _ => by unfold fOp; rw [if_pos c2, c3])⟩
                          · first | (exfalso; omega) | exact ⟨heq.upv, hsc.upv (hnb _ (by omega) (by omega)), by omega, by omega, by omega, CV_s hi0 hcv hwl c6 (by omega) c7 (fun g _ => by unfold fOp; rw [if_neg (by omega), if_pos c3, c4, hnm _ c1 c2])⟩
                          · first | (exfalso; omega) | exact ⟨heq.upv, hsc.upv (by split <;> exact ⟨by decide, by decide⟩), by omega, by omega, by omega, CV_s hi0 hcv hwl (by omega) (by omega) c6 (fun g hg => by unfold fOp fB; rw [if_neg (by omega), if_neg (by omega), if_pos c2, c4, ← hg (dp i - 1) (by omega) (by omega)]; first | (rw [if_pos (by omega)]; rfl) | (rw [if_neg (by omega)]; rfl))⟩
                          · have c9 : 3 ≤ fKd (σ (p + 11) i) := by unfold fKd; repeat (first | omega | split)
                            have c7' : ix (i + 1) = fun j => if j = dp i + -1 - 1 then i else ix i j := by rw [c7, show dp i + -1 - 1 = dp i - 2 by omega]
                            first | (exfalso; omega) | exact ⟨heq.upv, hsc.upv (fJo_bd (hsc.1 _ (by omega) (by omega)) (hsc.1 _ (by omega) (by omega)) hve), by omega, by omega, by omega, CV_s hi0 hcv hwl (by omega) (by omega) c7' (fun g hg => by rw [fOp_jo (k := fKd (σ (p + 11) i)) c9 c2, c4, c5, ← hg (dp i - 2) (by omega) (by omega), ← hg (dp i - 1) (by omega) (by omega), show dp i - 2 = dp i + -1 - 1 by omega, show dp i - 1 = dp i + -1 by omega]; exact hve)⟩ | exact ⟨heq.upf.upv, (hsc.upf (Or.inr rfl)).upv ⟨by decide, by decide⟩, by omega, by omega, by omega, CV_f hi0 hsc.2 hcv (fun g hg => by rw [fOp_jo (k := fKd (σ (p + 11) i)) c9 c2, c4, c5, ← hg (dp i - 2) (by omega) (by omega), ← hg (dp i - 1) (by omega) (by omega), show dp i - 2 = dp i + -1 - 1 by omega, show dp i - 1 = dp i + -1 by omega]; exact hve)⟩
                      · skip
                        conv => whnf
                        refine ⟨sx_ixI (by first | assumption | rfl) (by omega) (by omega), ?_⟩
                        conv => whnf
                        refine ⟨⟨by omega, by omega⟩, ?_⟩
                        conv => whnf
                        refine ⟨_, ?_, ⟨rfl, _, _, _, rfl, rfl, ?_, rfl⟩⟩
                        · omega
                        · obtain ⟨hw0, hw1, hwl, hwc⟩ := hw (by omega)
                          rcases hwc with ⟨c1, c2, c3, c4, c5, c6, c7⟩ | ⟨c1, c2, c3, c4, c5, c6, c7⟩ | ⟨c1, c2, c3, c4, c5, c6⟩ | ⟨c1, c2, c3, c4, c5, c6, c7⟩
                          · first | (exfalso; omega) | exact ⟨heq.upv, hsc.upv (v := σ (p + 12) i) c4, by omega, by omega, by omega, CV_s hi0 hcv hwl c6 (by omega) c7 (fun g _ => by unfold fOp; rw [if_pos c2, c3])⟩
                          · first | (exfalso; omega) | exact ⟨heq.upv, hsc.upv (hnb _ (by omega) (by omega)), by omega, by omega, by omega, CV_s hi0 hcv hwl c6 (by omega) c7 (fun g _ => by unfold fOp; rw [if_neg (by omega), if_pos c3, c4, hnm _ c1 c2])⟩
                          · first | (exfalso; omega) | exact ⟨heq.upv, hsc.upv (by split <;> exact ⟨by decide, by decide⟩), by omega, by omega, by omega, CV_s hi0 hcv hwl (by omega) (by omega) c6 (fun g hg => by unfold fOp fB; rw [if_neg (by omega), if_neg (by omega), if_pos c2, c4, ← hg (dp i - 1) (by omega) (by omega)]; first | (rw [if_pos (by omega)]; rfl) | (rw [if_neg (by omega)]; rfl))⟩
                          · have c9 : 3 ≤ fKd (σ (p + 11) i) := by unfold fKd; repeat (first | omega | split)
                            have c7' : ix (i + 1) = fun j => if j = dp i + -1 - 1 then i else ix i j := by rw [c7, show dp i + -1 - 1 = dp i - 2 by omega]
                            first | (exfalso; omega) | exact ⟨heq.upv, hsc.upv (fJo_bd (hsc.1 _ (by omega) (by omega)) (hsc.1 _ (by omega) (by omega)) hve), by omega, by omega, by omega, CV_s hi0 hcv hwl (by omega) (by omega) c7' (fun g hg => by rw [fOp_jo (k := fKd (σ (p + 11) i)) c9 c2, c4, c5, ← hg (dp i - 2) (by omega) (by omega), ← hg (dp i - 1) (by omega) (by omega), show dp i - 2 = dp i + -1 - 1 by omega, show dp i - 1 = dp i + -1 by omega]; exact hve)⟩ | exact ⟨heq.upf.upv, (hsc.upf (Or.inr rfl)).upv ⟨by decide, by decide⟩, by omega, by omega, by omega, CV_f hi0 hsc.2 hcv (fun g hg => by rw [fOp_jo (k := fKd (σ (p + 11) i)) c9 c2, c4, c5, ← hg (dp i - 2) (by omega) (by omega), ← hg (dp i - 1) (by omega) (by omega), show dp i - 2 = dp i + -1 - 1 by omega, show dp i - 1 = dp i + -1 by omega]; exact hve)⟩
                  · simp only [sx_cc, Classical.not_not] at g; try simp only [cmp_eq, cmp_ge, cmp_lt, cmp_gt, cmp_le, Int.cast_ofNat_Int] at g
                    conv => whnf
                    refine ⟨(by first | assumption | rfl), ?_⟩
                    try simp (disch := omega) only [Int.cast_ofNat_Int, up_s, up_a, up_i, mp_a, mp_ge, cp_a, o0, o1, t15, t16, t17, t18, f0, f1, elo, ehi, e11, e12, e13, e14, e38, ep15, ep16, ep17, ep18]
                    conv => whnf
                    refine ⟨⟨by omega, by omega⟩, ?_⟩
                    conv => whnf
                    refine ⟨(by first | assumption | rfl), ?_⟩
                    try simp (disch := omega) only [Int.cast_ofNat_Int, up_s, up_a, up_i, mp_a, mp_ge, cp_a, o0, o1, t15, t16, t17, t18, f0, f1, elo, ehi, e11, e12, e13, e14, e38, ep15, ep16, ep17, ep18]
                    conv => whnf
                    refine ⟨⟨by omega, by omega⟩, ?_⟩
                    conv => whnf
                    refine ⟨sx_ixI (by first | assumption | rfl) (by omega) (by omega), ?_⟩
                    try simp (disch := omega) only [Int.cast_ofNat_Int, up_s, up_a, up_i, mp_a, mp_ge, cp_a, o0, o1, t15, t16, t17, t18, f0, f1, elo, ehi, e11, e12, e13, e14, e38, ep15, ep16, ep17, ep18]
                    conv => whnf
                    refine ⟨fun g => ?_, fun g => ?_⟩
                    · simp only [sx_cc, Classical.not_not] at g; try simp only [cmp_eq, cmp_ge, cmp_lt, cmp_gt, cmp_le, Int.cast_ofNat_Int] at g
                      conv => whnf
                      refine ⟨Nat.le_of_ble_eq_true rfl, Nat.le_of_ble_eq_true rfl, ?_⟩
                      refine c_Ktruth ?_
                      conv => whnf
                      refine ⟨sx_ixI (by first | assumption | rfl) (by omega) (by omega), ?_⟩
                      conv => whnf
                      refine ⟨⟨by omega, by omega⟩, ?_⟩
                      conv => whnf
                      refine ⟨_, ?_, ⟨rfl, _, _, _, rfl, rfl, ?_, rfl⟩⟩
                      · omega
                      · obtain ⟨hw0, hw1, hwl, hwc⟩ := hw (by omega)
                        rcases hwc with ⟨c1, c2, c3, c4, c5, c6, c7⟩ | ⟨c1, c2, c3, c4, c5, c6, c7⟩ | ⟨c1, c2, c3, c4, c5, c6⟩ | ⟨c1, c2, c3, c4, c5, c6, c7⟩
                        · first | (exfalso; omega) | exact ⟨heq.upv, hsc.upv (v := σ (p + 12) i) c4, by omega, by omega, by omega, CV_s hi0 hcv hwl c6 (by omega) c7 (fun g _ => by unfold fOp; rw [if_pos c2, c3])⟩
                        · first | (exfalso; omega) | exact ⟨heq.upv, hsc.upv (hnb _ (by omega) (by omega)), by omega, by omega, by omega, CV_s hi0 hcv hwl c6 (by omega) c7 (fun g _ => by unfold fOp; rw [if_neg (by omega), if_pos c3, c4, hnm _ c1 c2])⟩
                        · first | (exfalso; omega) | exact ⟨heq.upv, hsc.upv (by split <;> exact ⟨by decide, by decide⟩), by omega, by omega, by omega, CV_s hi0 hcv hwl (by omega) (by omega) c6 (fun g hg => by unfold fOp fB; rw [if_neg (by omega), if_neg (by omega), if_pos c2, c4, ← hg (dp i - 1) (by omega) (by omega)]; first | (rw [if_pos (by omega)]; rfl) | (rw [if_neg (by omega)]; rfl))⟩
                        · have c9 : 3 ≤ fKd (σ (p + 11) i) := by unfold fKd; repeat (first | omega | split)
                          have c7' : ix (i + 1) = fun j => if j = dp i + -1 - 1 then i else ix i j := by rw [c7, show dp i + -1 - 1 = dp i - 2 by omega]
                          first | (exfalso; omega) | exact ⟨heq.upv, hsc.upv (fJo_bd (hsc.1 _ (by omega) (by omega)) (hsc.1 _ (by omega) (by omega)) hve), by omega, by omega, by omega, CV_s hi0 hcv hwl (by omega) (by omega) c7' (fun g hg => by rw [fOp_jo (k := fKd (σ (p + 11) i)) c9 c2, c4, c5, ← hg (dp i - 2) (by omega) (by omega), ← hg (dp i - 1) (by omega) (by omega), show dp i - 2 = dp i + -1 - 1 by omega, show dp i - 1 = dp i + -1 by omega]; exact hve)⟩ | exact ⟨heq.upf.upv, (hsc.upf (Or.inr rfl)).upv ⟨by decide, by decide⟩, by omega, by omega, by omega, CV_f hi0 hsc.2 hcv (fun g hg => by rw [fOp_jo (k := fKd (σ (p + 11) i)) c9 c2, c4, c5, ← hg (dp i - 2) (by omega) (by omega), ← hg (dp i - 1) (by omega) (by omega), show dp i - 2 = dp i + -1 - 1 by omega, show dp i - 1 = dp i + -1 by omega]; exact hve)⟩
                    · simp only [sx_cc, Classical.not_not] at g; try simp only [cmp_eq, cmp_ge, cmp_lt, cmp_gt, cmp_le, Int.cast_ofNat_Int] at g
                      conv => whnf
                      refine ⟨Nat.le_of_ble_eq_true rfl, Nat.le_of_ble_eq_true rfl, ?_⟩
                      refine c_Ktruth ?_
                      conv => whnf
                      refine ⟨sx_ixI (by first | assumption | rfl) (by omega) (by omega), ?_⟩
                      conv => whnf
                      refine ⟨⟨by omega, by omega⟩, ?_⟩
                      conv => whnf
                      refine ⟨_, ?_, ⟨rfl, _, _, _, rfl, rfl, ?_, rfl⟩⟩
                      · omega
                      · obtain ⟨hw0, hw1, hwl, hwc⟩ := hw (by omega)
                        rcases hwc with ⟨c1, c2, c3, c4, c5, c6, c7⟩ | ⟨c1, c2, c3, c4, c5, c6, c7⟩ | ⟨c1, c2, c3, c4, c5, c6⟩ | ⟨c1, c2, c3, c4, c5, c6, c7⟩
                        · first | (exfalso; omega) | exact ⟨heq.upv, hsc.upv (v := σ (p + 12) i) c4, by omega, by omega, by omega, CV_s hi0 hcv hwl c6 (by omega) c7 (fun g _ => by unfold fOp; rw [if_pos c2, c3])⟩
                        · first | (exfalso; omega) | exact ⟨heq.upv, hsc.upv (hnb _ (by omega) (by omega)), by omega, by omega, by omega, CV_s hi0 hcv hwl c6 (by omega) c7 (fun g _ => by unfold fOp; rw [if_neg (by omega), if_pos c3, c4, hnm _ c1 c2])⟩
                        · first | (exfalso; omega) | exact ⟨heq.upv, hsc.upv (by split <;> exact ⟨by decide, by decide⟩), by omega, by omega, by omega, CV_s hi0 hcv hwl (by omega) (by omega) c6 (fun g hg => by unfold fOp fB; rw [if_neg (by omega), if_neg (by omega), if_pos c2, c4, ← hg (dp i - 1) (by omega) (by omega)]; first | (rw [if_pos (by omega)]; rfl) | (rw [if_neg (by omega)]; rfl))⟩
                        · have c9 : 3 ≤ fKd (σ (p + 11) i) := by unfold fKd; repeat (first | omega | split)
                          have c7' : ix (i + 1) = fun j => if j = dp i + -1 - 1 then i else ix i j := by rw [c7, show dp i + -1 - 1 = dp i - 2 by omega]
                          first | (exfalso; omega) | exact ⟨heq.upv, hsc.upv (fJo_bd (hsc.1 _ (by omega) (by omega)) (hsc.1 _ (by omega) (by omega)) hve), by omega, by omega, by omega, CV_s hi0 hcv hwl (by omega) (by omega) c7' (fun g hg => by rw [fOp_jo (k := fKd (σ (p + 11) i)) c9 c2, c4, c5, ← hg (dp i - 2) (by omega) (by omega), ← hg (dp i - 1) (by omega) (by omega), show dp i - 2 = dp i + -1 - 1 by omega, show dp i - 1 = dp i + -1 by omega]; exact hve)⟩ | exact ⟨heq.upf.upv, (hsc.upf (Or.inr rfl)).upv ⟨by decide, by decide⟩, by omega, by omega, by omega, CV_f hi0 hsc.2 hcv (fun g hg => by rw [fOp_jo (k := fKd (σ (p + 11) i)) c9 c2, c4, c5, ← hg (dp i - 2) (by omega) (by omega), ← hg (dp i - 1) (by omega) (by omega), show dp i - 2 = dp i + -1 - 1 by omega, show dp i - 1 = dp i + -1 by omega]; exact hve)⟩
              · simp only [sx_cc, Classical.not_not] at g; try simp only [cmp_eq, cmp_ge, cmp_lt, cmp_gt, cmp_le, Int.cast_ofNat_Int] at g
                conv => whnf
                refine ⟨fun g => ?_, fun g => ?_⟩
                · simp only [sx_cc, Classical.not_not] at g; try simp only [cmp_eq, cmp_ge, cmp_lt, cmp_gt, cmp_le, Int.cast_ofNat_Int] at g
                  conv => whnf
                  refine ⟨fun g => ?_, fun g => ?_⟩
                  · simp only [sx_cc, Classical.not_not] at g; try simp only [cmp_eq, cmp_ge, cmp_lt, cmp_gt, cmp_le, Int.cast_ofNat_Int] at g
                    conv => whnf
                    refine ⟨fun g => ?_, fun g => ?_⟩
                    · simp only [sx_cc, Classical.not_not] at g; try simp only [cmp_eq, cmp_ge, cmp_lt, cmp_gt, cmp_le, Int.cast_ofNat_Int] at g
                      conv => whnf
                      exfalso
                      omega
                    · simp only [sx_cc, Classical.not_not] at g; try simp only [cmp_eq, cmp_ge, cmp_lt, cmp_gt, cmp_le, Int.cast_ofNat_Int] at g
                      conv => whnf
                      refine ⟨⟨by omega, by omega⟩, ?_⟩
                      conv => whnf
                      refine ⟨(by first | assumption | rfl), ?_⟩
                      try simp (disch := omega) only [Int.cast_ofNat_Int, up_s, up_a, up_i, mp_a, mp_ge, cp_a, o0, o1, t15, t16, t17, t18, f0, f1, elo, ehi, e11, e12, e13, e14, e38, ep15, ep16, ep17, ep18]
                      conv => whnf
                      refine ⟨⟨by omega, by omega⟩, ?_⟩
                      conv => whnf
                      refine ⟨(by first | assumption | rfl), ?_⟩
                      try simp (disch := omega) only [Int.cast_ofNat_Int, up_s, up_a, up_i, mp_a, mp_ge, cp_a, o0, o1, t15, t16, t17, t18, f0, f1, elo, ehi, e11, e12, e13, e14, e38, ep15, ep16, ep17, ep18]
                      conv => whnf
                      refine ⟨⟨by omega, by omega⟩, ?_⟩
                      conv => whnf
                      refine ⟨sx_ixI (by first | assumption | rfl) (by omega) (by omega), ?_⟩
                      try simp (disch := omega) only [Int.cast_ofNat_Int, up_s, up_a, up_i, mp_a, mp_ge, cp_a, o0, o1, t15, t16, t17, t18, f0, f1, elo, ehi, e11, e12, e13, e14, e38, ep15, ep16, ep17, ep18]
                      conv => whnf
                      refine ⟨(by first | assumption | rfl), ?_⟩
                      try simp (disch := omega) only [Int.cast_ofNat_Int, up_s, up_a, up_i, mp_a, mp_ge, cp_a, o0, o1, t15, t16, t17, t18, f0, f1, elo, ehi, e11, e12, e13, e14, e38, ep15, ep16, ep17, ep18]
                      conv => whnf
                      refine ⟨sx_ixI (by first | assumption | rfl) (by omega) (by omega), ?_⟩
                      try simp (disch := omega) only [Int.cast_ofNat_Int, up_s, up_a, up_i, mp_a, mp_ge, cp_a, o0, o1, t15, t16, t17, t18, f0, f1, elo, ehi, e11, e12, e13, e14, e38, ep15, ep16, ep17, ep18]
                      conv => whnf
                      refine ⟨Nat.le_of_ble_eq_true rfl, Nat.le_of_ble_eq_true rfl, (by first | assumption | rfl), ?_⟩
                      refine c_Kjoined (hsc.1 _ (by omega) (by omega)) (hsc.1 _ (by omega) (by omega)) (by omega) (fun v hve => ?_) (fun hve => ?_)
                      · skip
                        conv => whnf
                        refine ⟨sx_ixI (by first | assumption | rfl) (by omega) (by omega), ?_⟩
                        conv => whnf
                        refine ⟨⟨by omega, by omega⟩, ?_⟩
                        conv => whnf
                        refine ⟨_, ?_, ⟨rfl, _, _, _, rfl, rfl, ?_, rfl⟩⟩
                        · omega
                        · obtain ⟨hw0, hw1, hwl, hwc⟩ := hw (by omega)
                          rcases hwc with ⟨c1, c2, c3, c4, c5, c6, c7⟩ | ⟨c1, c2, c3, c4, c5, c6, c7⟩ | ⟨c1, c2, c3, c4, c5, c6⟩ | ⟨c1, c2, c3, c4, c5, c6, c7⟩
                          · first | (exfalso; omega) | exact ⟨heq.upv, hsc.upv (v := σ (p + 12) i) c4, by omega, by omega, by omega, CV_s hi0 hcv hwl c6 (by omega) c7 (fun g _ => by unfold fOp; rw [if_pos c2, c3])⟩
                          · first | (exfalso; omega) | exact ⟨heq.upv, hsc.upv (hnb _ (by omega) (by omega)), by omega, by omega, by omega, CV_s hi0 hcv hwl c6 (by omega) c7 (fun g _ => by unfold fOp; rw [if_neg (by omega), if_pos c3, c4, hnm _ c1 c2])⟩
                          · first | (exfalso; omega) | exact ⟨heq.upv, hsc.upv (by split <;> exact ⟨by decide, by decide⟩), by omega, by omega, by omega, CV_s hi0 hcv hwl (by omega) (by omega) c6 (fun g hg => by unfold fOp fB; rw [if_neg (by omega), if_neg (by omega), if_pos c2, c4, ← hg (dp i - 1) (by omega) (by omega)]; first | (rw [if_pos (by omega)]; rfl) | (rw [if_neg (by omega)]; rfl))⟩
                          · have c9 : 3 ≤ fKd (σ (p + 11) i) := by unfold fKd; repeat (first | omega | split)
                            have c7' : ix (i + 1) = fun j => if j = dp i + -1 - 1 then i else ix i j := by rw [c7, show dp i + -1 - 1 = dp i - 2 by omega]
                            first | (exfalso; omega) | exact ⟨heq.upv, hsc.upv (fJo_bd (hsc.1 _ (by omega) (by omega)) (hsc.1 _ (by omega) (by omega)) hve), by omega, by omega, by omega, CV_s hi0 hcv hwl (by omega) (by omega) c7' (fun g hg => by rw [fOp_jo (k := fKd (σ (p + 11) i)) c9 c2, c4, c5, ← hg (dp i - 2) (by omega) (by omega), ← hg (dp i - 1) (by omega) (by omega), show dp i - 2 = dp i + -1 - 1 by omega, show dp i - 1 = dp i + -1 by omega]; exact hve)⟩ | exact ⟨heq.upf.upv, (hsc.upf (Or.inr rfl)).upv ⟨by decide, by decide⟩, by omega, by omega, by omega, CV_f hi0 hsc.2 hcv (fun g hg => by rw [fOp_jo (k := fKd (σ (p + 11) i)) c9 c2, c4, c5, ← hg (dp i - 2) (by omega) (by omega), ← hg (dp i - 1) (by omega) (by omega), show dp i - 2 = dp i + -1 - 1 by omega, show dp i - 1 = dp i + -1 by omega]; exact hve)⟩
                      · skip
                        conv => whnf
                        refine ⟨sx_ixI (by first | assumption | rfl) (by omega) (by omega), ?_⟩
                        conv => whnf
                        refine ⟨⟨by omega, by omega⟩, ?_⟩
                        conv => whnf
                        refine ⟨_, ?_, ⟨rfl, _, _, _, rfl, rfl, ?_, rfl⟩⟩
                        · omega
                        · obtain ⟨hw0, hw1, hwl, hwc⟩ := hw (by omega)
                          rcases hwc with ⟨c1, c2, c3, c4, c5, c6, c7⟩ | ⟨c1, c2, c3, c4, c5, c6, c7⟩ | ⟨c1, c2, c3, c4, c5, c6⟩ | ⟨c1, c2, c3, c4, c5, c6, c7⟩
                          · first | (exfalso; omega) | exact ⟨heq.upv, hsc.upv (v := σ (p + 12) i) c4, by omega, by omega, by omega, CV_s hi0 hcv hwl c6 (by omega) c7 (fun g _ => by unfold fOp; rw [if_pos c2, c3])⟩
                          · first | (exfalso; omega) | exact ⟨heq.upv, hsc.upv (hnb _ (by omega) (by omega)), by omega, by omega, by omega, CV_s hi0 hcv hwl c6 (by omega) c7 (fun g _ => by unfold fOp; rw [if_neg (by omega), if_pos c3, c4, hnm _ c1 c2])⟩
                          · first | (exfalso; omega) | exact ⟨heq.upv, hsc.upv (by split <;> exact ⟨by decide, by decide⟩), by omega, by omega, by omega, CV_s hi0 hcv hwl (by omega) (by omega) c6 (fun g hg => by unfold fOp fB; rw [if_neg (by omega), if_neg (by omega), if_pos c2, c4, ← hg (dp i - 1) (by omega) (by omega)]; first | (rw [if_pos (by omega)]; rfl) | (rw [if_neg (by omega)]; rfl))⟩
                          · have c9 : 3 ≤ fKd (σ (p + 11) i) := by unfold fKd; repeat (first | omega | split)
                            have c7' : ix (i + 1) = fun j => if j = dp i + -1 - 1 then i else ix i j := by rw [c7, show dp i + -1 - 1 = dp i - 2 by omega]
                            first | (exfalso; omega) | exact ⟨heq.upv, hsc.upv (fJo_bd (hsc.1 _ (by omega) (by omega)) (hsc.1 _ (by omega) (by omega)) hve), by omega, by omega, by omega, CV_s hi0 hcv hwl (by omega) (by omega) c7' (fun g hg => by rw [fOp_jo (k := fKd (σ (p + 11) i)) c9 c2, c4, c5, ← hg (dp i - 2) (by omega) (by omega), ← hg (dp i - 1) (by omega) (by omega), show dp i - 2 = dp i + -1 - 1 by omega, show dp i - 1 = dp i + -1 by omega]; exact hve)⟩ | exact ⟨heq.upf.upv, (hsc.upf (Or.inr rfl)).upv ⟨by decide, by decide⟩, by omega, by omega, by omega, CV_f hi0 hsc.2 hcv (fun g hg => by rw [fOp_jo (k := fKd (σ (p + 11) i)) c9 c2, c4, c5, ← hg (dp i - 2) (by omega) (by omega), ← hg (dp i - 1) (by omega) (by omega), show dp i - 2 = dp i + -1 - 1 by omega, show dp i - 1 = dp i + -1 by omega]; exact hve)⟩
                  · simp only [sx_cc, Classical.not_not] at g; try simp only [cmp_eq, cmp_ge, cmp_lt, cmp_gt, cmp_le, Int.cast_ofNat_Int] at g
                    conv => whnf
                    refine ⟨fun g => ?_, fun g => ?_⟩
                    · simp only [sx_cc, Classical.not_not] at g; try simp only [cmp_eq, cmp_ge, cmp_lt, cmp_gt, cmp_le, Int.cast_ofNat_Int] at g
                      conv => whnf
                      refine ⟨fun g => ?_, fun g => ?_⟩
                      · simp only [sx_cc, Classical.not_not] at g; try simp only [cmp_eq, cmp_ge, cmp_lt, cmp_gt, cmp_le, Int.cast_ofNat_Int] at g
                        conv => whnf
                        exfalso
                        omega
                      · simp only [sx_cc, Classical.not_not] at g; try simp only [cmp_eq, cmp_ge, cmp_lt, cmp_gt, cmp_le, Int.cast_ofNat_Int] at g
                        conv => whnf
                        refine ⟨⟨by omega, by omega⟩, ?_⟩
                        conv => whnf
                        refine ⟨(by first | assumption | rfl), ?_⟩
                        try simp (disch := omega) only [Int.cast_ofNat_Int, up_s, up_a, up_i, mp_a, mp_ge, cp_a, o0, o1, t15, t16, t17, t18, f0, f1, elo, ehi, e11, e12, e13, e14, e38, ep15, ep16, ep17, ep18]
                        conv => whnf
                        refine ⟨⟨by omega, by omega⟩, ?_⟩
                        conv => whnf
                        refine ⟨(by first | assumption | rfl), ?_⟩
                        try simp (disch := omega) only [Int.cast_ofNat_Int, up_s, up_a, up_i, mp_a, mp_ge, cp_a, o0, o1, t15, t16, t17, t18, f0, f1, elo, ehi, e11, e12, e13, e14, e38, ep15, ep16, ep17, ep18]
                        conv => whnf
                        refine ⟨⟨by omega, by omega⟩, ?_⟩
                        conv => whnf
                        refine ⟨sx_ixI (by first | assumption | rfl) (by omega) (by omega), ?_⟩
                        try simp (disch := omega) only [Int.cast_ofNat_Int, up_s, up_a, up_i, mp_a, mp_ge, cp_a, o0, o1, t15, t16, t17, t18, f0, f1, elo, ehi, e11, e12, e13, e14, e38, ep15, ep16, ep17, ep18]
                        conv => whnf
                        refine ⟨(by first | assumption | rfl), ?_⟩
                        try simp (disch := omega) only [Int.cast_ofNat_Int, up_s, up_a, up_i, mp_a, mp_ge, cp_a, o0, o1, t15, t16, t17, t18, f0, f1, elo, ehi, e11, e12, e13, e14, e38, ep15, ep16, ep17, ep18]
                        conv => whnf
                        refine ⟨sx_ixI (by first | assumption | rfl) (by omega) (by omega), ?_⟩
                        try simp (disch := omega) only [Int.cast_ofNat_Int, up_s, up_a, up_i, mp_a, mp_ge, cp_a, o0, o1, t15, t16, t17, t18, f0, f1, elo, ehi, e11, e12, e13, e14, e38, ep15, ep16, ep17, ep18]
                        conv => whnf
                        refine ⟨Nat.le_of_ble_eq_true rfl, Nat.le_of_ble_eq_true rfl, (by first | assumption | rfl), ?_⟩
                        refine c_Kjoined (hsc.1 _ (by omega) (by omega)) (hsc.1 _ (by omega) (by omega)) (by omega) (fun v hve => ?_) (fun hve => ?_)
                        · skip
                          conv => whnf
                          refine ⟨sx_ixI (by first | assumption | rfl) (by omega) (by omega), ?_⟩
                          conv => whnf
                          refine ⟨⟨by omega, by omega⟩, ?_⟩
                          conv => whnf
                          refine ⟨_, ?_, ⟨rfl, _, _, _, rfl, rfl, ?_, rfl⟩⟩
                          · omega
                          · obtain ⟨hw0, hw1, hwl, hwc⟩ := hw (by omega)
                            rcases hwc with ⟨c1, c2, c3, c4, c5, c6, c7⟩ | ⟨c1, c2, c3, c4, c5, c6, c7⟩ | ⟨c1, c2, c3, c4, c5, c6⟩ | ⟨c1, c2, c3, c4, c5, c6, c7⟩
                            · first | (exfalso; omega) | exact ⟨heq.upv, hsc.upv (v := σ (p + 12) i) c4, by omega, by omega, by omega, CV_s hi0 hcv hwl c6 (by omega) c7 (fun g _ => by unfold fOp; rw [if_pos c2, c3])⟩
                            · first | (exfalso; omega) | exact ⟨heq.upv, hsc.upv (hnb _ (by omega) (by omega)), by omega, by omega, by omega, CV_s hi0 hcv hwl c6 (by omega) c7 (fun g _ => by unfold fOp; rw [if_neg (by omega), if_pos c3, c4, hnm _ c1 c2])⟩
                            · first | (exfalso; omega) | exact ⟨heq.upv, hsc.upv (by split <;> exact ⟨by decide, by decide⟩), by omega, by omega, by omega, CV_s hi0 hcv hwl (by omega) (by omega) c6 (fun g hg => by unfold fOp fB; rw [if_neg (by omega), if_neg (by omega), if_pos c2, c4, ← hg (dp i - 1) (by omega) (by omega)]; first | (rw [if_pos (by omega)]; rfl) | (rw [if_neg (by omega)]; rfl))⟩
                            · have c9 : 3 ≤ fKd (σ (p + 11) i) := by unfold fKd; repeat (first | omega | split)
                              have c7' : ix (i + 1) = fun j => if j = dp i + -1 - 1 then i else ix i j := by rw [c7, show dp i + -1 - 1 = dp i - 2 by omega]
                              first | (exfalso; omega) | exact ⟨heq.upv, hsc.upv (fJo_bd (hsc.1 _ (by omega) (by omega)) (hsc.1 _ (by omega) (by omega)) hve), by omega, by omega, by omega, CV_s hi0 hcv hwl (by omega) (by omega) c7' (fun g hg => by rw [fOp_jo (k := fKd (σ (p + 11) i)) c9 c2, c4, c5, ← hg (dp i - 2) (by omega) (by omega), ← hg (dp i - 1) (by omega) (by omega), show dp i - 2 = dp i + -1 - 1 by omega, show dp i - 1 = dp i + -1 by omega]; exact hve)⟩ | exact ⟨heq.upf.upv, (hsc.upf (Or.inr rfl)).upv ⟨by decide, by decide⟩, by omega, by omega, by omega, CV_f hi0 hsc.2 hcv (fun g hg => by rw [fOp_jo (k := fKd (σ (p + 11) i)) c9 c2, c4, c5, ← hg (dp i - 2) (by omega) (by omega), ← hg (dp i - 1) (by omega) (by omega), show dp i - 2 = dp i + -1 - 1 by omega, show dp i - 1 = dp i + -1 by omega]; exact hve)⟩
                        · skip
                          conv => whnf
                          refine ⟨sx_ixI (by first | assumption | rfl) (by omega) (by omega), ?_⟩
                          conv => whnf
                          refine ⟨⟨by omega, by omega⟩, ?_⟩
                          conv => whnf
                          refine ⟨_, ?_, ⟨rfl, _, _, _, rfl, rfl, ?_, rfl⟩⟩
                          · omega
                          · obtain ⟨hw0, hw1, hwl, hwc⟩ := hw (by omega)
                            rcases hwc with ⟨c1, c2, c3, c4, c5, c6, c7⟩ | ⟨c1, c2, c3, c4, c5, c6, c7⟩ | ⟨c1, c2, c3, c4, c5, c6⟩ | ⟨c1, c2, c3, c4, c5, c6, c7⟩
                            · first | (exfalso; omega) | exact ⟨heq.upv, hsc.upv (v := σ (p + 12) i) c4, by omega, by omega, by omega, CV_s hi0 hcv hwl c6 (by omega) c7 (fun g _ => by unfold fOp; rw [if_pos c2, c3])⟩
                            · first | (exfalso; omega) | exact ⟨heq.upv, hsc.upv (hnb _ (by omega) (by omega)), by omega, by omega, by omega, CV_s hi0 hcv hwl c6 (by omega) c7 (fun g _ => by unfold fOp; rw [if_neg (by omega), if_pos c3, c4, hnm _ c1 c2])⟩
                            · first | (exfalso; omega) | exact ⟨heq.upv, hsc.upv (by split <;> exact ⟨by decide, by decide⟩), by omega, by omega, by omega, CV_s hi0 hcv hwl (by omega) (by omega) c6 (fun g hg => by unfold fOp fB; rw [if_neg (by omega), if_neg (by omega), if_pos c2, c4, ← hg (dp i - 1) (by omega) (by omega)]; first | (rw [if_pos (by omega)]; rfl) | (rw [if_neg (by omega)]; rfl))⟩
                            · have c9 : 3 ≤ fKd (σ (p + 11) i) := by unfold fKd; repeat (first | omega | split)
                              have c7' : ix (i + 1) = fun j => if j = dp i + -1 - 1 then i else ix i j := by rw [c7, show dp i + -1 - 1 = dp i - 2 by omega]
                              first | (exfalso; omega) | exact ⟨heq.upv, hsc.upv (fJo_bd (hsc.1 _ (by omega) (by omega)) (hsc.1 _ (by omega) (by omega)) hve), by omega, by omega, by omega, CV_s hi0 hcv hwl (by omega) (by omega) c7' (fun g hg => by rw [fOp_jo (k := fKd (σ (p + 11) i)) c9 c2, c4, c5, ← hg (dp i - 2) (by omega) (by omega), ← hg (dp i - 1) (by omega) (by omega), show dp i - 2 = dp i + -1 - 1 by omega, show dp i - 1 = dp i + -1 by omega]; exact hve)⟩ | exact ⟨heq.upf.upv, (hsc.upf (Or.inr rfl)).upv ⟨by decide, by decide⟩, by omega, by omega, by omega, CV_f hi0 hsc.2 hcv (fun g hg => by rw [fOp_jo (k := fKd (σ (p + 11) i)) c9 c2, c4, c5, ← hg (dp i - 2) (by omega) (by omega), ← hg (dp i - 1) (by omega) (by omega), show dp i - 2 = dp i + -1 - 1 by omega, show dp i - 1 = dp i + -1 by omega]; exact hve)⟩
                    · simp only [sx_cc, Classical.not_not] at g; try simp only [cmp_eq, cmp_ge, cmp_lt, cmp_gt, cmp_le, Int.cast_ofNat_Int] at g
                      conv => whnf
                      refine ⟨(by first | assumption | rfl), ?_⟩
                      try simp (disch := omega) only [Int.cast_ofNat_Int, up_s, up_a, up_i, mp_a, mp_ge, cp_a, o0, o1, t15, t16, t17, t18, f0, f1, elo, ehi, e11, e12, e13, e14, e38, ep15, ep16, ep17, ep18]
                      conv => whnf
                      refine ⟨⟨by omega, by omega⟩, ?_⟩
                      conv => whnf
                      refine ⟨(by first | assumption | rfl), ?_⟩
                      try simp (disch := omega) only [Int.cast_ofNat_Int, up_s, up_a, up_i, mp_a, mp_ge, cp_a, o0, o1, t15, t16, t17, t18, f0, f1, elo, ehi, e11, e12, e13, e14, e38, ep15, ep16, ep17, ep18]
                      conv => whnf
                      refine ⟨⟨by omega, by omega⟩, ?_⟩
                      conv => whnf
                      refine ⟨sx_ixI (by first | assumption | rfl) (by omega) (by omega), ?_⟩
                      try simp (disch := omega) only [Int.cast_ofNat_Int, up_s, up_a, up_i, mp_a, mp_ge, cp_a, o0, o1, t15, t16, t17, t18, f0, f1, elo, ehi, e11, e12, e13, e14, e38, ep15, ep16, ep17, ep18]
                      conv => whnf
                      refine ⟨fun g => ?_, fun g => ?_⟩
                      · simp only [sx_cc, Classical.not_not] at g; try simp only [cmp_eq, cmp_ge, cmp_lt, cmp_gt, cmp_le, Int.cast_ofNat_Int] at g
                        conv => whnf
                        refine ⟨Nat.le_of_ble_eq_true rfl, Nat.le_of_ble_eq_true rfl, ?_⟩
                        refine c_Ktruth ?_
                        conv => whnf
                        refine ⟨sx_ixI (by first | assumption | rfl) (by omega) (by omega), ?_⟩
                        conv => whnf
                        refine ⟨⟨by omega, by omega⟩, ?_⟩
                        conv => whnf
                        refine ⟨_, ?_, ⟨rfl, _, _, _, rfl, rfl, ?_, rfl⟩⟩
                        · omega
                        · obtain ⟨hw0, hw1, hwl, hwc⟩ := hw (by omega)
                          rcases hwc with ⟨c1, c2, c3, c4, c5, c6, c7⟩ | ⟨c1, c2, c3, c4, c5, c6, c7⟩ | ⟨c1, c2, c3, c4, c5, c6⟩ | ⟨c1, c2, c3, c4, c5, c6, c7⟩
                          · first | (exfalso; omega) | exact ⟨heq.upv, hsc.upv (v := σ (p + 12) i) c4, by omega, by omega, by omega, CV_s hi0 hcv hwl c6 (by omega) c7 (fun g _ => by unfold fOp; rw [if_pos c2, c3])⟩
                          · first | (exfalso; omega) | exact ⟨heq.upv, hsc.upv (hnb _ (by omega) (by omega)), by omega, by omega, by omega, CV_s hi0 hcv hwl c6 (by omega) c7 (fun g _ => by unfold fOp; rw [if_neg (by omega), if_pos c3, c4, hnm _ c1 c2])⟩
                          · first | (exfalso; omega) | exact ⟨heq.upv, hsc.upv (by split <;> exact ⟨by decide, by decide⟩), by omega, by omega, by omega, CV_s hi0 hcv hwl (by omega) (by omega) c6 (fun g hg => by unfold fOp fB; rw [if_neg (by omega), if_neg (by omega), if_pos c2, c4, ← hg (dp i - 1) (by omega) (by omega)]; first | (rw [if_pos (by omega)]; rfl) | (rw [if_neg (by omega)]; rfl))⟩
                          · have c9 : 3 ≤ fKd (σ (p + 11) i) := by unfold fKd; repeat (first | omega | split)
                            have c7' : ix (i + 1) = fun j => if j = dp i + -1 - 1 then i else ix i j := by rw [c7, show dp i + -1 - 1 = dp i - 2 by omega]
                            first | (exfalso; omega) | exact ⟨heq.upv, hsc.upv (fJo_bd (hsc.1 _ (by omega) (by omega)) (hsc.1 _ (by omega) (by omega)) hve), by omega, by omega, by omega, CV_s hi0 hcv hwl (by omega) (by omega) c7' (fun g hg => by rw [fOp_jo (k := fKd (σ (p + 11) i)) c9 c2, c4, c5, ← hg (dp i - 2) (by omega) (by omega), ← hg (dp i - 1) (by omega) (by omega), show dp i - 2 = dp i + -1 - 1 by omega, show dp i - 1 = dp i + -1 by omega]; exact hve)⟩ | exact ⟨heq.upf.upv, (hsc.upf (Or.inr rfl)).upv ⟨by decide, by decide⟩, by omega, by omega, by omega, CV_f hi0 hsc.2 hcv (fun g hg => by rw [fOp_jo (k := fKd (σ (p + 11) i)) c9 c2, c4, c5, ← hg (dp i - 2) (by omega) (by omega), ← hg (dp i - 1) (by omega) (by omega), show dp i - 2 = dp i + -1 - 1 by omega, show dp i - 1 = dp i + -1 by omega]; exact hve)⟩
                      · simp only [sx_cc, Classical.not_not] at g; try simp only [cmp_eq, cmp_ge, cmp_lt, cmp_gt, cmp_le, Int.cast_ofNat_Int] at g
                        conv => whnf
                        refine ⟨Nat.le_of_ble_eq_true rfl, Nat.le_of_ble_eq_true rfl, ?_⟩
                        refine c_Ktruth ?_
                        conv => whnf
                        refine ⟨sx_ixI (by first | assumption | rfl) (by omega) (by omega), ?_⟩
                        conv => whnf
                        refine ⟨⟨by omega, by omega⟩, ?_⟩
                        conv => whnf
                        refine ⟨_, ?_, ⟨rfl, _, _, _, rfl, rfl, ?_, rfl⟩⟩
                        · omega
                        · obtain ⟨hw0, hw1, hwl, hwc⟩ := hw (by omega)
                          rcases hwc with ⟨c1, c2, c3, c4, c5, c6, c7⟩ | ⟨c1, c2, c3, c4, c5, c6, c7⟩ | ⟨c1, c2, c3, c4, c5, c6⟩ | ⟨c1, c2, c3, c4, c5, c6, c7⟩
                          · first | (exfalso; omega) | exact ⟨heq.upv, hsc.upv (v := σ (p + 12) i) c4, by omega, by omega, by omega, CV_s hi0 hcv hwl c6 (by omega) c7 (fun g _ => by unfold fOp; rw [if_pos c2, c3])⟩
                          · first | (exfalso; omega) | exact ⟨heq.upv, hsc.upv (hnb _ (by omega) (by omega)), by omega, by omega, by omega, CV_s hi0 hcv hwl c6 (by omega) c7 (fun g _ => by unfold fOp; rw [if_neg (by omega), if_pos c3, c4, hnm _ c1 c2])⟩
                          · first | (exfalso; omega) | exact ⟨heq.upv, hsc.upv (by split <;> exact ⟨by decide, by decide⟩), by omega, by omega, by omega, CV_s hi0 hcv hwl (by omega) (by omega) c6 (fun g hg => by unfold fOp fB; rw [if_neg (by omega), if_neg (by omega), if_pos c2, c4, ← hg (dp i - 1) (by omega) (by omega)]; first | (rw [if_pos (by omega)]; rfl) | (rw [if_neg (by omega)]; rfl))⟩
                          · have c9 : 3 ≤ fKd (σ (p + 11) i) := by unfold fKd; repeat (first | omega | split)
                            have c7' : ix (i + 1) = fun j => if j = dp i + -1 - 1 then i else ix i j := by rw [c7, show dp i + -1 - 1 = dp i - 2 by omega]
                            first | (exfalso; omega) | exact ⟨heq.upv, hsc.upv (fJo_bd (hsc.1 _ (by omega) (by omega)) (hsc.1 _ (by omega) (by omega)) hve), by omega, by omega, by omega, CV_s hi0 hcv hwl (by omega) (by omega) c7' (fun g hg => by rw [fOp_jo (k := fKd (σ (p + 11) i)) c9 c2, c4, c5, ← hg (dp i - 2) (by omega) (by omega), ← hg (dp i - 1) (by omega) (by omega), show dp i - 2 = dp i + -1 - 1 by omega, show dp i - 1 = dp i + -1 by omega]; exact hve)⟩ | exact ⟨heq.upf.upv, (hsc.upf (Or.inr rfl)).upv ⟨by decide, by decide⟩, by omega, by omega, by omega, CV_f hi0 hsc.2 hcv (fun g hg => by rw [fOp_jo (k := fKd (σ (p + 11) i)) c9 c2, c4, c5, ← hg (dp i - 2) (by omega) (by omega), ← hg (dp i - 1) (by omega) (by omega), show dp i - 2 = dp i + -1 - 1 by omega, show dp i - 1 = dp i + -1 by omega]; exact hve)⟩
                · simp only [sx_cc, Classical.not_not] at g; try simp only [cmp_eq, cmp_ge, cmp_lt, cmp_gt, cmp_le, Int.cast_ofNat_Int] at g
                  conv => whnf
                  refine ⟨(by first | assumption | rfl), ?_⟩
                  try simp (disch := omega) only [Int.cast_ofNat_Int, up_s, up_a, up_i, mp_a, mp_ge, cp_a, o0, o1, t15, t16, t17, t18, f0, f1, elo, ehi, e11, e12, e13, e14, e38, ep15, ep16, ep17, ep18]
                  conv => whnf
                  refine ⟨(by first | assumption | rfl), ?_⟩
                  try simp (disch := omega) only [Int.cast_ofNat_Int, up_s, up_a, up_i, mp_a, mp_ge, cp_a, o0, o1, t15, t16, t17, t18, f0, f1, elo, ehi, e11, e12, e13, e14, e38, ep15, ep16, ep17, ep18]
                  conv => whnf
                  refine ⟨⟨by omega, by omega⟩, ?_⟩
                  conv => whnf
                  refine ⟨sx_ixI (by first | assumption | rfl) (by omega) (by omega), ?_⟩
                  try simp (disch := omega) only [Int.cast_ofNat_Int, up_s, up_a, up_i, mp_a, mp_ge, cp_a, o0, o1, t15, t16, t17, t18, f0, f1, elo, ehi, e11, e12, e13, e14, e38, ep15, ep16, ep17, ep18]
                  conv => whnf
                  refine ⟨sx_ixI (by first | assumption | rfl) (by omega) (by omega), ?_⟩
                  conv => whnf
                  refine ⟨⟨by omega, by omega⟩, ?_⟩
                  conv => whnf
                  refine ⟨⟨by omega, by omega⟩, ?_⟩
                  conv => whnf
                  refine ⟨_, ?_, ⟨rfl, _, _, _, rfl, rfl, ?_, rfl⟩⟩
                  · omega
                  · obtain ⟨hw0, hw1, hwl, hwc⟩ := hw (by omega)
                    rcases hwc with ⟨c1, c2, c3, c4, c5, c6, c7⟩ | ⟨c1, c2, c3, c4, c5, c6, c7⟩ | ⟨c1, c2, c3, c4, c5, c6⟩ | ⟨c1, c2, c3, c4, c5, c6, c7⟩
                    · first | (exfalso; omega) | exact ⟨heq.upv, hsc.upv (v := σ (p + 12) i) c4, by omega, by omega, by omega, CV_s hi0 hcv hwl c6 (by omega) c7 (fun g _ => by unfold fOp; rw [if_pos c2, c3])⟩
                    · first | (exfalso; omega) | exact ⟨heq.upv, hsc.upv (hnb _ (by omega) (by omega)), by omega, by omega, by omega, CV_s hi0 hcv hwl c6 (by omega) c7 (fun g _ => by unfold fOp; rw [if_neg (by omega), if_pos c3, c4, hnm _ c1 c2])⟩
                    · first | (exfalso; omega) | exact ⟨heq.upv, hsc.upv (by split <;> exact ⟨by decide, by decide⟩), by omega, by omega, by omega, CV_s hi0 hcv hwl (by omega) (by omega) c6 (fun g hg => by unfold fOp fB; rw [if_neg (by omega), if_neg (by omega), if_pos c2, c4, ← hg (dp i - 1) (by omega) (by omega)]; first | (rw [if_pos (by omega)]; rfl) | (rw [if_neg (by omega)]; rfl))⟩
                    · have c9 : 3 ≤ fKd (σ (p + 11) i) := by unfold fKd; repeat (first | omega | split)
                      have c7' : ix (i + 1) = fun j => if j = dp i + -1 - 1 then i else ix i j := by rw [c7, show dp i + -1 - 1 = dp i - 2 by omega]
                      first | (exfalso; omega) | exact ⟨heq.upv, hsc.upv (fJo_bd (hsc.1 _ (by omega) (by omega)) (hsc.1 _ (by omega) (by omega)) hve), by omega, by omega, by omega, CV_s hi0 hcv hwl (by omega) (by omega) c7' (fun g hg => by rw [fOp_jo (k := fKd (σ (p + 11) i)) c9 c2, c4, c5, ← hg (dp i - 2) (by omega) (by omega), ← hg (dp i - 1) (by omega) (by omega), show dp i - 2 = dp i + -1 - 1 by omega, show dp i - 1 = dp i + -1 by omega]; exact hve)⟩ | exact ⟨heq.upf.upv, (hsc.upf (Or.inr rfl)).upv ⟨by decide, by decide⟩, by omega, by omega, by omega, CV_f hi0 hsc.2 hcv (fun g hg => by rw [fOp_jo (k := fKd (σ (p + 11) i)) c9 c2, c4, c5, ← hg (dp i - 2) (by omega) (by omega), ← hg (dp i - 1) (by omega) (by omega), show dp i - 2 = dp i + -1 - 1 by omega, show dp i - 1 = dp i + -1 by omega]; exact hve)⟩
          · simp only [sx_cc, Classical.not_not] at g; try simp only [cmp_eq, cmp_ge, cmp_lt, cmp_gt, cmp_le, Int.cast_ofNat_Int] at g
            conv => whnf
            refine ⟨(by first | assumption | rfl), ?_⟩
            try simp (disch := omega) only [Int.cast_ofNat_Int, up_s, up_a, up_i, mp_a, mp_ge, cp_a, o0, o1, t15, t16, t17, t18, f0, f1, elo, ehi, e11, e12, e13, e14, e38, ep15, ep16, ep17, ep18]
            conv => whnf
            refine ⟨(by first | assumption | rfl), ?_⟩
            try simp (disch := omega) only [Int.cast_ofNat_Int, up_s, up_a, up_i, mp_a, mp_ge, cp_a, o0, o1, t15, t16, t17, t18, f0, f1, elo, ehi, e11, e12, e13, e14, e38, ep15, ep16, ep17, ep18]
            conv => whnf
            refine ⟨sx_ixI (by first | assumption | rfl) (by omega) (by omega), ?_⟩
            try simp (disch := omega) only [Int.cast_ofNat_Int, up_s, up_a, up_i, mp_a, mp_ge, cp_a, o0, o1, t15, t16, t17, t18, f0, f1, elo, ehi, e11, e12, e13, e14, e38, ep15, ep16, ep17, ep18]
            conv => whnf
            refine ⟨sx_ixI (by first | assumption | rfl) (by omega) (by omega), ?_⟩
            conv => whnf
            refine ⟨⟨by omega, by omega⟩, ?_⟩
            conv => whnf
            refine ⟨⟨by omega, by omega⟩, ?_⟩
            conv => whnf
            refine ⟨_, ?_, ⟨rfl, _, _, _, rfl, rfl, ?_, rfl⟩⟩
            · omega
            · obtain ⟨hw0, hw1, hwl, hwc⟩ := hw (by omega)
              rcases hwc with ⟨c1, c2, c3, c4, c5, c6, c7⟩ | ⟨c1, c2, c3, c4, c5, c6, c7⟩ | ⟨c1, c2, c3, c4, c5, c6⟩ | ⟨c1, c2, c3, c4, c5, c6, c7⟩
              · first | (exfalso; omega) | exact ⟨heq.upv, hsc.upv (v := σ (p + 12) i) c4, by omega, by omega, by omega, CV_s hi0 hcv hwl c6 (by omega) c7 (fun g _ => by unfold fOp; rw [if_pos c2, c3])⟩
              · first | (exfalso; omega) | exact ⟨heq.upv, hsc.upv (hnb _ (by omega) (by omega)), by omega, by omega, by omega, CV_s hi0 hcv hwl c6 (by omega) c7 (fun g _ => by unfold fOp; rw [if_neg (by omega), if_pos c3, c4, hnm _ c1 c2])⟩
              · first | (exfalso; omega) | exact ⟨heq.upv, hsc.upv (by split <;> exact ⟨by decide, by decide⟩), by omega, by omega, by omega, CV_s hi0 hcv hwl (by omega) (by omega) c6 (fun g hg => by unfold fOp fB; rw [if_neg (by omega), if_neg (by omega), if_pos c2, c4, ← hg (dp i - 1) (by omega) (by omega)]; first | (rw [if_pos (by omega)]; rfl) | (rw [if_neg (by omega)]; rfl))⟩
              · have c9 : 3 ≤ fKd (σ (p + 11) i) := by unfold fKd; repeat (first | omega | split)
                have c7' : ix (i + 1) = fun j => if j = dp i + -1 - 1 then i else ix i j := by rw [c7, show dp i + -1 - 1 = dp i - 2 by omega]
                first | (exfalso; omega) | exact ⟨heq.upv, hsc.upv (fJo_bd (hsc.1 _ (by omega) (by omega)) (hsc.1 _ (by omega) (by omega)) hve), by omega, by omega, by omega, CV_s hi0 hcv hwl (by omega) (by omega) c7' (fun g hg => by rw [fOp_jo (k := fKd (σ (p + 11) i)) c9 c2, c4, c5, ← hg (dp i - 2) (by omega) (by omega), ← hg (dp i - 1) (by omega) (by omega), show dp i - 2 = dp i + -1 - 1 by omega, show dp i - 1 = dp i + -1 by omega]; exact hve)⟩ | exact ⟨heq.upf.upv, (hsc.upf (Or.inr rfl)).upv ⟨by decide, by decide⟩, by omega, by omega, by omega, CV_f hi0 hsc.2 hcv (fun g hg => by rw [fOp_jo (k := fKd (σ (p + 11) i)) c9 c2, c4, c5, ← hg (dp i - 2) (by omega) (by omega), ← hg (dp i - 1) (by omega) (by omega), show dp i - 2 = dp i + -1 - 1 by omega, show dp i - 1 = dp i + -1 by omega]; exact hve)⟩
end SXK5
