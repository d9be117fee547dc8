/-! A FIELD BEGUN (by wip/whole) -/
section SXM20
variable {X : sx_X} {Q : sx_R} {s p c : Int} {σ σ0 σ' σ1 σ2 : sx_S} {P : aP} {A : aM}
def aM0 (P : aP) : aM := aM.mk 0 0 0 P.sd (fun _ => 0) (fun _ => 0) (fun _ => 0) (fun _ => 0) (fun _ => 0) (fun _ => 0) (fun _ => 0) (fun _ => 0)
def aW0 (P : aP) : aW := aW.mk P.ho (fun _ => 0) (fun w => w) (fun _ => 0) 0
theorem wM0 (wp : wP P) : wM P (aM0 P) 0 := by
  have v := wp.sd
  exact wM.mk (show 0 ≤ (0 : Int) ∧ (0 : Int) ≤ 90 by decide) (show 0 ≤ (0 : Int) ∧ (0 : Int) ≤ 9999 by decide) (show 0 ≤ (0 : Int) ∧ (0 : Int) ≤ 9999 by decide) (show 0 ≤ P.sd ∧ P.sd ≤ 2147483647 by omega) (fun m h0 h1 => by have h9 : m < 0 := h1; omega) (fun m h0 h1 => by have h9 : m < 0 := h1; omega) (fun m h0 h1 => by have h9 : m < 0 := h1; omega) (fun m h0 h1 => by have h9 : m < 0 := h1; omega) (fun m h0 h1 => by have h9 : m < 0 := h1; omega) (fun m h0 h1 => by have h9 : m < 0 := h1; omega) (fun m h0 h1 => by have h9 : m < 0 := h1; omega) (fun m h0 h1 => by have h9 : m < 0 := h1; omega)
theorem wW0 (wp : wP P) : wW P (aW0 P) 0 := wW.mk wp.ho (fun w h0 h1 => show 0 ≤ (0 : Int) ∧ (0 : Int) ≤ 0 by decide) (fun w h0 h1 => ⟨h0, h1⟩) (fun f h0 h1 => show 0 ≤ (0 : Int) ∧ (0 : Int) ≤ 4752 * 0 by decide) (show 0 ≤ (0 : Int) ∧ (0 : Int) ≤ 0 by decide)
theorem cS.empty0 {B : aM} (hs : isS s) (hn : B.n = 0) (e1 : σ (s + 4) 0 = 0) (e2 : σ s 7 = B.hr) (e3 : σ s 8 = B.sn) (e4 : σ s 10 = B.la) : cS s σ B :=
  cS.mk (e1.trans hn.symm) e2 e3 e4 (fun m h0 h1 => by omega) (fun m h0 h1 => by omega) (fun m h0 h1 => by omega) (fun m h0 h1 => by omega) (fun m h0 h1 => by omega) (fun m h0 h1 => by omega) (fun m h0 h1 => by omega) (fun m h0 h1 => by omega)
theorem rS.empty0 {B : aM} (hn : B.n = 0) (e1 : σ 154 0 = 0) (e2 : σ 156 0 = B.hr) (e3 : σ 155 0 = B.sn) (e4 : σ 124 73 = B.la) : rS 0 σ B :=
  rS.mk (e1.trans hn.symm) e2 e3 e4 (fun m h0 h1 => by omega) (fun m h0 h1 => by omega) (fun m h0 h1 => by omega) (fun m h0 h1 => by omega) (fun m h0 h1 => by omega) (fun m h0 h1 => by omega) (fun m h0 h1 => by omega) (fun m h0 h1 => by omega)
abbrev FBg (s a i : Int) : Prop := (a = s ∧ (i = 1 ∨ i = 7 ∨ i = 8 ∨ i = 9 ∨ i = 10)) ∨ (a = s + 4 ∧ i = 0) ∨ (s + 1 ≤ a ∧ a ≤ s + 3) ∨ a = s + 13
theorem FBg_pts : ([40, 55, 70] : List Int).all (fun s => ptL.all (fun q => decide (¬ FBg s q.1 q.2.1))) = true := by decide +kernel
theorem fr.ptbg {s : Int} {σ σ' : sx_S} (h : fr (FBg s) σ σ') (hs : isS s) (hT : PT σ) : PT σ' := hT.fr (fun q hq => h _ _ (by
  have h1 := List.all_eq_true.mp FBg_pts s (by rcases hs with e | e | e <;> subst e <;> decide)
  exact of_decide_eq_true (List.all_eq_true.mp h1 q hq)))
set_option maxRecDepth 20000 in
theorem c_Sbegin (hs : isS s) (hp : isP p) (wp : wP P) (hT : PT σ) (gp : cP p σ P) (hsc : SCC σ) (h : ∀ σ', fr (FBg s) σ σ' → GC s p P (aM0 P) σ' → cW P s σ' (aW0 P) → Q none shM σ') : sx_Run X 76 [.inr (.inr s), .inr (.inr p)] shM σ Q := by
  have k0 := lkS0 hs
  have k13 := lkS13 hs
  have q0 := lkP0 hp
  have esd := gp.sd
  have hsz := hs.ge
  have hps := ps_lt hp hs
  have hpz : p + 20 < 38 := by rcases hp with h9 | h9 <;> omega
  have v5 := wp.wa
  refine sx_rule0 (own := 9) (cd := kX9_begin) (nL := 2) (by decide +kernel) (by decide +kernel) kX9_begin_ok (by decide +kernel) (Nat.le_of_ble_eq_true rfl) 40 ?_
  conv => whnf
  refine ⟨(by first | assumption | rfl), ?_⟩
  try simp (disch := omega) only [Int.cast_ofNat_Int, up_s, up_a, up_i, mp_a, mp_ge]
  try simp only [esd]
  try simp only [s6]
  conv => whnf
  refine ⟨(by first | assumption | rfl), ?_⟩
  try simp (disch := omega) only [Int.cast_ofNat_Int, up_s, up_a, up_i, mp_a, mp_ge]
  try simp only [esd]
  try simp only [s6]
  conv => whnf
  refine ⟨(by first | assumption | rfl), ?_⟩
  try simp (disch := omega) only [Int.cast_ofNat_Int, up_s, up_a, up_i, mp_a, mp_ge]
  try simp only [esd]
  try simp only [s6]
  conv => whnf
  refine ⟨(by first | assumption | rfl), ?_⟩
  try simp (disch := omega) only [Int.cast_ofNat_Int, up_s, up_a, up_i, mp_a, mp_ge]
  try simp only [esd]
  try simp only [s6]
  conv => whnf
  refine ⟨(by first | assumption | rfl), ?_⟩
  try simp (disch := omega) only [Int.cast_ofNat_Int, up_s, up_a, up_i, mp_a, mp_ge]
  try simp only [esd]
  try simp only [s6]
  generalize e1 : sx_up (sx_up (sx_up (sx_up σ s 1 p) s 7 0) s 9 0) s 10 P.sd = σ1
  have f1 : fr (FBg s) σ σ1 := fun a i z9 => by unfold FBg at z9; rw [← e1, up_n (by omega), up_n (by omega), up_n (by omega), up_n (by omega)]
  have T1 := f1.ptbg hs hT
  have s6 := ptS_6 T1 hs
  have y1 : σ1 s 1 = p := by rw [← e1, up_i (by decide), up_i (by decide), up_i (by decide), up_s]
  have y7 : σ1 s 7 = 0 := by rw [← e1, up_i (by decide), up_i (by decide), up_s]
  have y9 : σ1 s 9 = 0 := by rw [← e1, up_i (by decide), up_s]
  have y10 : σ1 s 10 = P.sd := by rw [← e1, up_s]
  conv => whnf
  refine ⟨(by first | assumption | rfl), ?_⟩
  try simp (disch := omega) only [Int.cast_ofNat_Int, up_s, up_a, up_i, mp_a, mp_ge]
  try simp only [esd]
  try simp only [s6]
  conv => whnf
  refine ⟨Nat.le_of_ble_eq_true rfl, Nat.le_of_ble_eq_true rfl, ?_⟩
  refine c_fill (lkS13 hs) (by decide) ?_
  generalize e2 : sx_fil σ1 (s + 13) _ 0 = σ2
  have f2 : fr (FBg s) σ σ2 := f1.trans (fun a i z9 => by unfold FBg at z9; rw [← e2, fil_a (by omega)])
  have T2 := f2.ptbg hs hT
  have x2 : ∀ a i : Int, ¬ a = s + 13 → σ2 a i = σ1 a i := fun a i z9 => by rw [← e2, fil_a z9]
  have db2 : ∀ f : Int, 0 ≤ f → f < 3 → σ2 (s + 13) f = 0 := fun f y0 y1 => by rw [← e2, fil_in y0 (show f < ((3 : Nat) : Int) from y1)]
  conv => whnf
  refine ⟨Nat.le_of_ble_eq_true rfl, Nat.le_of_ble_eq_true rfl, (by first | assumption | rfl), ?_⟩
  refine c_Sclear T2 hs hp ((x2 _ _ (by omega)).trans y1) ?_
  generalize e3 : sx_m3 _ _ _ _ _ _ = σ3
  conv => whnf
  refine ⟨rfl, ?_⟩
  have x3 : ∀ a i : Int, ¬ (a = s + 4 ∧ i = 0) → ¬ (a = s ∧ i = 8) → ¬ (s + 1 ≤ a ∧ a ≤ s + 3) → σ3 a i = σ2 a i := fun a i z1 z2 z3 => by rw [← e3, m3_o (by omega) (by omega) (by omega), up_n z2, up_n z1]
  have f3 : fr (FBg s) σ σ3 := f2.trans (fun a i z9 => x3 a i (by unfold FBg at z9; omega) (by unfold FBg at z9; omega) (by unfold FBg at z9; omega))
  have gp3 : cP p σ3 P := gp.of (fun a i z1 z2 => f3 a i (by unfold FBg; omega))
  have q6 : σ2 p 6 = P.wa := (f2 _ _ (by unfold FBg; omega)).trans gp.wa
  refine h σ3 f3 (GC.mk (f3.ptbg hs hT) ?_ gp3 (cS.empty0 hs rfl ?_ ?_ ?_ ?_) (hsc.of (fun a i z1 z2 => f3 a i (by unfold FBg; omega)))) (cW.mk (fun w y0 y1 => ?_) (fun w y0 y1 => ?_) (fun w y0 y1 => ?_) (fun f y0 y1 => ?_) ?_)
  · rw [x3 _ _ (by omega) (by omega) (by omega), x2 _ _ (by omega)]; exact y1
  · rw [← e3, m3_o (by omega) (by omega) (by omega), up_a (by omega), up_s]
  · rw [x3 _ _ (by omega) (by omega) (by omega), x2 _ _ (by omega)]; exact y7
  · rw [← e3, m3_o (by omega) (by omega) (by omega), up_s]; rfl
  · rw [x3 _ _ (by omega) (by omega) (by omega), x2 _ _ (by omega)]; exact y10
  · rw [← e3, m3_1 (by omega) (by omega) y0 (by omega), q6, if_pos y1, f2 _ _ (by unfold FBg; omega), gp.ho w y0 y1]; rfl
  · rw [← e3, m3_2 (by omega) y0 (by omega)]; rfl
  · rw [← e3, m3_3 y0 (by omega)]; rfl
  · rw [x3 _ _ (by omega) (by omega) (by omega)]; exact db2 f y0 y1
  · rw [x3 _ _ (by omega) (by omega) (by omega), x2 _ _ (by omega)]; exact y9
abbrev FBr (a i : Int) : Prop := (a = 124 ∧ ((72 ≤ i ∧ i ≤ 75) ∨ i = 83 ∨ i = 85)) ∨ (154 ≤ a ∧ a ≤ 156 ∧ i = 0) ∨ (157 ≤ a ∧ a ≤ 160)
theorem FBr_pts : ptL.all (fun q => decide (¬ FBr q.1 q.2.1)) = true := by decide +kernel
theorem fr.ptbr {σ σ' : sx_S} (h : fr FBr σ σ') (hT : PT σ) : PT σ' := hT.fr (fun q hq => h _ _ (of_decide_eq_true (List.all_eq_true.mp FBr_pts q hq)))
set_option maxRecDepth 20000 in
theorem c_Rbegin (wp : wP P) (hT : PT σ) (gp : rP σ P) (hsc : SCK σ) (h : ∀ σ', fr FBr σ σ' → GR 0 P (aM0 P) σ' → rW P σ' (aW0 P) → σ' 124 74 = 0 → σ' 124 75 = -1 → σ' 124 83 = 0 → σ' 124 85 = 0 → Q none shM σ') : sx_Run X 224 [.inr (.inr 124)] shM σ Q := by
  have v5 := wp.wa
  refine sx_rule2 (own := 12) (cd := kX12_begin) (nL := 2) (by decide +kernel) (by decide +kernel) kX12_begin_ok (by decide +kernel) (Nat.le_of_ble_eq_true rfl) [13] 40 (fun n t L st _ σ' => (t = 13 ∧ ∃ j : Int, st = [] ∧ L = [some (.inr (.inr (124))), some (.inl (j))] ∧ (fr FBr σ σ' ∧ σ' 154 0 = 0 ∧ σ' 155 0 = 0 ∧ σ' 156 0 = 0 ∧ (∀ w : Int, 0 ≤ w → w < 5 → σ' 157 w = σ 134 w ∧ σ' 158 w = 0 ∧ σ' 159 w = w) ∧ (∀ f : Int, 0 ≤ f → f < j → σ' 160 f = 0) ∧ 0 ≤ j ∧ j ≤ 3) ∧ n = (3 - j).toNat)) ?_ ?_
  · skip
    conv => whnf
    refine ⟨Nat.le_of_ble_eq_true rfl, Nat.le_of_ble_eq_true rfl, (by first | assumption | rfl), ?_⟩
    refine c_Rgohome hT ?_
    generalize e1 : sx_m3 _ _ _ _ _ _ = σ1
    have x1 : ∀ a i : Int, ¬ (154 ≤ a ∧ a ≤ 155 ∧ i = 0) → ¬ (157 ≤ a ∧ a ≤ 159) → σ1 a i = σ a i := fun a i z1 z2 => by rw [← e1, m3_o (by omega) (by omega) (by omega), up_n (by omega), up_n (by omega)]
    have f1 : fr FBr σ σ1 := fun a i z9 => x1 a i (by unfold FBr at z9; omega) (by unfold FBr at z9; omega)
    have r67 := pt_124_67 (f1.ptbr hT)
    conv => whnf
    refine ⟨(by first | assumption | rfl), ?_⟩
    try simp (disch := omega) only [Int.cast_ofNat_Int, up_s, up_a, up_i, mp_a, mp_ge]
    try simp only [r67]
    try simp only [r71]
    try simp only [esd]
    conv => whnf
    refine ⟨sx_ixI (by first | assumption | rfl) (by omega) (by omega), ?_⟩
    conv => whnf
    refine ⟨_, ⟨rfl, _, rfl, rfl, ?_, rfl⟩⟩
    exact ⟨f1.trans (fun a i z9 => by unfold FBr at z9; rw [up_n (by omega)]), by rw [up_a (by decide), ← e1, m3_o (by decide) (by decide) (by decide), up_a (by decide), up_s], by rw [up_a (by decide), ← e1, m3_o (by decide) (by decide) (by decide), up_s], up_s, fun w y0 y1 => ⟨by rw [up_a (by decide), ← e1, m3_1 (by decide) (by decide) y0 y1], by rw [up_a (by decide), ← e1, m3_2 (by decide) y0 y1], by rw [up_a (by decide), ← e1, m3_3 y0 y1]⟩, fun f y0 y1 => by omega, by omega, by omega⟩
  · intro n t L st σ' hk
    obtain ⟨rfl, j, rfl, rfl, hc, rfl⟩ := hk
    obtain ⟨hfi, h54, h55, h56, hw, hdb, hj0, hj1⟩ := hc
    have Tc := hfi.ptbr hT
    have r71 := pt_124_71 Tc
    have esd : σ' 124 17 = P.sd := (hfi _ _ (by decide)).trans gp.sd
    conv => whnf
    refine ⟨fun g => ?_, fun g => ?_⟩
    · simp only [sx_cc, Classical.not_not] at g
      conv => whnf
      refine ⟨(by first | assumption | rfl), ?_⟩
      try simp (disch := omega) only [Int.cast_ofNat_Int, up_s, up_a, up_i, mp_a, mp_ge]
      try simp only [r67]
      try simp only [r71]
      try simp only [esd]
      conv => whnf
      refine ⟨(by first | assumption | rfl), ?_⟩
      try simp (disch := omega) only [Int.cast_ofNat_Int, up_s, up_a, up_i, mp_a, mp_ge]
      try simp only [r67]
      try simp only [r71]
      try simp only [esd]
      conv => whnf
      refine ⟨(by first | assumption | rfl), ?_⟩
      try simp (disch := omega) only [Int.cast_ofNat_Int, up_s, up_a, up_i, mp_a, mp_ge]
      try simp only [r67]
      try simp only [r71]
      try simp only [esd]
      conv => whnf
      refine ⟨(by first | assumption | rfl), ?_⟩
      try simp (disch := omega) only [Int.cast_ofNat_Int, up_s, up_a, up_i, mp_a, mp_ge]
      try simp only [r67]
      try simp only [r71]
      try simp only [esd]
      conv => whnf
      refine ⟨(by first | assumption | rfl), ?_⟩
      try simp (disch := omega) only [Int.cast_ofNat_Int, up_s, up_a, up_i, mp_a, mp_ge]
      try simp only [r67]
      try simp only [r71]
      try simp only [esd]
      conv => whnf
      refine ⟨(by first | assumption | rfl), ?_⟩
      try simp (disch := omega) only [Int.cast_ofNat_Int, up_s, up_a, up_i, mp_a, mp_ge]
      try simp only [r67]
      try simp only [r71]
      try simp only [esd]
      conv => whnf
      refine ⟨(by first | assumption | rfl), by omega, ?_⟩
      try simp (disch := omega) only [Int.cast_ofNat_Int, up_s, up_a, up_i, mp_a, mp_ge]
      try simp only [r67]
      try simp only [r71]
      try simp only [esd]
      conv => whnf
      refine ⟨rfl, ?_⟩
      generalize e8 : sx_up _ 124 85 0 = σ8
      have x8 : ∀ a i : Int, ¬ (a = 124 ∧ ((72 ≤ i ∧ i ≤ 75) ∨ i = 83 ∨ i = 85)) → σ8 a i = σ' a i := fun a i z9 => by rw [← e8, up_n (by omega), up_n (by omega), up_n (by omega), up_n (by omega), up_n (by omega), up_n (by omega)]
      have f8 : fr FBr σ σ8 := hfi.trans (fun a i z9 => x8 a i (by unfold FBr at z9; omega))
      have gp8 : rP σ8 P := gp.of (fun a i z1 z2 => f8 a i (by unfold FBr; omega)) (fun i z1 z2 => f8 _ i (by unfold FBr; omega))
      refine h σ8 f8 (GR.mk (f8.ptbr hT) gp8 (rS.empty0 rfl ((x8 _ _ (by decide)).trans h54) ((x8 _ _ (by decide)).trans h56) ((x8 _ _ (by decide)).trans h55) ?_) (hsc.of (fun i => f8 _ i (by unfold FBr; omega)) (f8 _ _ (by decide)))) (rW.mk (fun w y0 y1 => ?_) (fun w y0 y1 => ?_) (fun w y0 y1 => ?_) (fun f y0 y1 => ?_) ?_) ?_ ?_ ?_ ?_
      · rw [← e8, up_i (by decide), up_i (by decide), up_i (by decide), up_i (by decide), up_s]; rfl
      · rw [x8 _ _ (by omega), (hw w y0 (by omega)).1, gp.ho w y0 y1]; rfl
      · rw [x8 _ _ (by omega), (hw w y0 (by omega)).2.1]; rfl
      · rw [x8 _ _ (by omega), (hw w y0 (by omega)).2.2]; rfl
      · rw [x8 _ _ (by omega), hdb f y0 (by omega)]; rfl
      · rw [← e8, up_i (by decide), up_i (by decide), up_i (by decide), up_i (by decide), up_i (by decide), up_s]; rfl
      · rw [← e8, up_i (by decide), up_i (by decide), up_i (by decide), up_s]
      · rw [← e8, up_i (by decide), up_i (by decide), up_s]
      · rw [← e8, up_i (by decide), up_s]
      · rw [← e8, up_s]
    · simp only [sx_cc, Classical.not_not] at g
      conv => whnf
      refine ⟨(by first | assumption | rfl), ?_⟩
      try simp (disch := omega) only [Int.cast_ofNat_Int, up_s, up_a, up_i, mp_a, mp_ge]
      try simp only [r67]
      try simp only [r71]
      try simp only [esd]
      conv => whnf
      refine ⟨sx_ixI (by first | assumption | rfl) (by omega) (by omega), ?_⟩
      conv => whnf
      refine ⟨⟨by omega, by omega⟩, ?_⟩
      conv => whnf
      refine ⟨_, ?_, ⟨rfl, _, rfl, rfl, ?_, rfl⟩⟩
      · omega
      · refine ⟨hfi.trans (fun a i z9 => by unfold FBr at z9; rw [up_a (by omega)]), by rw [up_a (by decide)]; exact h54, by rw [up_a (by decide)]; exact h55, by rw [up_a (by decide)]; exact h56, fun w y0 y1 => by simp (disch := decide) only [up_a]; exact hw w y0 y1, fun f y0 y1 => ?_, by omega, by omega⟩
        by_cases e9 : f = j
        · rw [e9, up_s]
        · rw [up_i e9]; exact hdb f y0 (by omega)
set_option maxRecDepth 20000 in
theorem c_Rcopies {to x : Int} {len : Nat} (hto : sx_lk shM to = (1, len)) (hx : 0 ≤ x) (hl : x + x ≤ (len : Int)) (hln : (len : Int) ≤ 100000) (h : ∀ σ', (∀ a y : Int, ¬ (a = to ∧ 0 ≤ y ∧ y < x) → σ' a y = σ a y) → (∀ y : Int, 0 ≤ y → y < x → σ' to y = σ to (x + y)) → Q none shM σ') : sx_Run X 190 [.inr (.inr to), .inl x] shM σ Q := by
  refine sx_rule2 (own := 12) (cd := kX12_copies) (nL := 3) (by decide +kernel) (by decide +kernel) kX12_copies_ok (by decide +kernel) (Nat.le_of_ble_eq_true rfl) [2] 40 (fun n t L st _ σ' => (t = 2 ∧ ∃ j : Int, st = [] ∧ L = [some (.inr (.inr (to))), some (.inl (x)), some (.inl (j))] ∧ ((∀ a y : Int, ¬ (a = to ∧ 0 ≤ y ∧ y < j) → σ' a y = σ a y) ∧ (∀ y : Int, 0 ≤ y → y < j → σ' to y = σ to (x + y)) ∧ 0 ≤ j ∧ j ≤ x) ∧ n = (x - j).toNat)) ?_ ?_
  · skip
    conv => whnf
    refine ⟨_, ⟨rfl, _, rfl, rfl, ?_, rfl⟩⟩
    exact ⟨fun a y z => rfl, fun y y0 y1 => by omega, by omega, by omega⟩
  · intro n t L st σ' hk
    obtain ⟨rfl, j, rfl, rfl, hc, rfl⟩ := hk
    obtain ⟨hfi, hcp, hj0, hj1⟩ := hc
    have ej : σ' to (x + j) = σ to (x + j) := hfi _ _ (by omega)
    conv => whnf
    refine ⟨fun g => ?_, fun g => ?_⟩
    · simp only [sx_cc, Classical.not_not] at g
      conv => whnf
      refine ⟨rfl, ?_⟩
      have e9 : j = x := by omega
      subst e9
      exact h _ hfi hcp
    · simp only [sx_cc, Classical.not_not] at g
      conv => whnf
      refine ⟨⟨by omega, by omega⟩, ?_⟩
      conv => whnf
      refine ⟨sx_ixI (by first | assumption | rfl) (by omega) (by omega), ?_⟩
      try simp (disch := omega) only [Int.cast_ofNat_Int, up_s, up_a, up_i, mp_a, mp_ge]
      try simp only [ej]
      conv => whnf
      refine ⟨sx_ixI (by first | assumption | rfl) (by omega) (by omega), ?_⟩
      conv => whnf
      refine ⟨⟨by omega, by omega⟩, ?_⟩
      conv => whnf
      refine ⟨_, ?_, ⟨rfl, _, rfl, rfl, ?_, rfl⟩⟩
      · omega
      · refine ⟨fun a y z9 => by rw [up_n (by omega)]; exact hfi a y (by omega), fun y y0 y1 => ?_, by omega, by omega⟩
        by_cases e9 : y = j
        · rw [e9, up_s]
        · rw [up_i e9]; exact hcp y y0 (by omega)
end SXM20
