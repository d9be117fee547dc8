/-! LAW over the abstract snow; walkers and debts (by wip/whole) -/
section SXL5
variable {X : sx_X} {Q : sx_R} {s p b c : Int} {σ σ0 σ' : sx_S} {P : aP} {A : aM}
def aW : Type := (Int → Int) × (Int → Int) × (Int → Int) × (Int → Int) × (Int)
def aW.at1 (A : aW) : Int → Int := A.1
def aW.st (A : aW) : Int → Int := A.2.1
def aW.bt (A : aW) : Int → Int := A.2.2.1
def aW.db (A : aW) : Int → Int := A.2.2.2.1
def aW.wi (A : aW) : Int := A.2.2.2.2
def aW.mk (at19 : Int → Int) (st9 : Int → Int) (bt9 : Int → Int) (db9 : Int → Int) (wi9 : Int) : aW := (at19, st9, bt9, db9, wi9)
def cW (P : aP) (s : Int) (σ : sx_S) (W : aW) : Prop := (∀ w : Int, 0 ≤ w → w < P.wa → σ (s + 1) w = W.at1 w) ∧ (∀ w : Int, 0 ≤ w → w < P.wa → σ (s + 2) w = W.st w) ∧ (∀ w : Int, 0 ≤ w → w < P.wa → σ (s + 3) w = W.bt w) ∧ (∀ f : Int, 0 ≤ f → f < 3 → σ (s + 13) f = W.db f) ∧ (σ s 9 = W.wi)
theorem cW.at1 {P : aP} {s : Int} {σ : sx_S} {W : aW} (h : cW P s σ W) : ∀ w : Int, 0 ≤ w → w < P.wa → σ (s + 1) w = W.at1 w := h.1
theorem cW.st {P : aP} {s : Int} {σ : sx_S} {W : aW} (h : cW P s σ W) : ∀ w : Int, 0 ≤ w → w < P.wa → σ (s + 2) w = W.st w := h.2.1
theorem cW.bt {P : aP} {s : Int} {σ : sx_S} {W : aW} (h : cW P s σ W) : ∀ w : Int, 0 ≤ w → w < P.wa → σ (s + 3) w = W.bt w := h.2.2.1
theorem cW.db {P : aP} {s : Int} {σ : sx_S} {W : aW} (h : cW P s σ W) : ∀ f : Int, 0 ≤ f → f < 3 → σ (s + 13) f = W.db f := h.2.2.2.1
theorem cW.wi {P : aP} {s : Int} {σ : sx_S} {W : aW} (h : cW P s σ W) : σ s 9 = W.wi := h.2.2.2.2
theorem cW.mk {P : aP} {s : Int} {σ : sx_S} {W : aW} (at19 : ∀ w : Int, 0 ≤ w → w < P.wa → σ (s + 1) w = W.at1 w) (st9 : ∀ w : Int, 0 ≤ w → w < P.wa → σ (s + 2) w = W.st w) (bt9 : ∀ w : Int, 0 ≤ w → w < P.wa → σ (s + 3) w = W.bt w) (db9 : ∀ f : Int, 0 ≤ f → f < 3 → σ (s + 13) f = W.db f) (wi9 : σ s 9 = W.wi) : cW P s σ W := ⟨at19, st9, bt9, db9, wi9⟩
def rW (P : aP) (σ : sx_S) (W : aW) : Prop := (∀ w : Int, 0 ≤ w → w < P.wa → σ 157 w = W.at1 w) ∧ (∀ w : Int, 0 ≤ w → w < P.wa → σ 158 w = W.st w) ∧ (∀ w : Int, 0 ≤ w → w < P.wa → σ 159 w = W.bt w) ∧ (∀ f : Int, 0 ≤ f → f < 3 → σ 160 f = W.db f) ∧ (σ 124 72 = W.wi)
theorem rW.at1 {P : aP} {σ : sx_S} {W : aW} (h : rW P σ W) : ∀ w : Int, 0 ≤ w → w < P.wa → σ 157 w = W.at1 w := h.1
theorem rW.st {P : aP} {σ : sx_S} {W : aW} (h : rW P σ W) : ∀ w : Int, 0 ≤ w → w < P.wa → σ 158 w = W.st w := h.2.1
theorem rW.bt {P : aP} {σ : sx_S} {W : aW} (h : rW P σ W) : ∀ w : Int, 0 ≤ w → w < P.wa → σ 159 w = W.bt w := h.2.2.1
theorem rW.db {P : aP} {σ : sx_S} {W : aW} (h : rW P σ W) : ∀ f : Int, 0 ≤ f → f < 3 → σ 160 f = W.db f := h.2.2.2.1
theorem rW.wi {P : aP} {σ : sx_S} {W : aW} (h : rW P σ W) : σ 124 72 = W.wi := h.2.2.2.2
theorem rW.mk {P : aP} {σ : sx_S} {W : aW} (at19 : ∀ w : Int, 0 ≤ w → w < P.wa → σ 157 w = W.at1 w) (st9 : ∀ w : Int, 0 ≤ w → w < P.wa → σ 158 w = W.st w) (bt9 : ∀ w : Int, 0 ≤ w → w < P.wa → σ 159 w = W.bt w) (db9 : ∀ f : Int, 0 ≤ f → f < 3 → σ 160 f = W.db f) (wi9 : σ 124 72 = W.wi) : rW P σ W := ⟨at19, st9, bt9, db9, wi9⟩
def wW (P : aP) (W : aW) (k : Int) : Prop := (∀ w : Int, 0 ≤ w → w < P.wa → 0 ≤ W.at1 w ∧ W.at1 w < P.w * P.h) ∧ (∀ w : Int, 0 ≤ w → w < P.wa → 0 ≤ W.st w ∧ W.st w ≤ k) ∧ (∀ w : Int, 0 ≤ w → w < P.wa → 0 ≤ W.bt w ∧ W.bt w < P.wa) ∧ (∀ f : Int, 0 ≤ f → f < 3 → 0 ≤ W.db f ∧ W.db f ≤ 4752 * k) ∧ (0 ≤ W.wi ∧ W.wi ≤ k)
theorem wW.at1 {P : aP} {W : aW} {k : Int} (h : wW P W k) : ∀ w : Int, 0 ≤ w → w < P.wa → 0 ≤ W.at1 w ∧ W.at1 w < P.w * P.h := h.1
theorem wW.st {P : aP} {W : aW} {k : Int} (h : wW P W k) : ∀ w : Int, 0 ≤ w → w < P.wa → 0 ≤ W.st w ∧ W.st w ≤ k := h.2.1
theorem wW.bt {P : aP} {W : aW} {k : Int} (h : wW P W k) : ∀ w : Int, 0 ≤ w → w < P.wa → 0 ≤ W.bt w ∧ W.bt w < P.wa := h.2.2.1
theorem wW.db {P : aP} {W : aW} {k : Int} (h : wW P W k) : ∀ f : Int, 0 ≤ f → f < 3 → 0 ≤ W.db f ∧ W.db f ≤ 4752 * k := h.2.2.2.1
theorem wW.wi {P : aP} {W : aW} {k : Int} (h : wW P W k) : 0 ≤ W.wi ∧ W.wi ≤ k := h.2.2.2.2
theorem wW.mk {P : aP} {W : aW} {k : Int} (at19 : ∀ w : Int, 0 ≤ w → w < P.wa → 0 ≤ W.at1 w ∧ W.at1 w < P.w * P.h) (st9 : ∀ w : Int, 0 ≤ w → w < P.wa → 0 ≤ W.st w ∧ W.st w ≤ k) (bt9 : ∀ w : Int, 0 ≤ w → w < P.wa → 0 ≤ W.bt w ∧ W.bt w < P.wa) (db9 : ∀ f : Int, 0 ≤ f → f < 3 → 0 ≤ W.db f ∧ W.db f ≤ 4752 * k) (wi9 : 0 ≤ W.wi ∧ W.wi ≤ k) : wW P W k := ⟨at19, st9, bt9, db9, wi9⟩
theorem cW.of {W : aW} (h : cW P s σ W) (e : ∀ a i : Int, (s + 1 ≤ a ∧ a ≤ s + 3) ∨ a = s + 13 ∨ (a = s ∧ i = 9) → σ' a i = σ a i) : cW P s σ' W := by
  have r : ∀ a : Int, (s + 1 ≤ a ∧ a ≤ s + 3) ∨ a = s + 13 → σ' a = σ a := fun a z => funext fun i => e a i (by omega)
  unfold cW
  rw [r (s + 1) (by omega), r (s + 2) (by omega), r (s + 3) (by omega), r (s + 13) (by omega), e s 9 (by omega)]
  exact h
theorem rW.of {W : aW} (h : rW P σ W) (e : ∀ a i : Int, (157 ≤ a ∧ a ≤ 160) ∨ (a = 124 ∧ i = 72) → σ' a i = σ a i) : rW P σ' W := by
  have r : ∀ a : Int, (157 ≤ a ∧ a ≤ 160) → σ' a = σ a := fun a z => funext fun i => e a i (by omega)
  unfold rW
  rw [r 157 (by decide), r 158 (by decide), r 159 (by decide), r 160 (by decide), e 124 72 (by decide)]
  exact h
theorem a_Sdeep (hs : isS s) (hp : isP p) (wp : wP P) (wm : wM P A c) (g : GC s p P A σ) {w e : Int} (hw : 0 ≤ w ∧ w < P.wa) (he : 0 ≤ e ∧ e < P.w * P.h) (h : ∀ σ', eqD σ σ' → GC s p P A σ' → (∀ x, P.lw 2 (aNw P A w e) = some x → pB12 x) → Q (some (.inr (.inl (fLv (P.lw 2 (aNw P A w e)))))) shM σ') : sx_Run X 81 [.inr (.inr s), .inl w, .inl e] shM σ Q := by
  have v4 := wp.wh
  have v5 := wp.wa
  have en : fNm (σ (p + 6) w) (σ (p + 7) w) (fFar (σ p 0) e (σ (p + 8) w)) 0 0 (σ s 8) (fB (σ (p + 2) e = σ (p + 5) w)) = aNw P A w e := by
    unfold aNw
    rw [g.cp.we w hw.1 hw.2, g.cp.ga w hw.1 hw.2, g.cp.w, g.cp.ho w hw.1 hw.2, g.cs.sn]
    congr 1
    simp only [g.cp.gr e he.1 (by omega), g.cp.fo w hw.1 hw.2]
  refine c_Sdeeplaw g.pt hs hp g.ep (g.cp.pd wp) g.sc (o := P.lw 2 (aNw P A w e)) ⟨hw.1, by omega⟩ ⟨he.1, by omega⟩ (g.cp.hb _ hw.1 (by omega)) (fun j _ _ => ?_) ?_ (fun σ' e1 e2 e3 => h σ' e1 (g.eqD hs hp e1 e2) e3)
  · rw [en]; exact aNw_b wp wm hw.1 hw.2 he.1 (by omega) j
  · rw [en]; exact g.cp.lw 2 _ (by decide) (by decide) (fun j _ _ => aNw_b wp wm hw.1 hw.2 he.1 (by omega) j)
theorem a_Rlaynames (hb : b = 0 ∨ b = 1) (wp : wP P) (g : GR b P A σ) {w e : Int} (hw : 0 ≤ w ∧ w < P.wa) (he : 0 ≤ e ∧ e < P.w * P.h) (h : ∀ σ', eqR σ σ' → GR b P A σ' → (∀ j : Int, 0 ≤ j → j < 7 → σ' 144 j = aNw P A w e j) → Q none shM σ') : sx_Run X 229 [.inr (.inr 124), .inl b, .inl w, .inl e, .inl 0, .inl 0] shM σ Q := by
  have v4 := wp.wh
  have v5 := wp.wa
  refine c_Rlaynames g.pt (g.rp.rd wp) hb ⟨hw.1, by omega⟩ ⟨he.1, by omega⟩ (g.rp.hb _ hw.1 (by omega)) ?_
  have en : fNm (σ 132 w) (σ 133 w) (fFar (σ 124 12) e (σ 134 w)) 0 0 (σ 155 b) (fB (σ 128 e = σ 131 w)) = aNw P A w e := by
    unfold aNw
    rw [g.rp.we w hw.1 hw.2, g.rp.ga w hw.1 hw.2, g.rp.w, g.rp.ho w hw.1 hw.2, g.rs.sn]
    congr 1
    simp only [g.rp.gr e he.1 (by omega), g.rp.fo w hw.1 hw.2]
  rw [en]
  generalize e9 : sx_mp _ 144 _ _ = σ'
  have hq : eqR σ σ' := fun a i z1 z2 z3 => by rw [← e9, mp_a z1]
  exact h σ' hq (g.eqR hq (by rw [← e9]; exact SCK_mp g.sc _)) (fun j y0 y1 => by rw [← e9, mp_in y0 y1])
theorem a_Rlaw (g : GR b P A σ) {k kr : Int} {nm : Int → Int} (hk : 0 ≤ k ∧ k < 3) (hkr : kr = fLk k) (hnm : ∀ j : Int, 0 ≤ j → j < 7 → σ 144 j = nm j) (hnb : ∀ j : Int, 0 ≤ j → j < 7 → pB12 (nm j)) (ht : ¬ σ 136 kr = 0) (h0 : ∀ σ' v, eqR σ σ' → GR b P A σ' → σ' 124 56 = 0 → P.lw k nm = some v → Q (some (.inr (.inl v))) shM σ') (h1 : ∀ σ' v, eqR σ σ' → GR b P A σ' → σ' 124 56 = 1 → P.lw k nm = none → Q (some (.inr (.inl v))) shM σ') : sx_Run X 231 [.inr (.inr 124), .inl kr] shM σ Q := by
  have hk6 : 0 ≤ kr ∧ kr < 6 := by rw [hkr]; unfold fLk; split <;> omega
  have hl1 := g.rp.l1 k hk.1 hk.2
  have hl2 := g.rp.l2 k nm hk.1 hk.2
  rw [← hkr] at hl1 hl2
  have hb := hl1 ht
  have hlw := hl2 ht
  rw [← fLaw_nm (nm := σ 144) (by omega) (fun x y0 y1 y2 => hnm _ ((hb.2 x y0 y1).1.2.2.2.1 y2).1 ((hb.2 x y0 y1).1.2.2.2.1 y2).2)] at hlw
  refine c_Rlaw g.pt g.sc hk6 hb.1 hb.2 (fun j y0 y1 => by rw [hnm j y0 y1]; exact hnb j y0 y1) (fun σ' v heq hsc hv y0 y1 => ?_)
  have e9 : eqR σ σ' := fun a i z1 z2 z3 => heq a i z2 z3
  rcases hsc.2 with e | e
  · obtain ⟨g9, y2, y3⟩ := y0 e
    exact h0 σ' v e9 (g.eqR e9 hsc) e (by rw [hlw, fLaw_s y2, y3])
  · exact h1 σ' v e9 (g.eqR e9 hsc) e (by rw [hlw, fLaw_n (y1 e)])
/-- law's answer -/
def aLaw (P : aP) (A : aM) (W : aW) (k x : Int) : Int := if k = 0 ∨ k = 1 then (if 0 ≤ x ∧ x < A.n ∧ 0 < A.dp x then fLv (P.lw k (aNm P A x)) else -9223372036854775808) else if k = 2 then (if 0 ≤ x ∧ x < P.wa then fLv (P.lw 2 (aNw P A x (W.at1 x))) else -9223372036854775808) else -9223372036854775808
theorem aLaw_m {W : aW} {k x : Int} (hk : k = 0 ∨ k = 1) (hx : 0 ≤ x ∧ x < A.n ∧ 0 < A.dp x) : aLaw P A W k x = fLv (P.lw k (aNm P A x)) := by unfold aLaw; rw [if_pos hk, if_pos hx]
theorem aLaw_m0 {W : aW} {k x : Int} (hk : k = 0 ∨ k = 1) (hx : ¬ (0 ≤ x ∧ x < A.n ∧ 0 < A.dp x)) : aLaw P A W k x = -9223372036854775808 := by unfold aLaw; rw [if_pos hk, if_neg hx]
theorem aLaw_w {W : aW} {x : Int} (hx : 0 ≤ x ∧ x < P.wa) : aLaw P A W 2 x = fLv (P.lw 2 (aNw P A x (W.at1 x))) := by unfold aLaw; rw [if_neg (by decide), if_pos rfl, if_pos hx]
theorem aLaw_w0 {W : aW} {x : Int} (hx : ¬ (0 ≤ x ∧ x < P.wa)) : aLaw P A W 2 x = -9223372036854775808 := by unfold aLaw; rw [if_neg (by decide), if_pos rfl, if_neg hx]
theorem aLaw_0 {W : aW} {k x : Int} (h0 : ¬ k = 0) (h1 : ¬ k = 1) (h2 : ¬ k = 2) : aLaw P A W k x = -9223372036854775808 := by unfold aLaw; rw [if_neg (by omega), if_neg h2]
set_option maxRecDepth 20000 in
theorem c_law {W : aW} (hp : isP p) (e2 : σ 0 2 = p) (wp : wP P) (wm : wM P A c) (g0 : GC 40 p P A σ) (hW : cW P 40 σ W) (hwa : ∀ w : Int, 0 ≤ w → w < P.wa → 0 ≤ W.at1 w ∧ W.at1 w < P.w * P.h) {k x : Int} (h : ∀ σ', eqD σ σ' → GC 40 p P A σ' → Q (some (.inr (.inl (aLaw P A W k x)))) shM σ') : sx_Run X 131 [.inr (.inr 0), .inl k, .inl x] shM σ Q := by
  have a2 := e2
  have a6 := pt_0_6 g0.pt
  have hs : isS 40 := Or.inl rfl
  have s5 := ptS_5 g0.pt hs
  have s2 := ptS_2 g0.pt hs
  have k0 := lkS0 hs
  have k1 := lkS1 hs
  have q0 := lkP0 hp
  have wn := wm.n
  refine sx_rule0 (own := 11) (cd := kX11_law) (nL := 3) (by decide +kernel) (by decide +kernel) kX11_law_ok (by decide +kernel) (Nat.le_of_ble_eq_true rfl) 40 ?_
  conv => whnf
  refine ⟨fun g => ?_, ?_⟩
  · skip
    conv => whnf
    have h9 := h _ (eqD_rfl σ) g0
    rw [aLaw_0 (by omega) (by omega) (by omega)] at h9
    exact h9
  conv => whnf
  refine ⟨fun g => ?_, ?_⟩
  · skip
    have g9 : k = 0 := (by omega)
    subst g9
    conv => whnf
    refine ⟨(by first | assumption | rfl), ?_⟩
    try simp (disch := omega) only [Int.cast_ofNat_Int, up_s, up_a, up_i, a2, a6, s5, s2]
    conv => whnf
    refine ⟨(by first | assumption | rfl), ?_⟩
    try simp (disch := omega) only [Int.cast_ofNat_Int, up_s, up_a, up_i, a2, a6, s5, s2]
    conv => whnf
    refine ⟨Nat.le_of_ble_eq_true rfl, Nat.le_of_ble_eq_true rfl, (by first | assumption | rfl), ?_⟩
    refine c_Mlasts g0.pt hs (by rw [g0.cs.n]; exact wm.n) (fun y1 y2 y3 => ?_) (fun y0 => ?_)
    · rw [g0.cs.n] at y2
      rw [g0.cs.dp x y1 y2] at y3
      conv => whnf
      refine ⟨fun g => ?_, fun g => ?_⟩
      · exact absurd g (by simp [sx_cc])
      · skip
        conv => whnf
        refine ⟨(by first | assumption | rfl), ?_⟩
        try simp (disch := omega) only [Int.cast_ofNat_Int, up_s, up_a, up_i, a2, a6, s5, s2]
        conv => whnf
        refine ⟨Nat.le_of_ble_eq_true rfl, Nat.le_of_ble_eq_true rfl, (by first | assumption | rfl), ?_⟩
        refine a_Slawof hs hp wp wm g0 ⟨by decide, by decide⟩ ⟨by omega, by omega⟩ ?_
        intro σ2 he2 g2 hb2
        conv => whnf
        first | (have h9 := h _ he2 g2; rw [aLaw_m (by decide) ⟨by omega, by omega, by omega⟩] at h9; exact h9) | (have h9 := h _ (eqD_rfl σ) g0; rw [aLaw_m0 (by decide) (by omega)] at h9; exact h9)
    · have y4 : ¬ (0 ≤ x ∧ x < A.n ∧ 0 < A.dp x) := fun z => y0 (by rw [g0.cs.n, g0.cs.dp x z.1 z.2.1]; first | exact z | exact ⟨⟨z.1, z.2.1⟩, z.2.2⟩)
      clear y0
      conv => whnf
      refine ⟨fun g => ?_, fun g => ?_⟩
      · skip
        conv => whnf
        first | (have h9 := h _ he2 g2; rw [aLaw_m (by decide) ⟨by omega, by omega, by omega⟩] at h9; exact h9) | (have h9 := h _ (eqD_rfl σ) g0; rw [aLaw_m0 (by decide) (by omega)] at h9; exact h9)
      · exact absurd g (by simp [sx_cc])
  conv => whnf
  refine ⟨fun g => ?_, ?_⟩
  · skip
    have g9 : k = 1 := (by omega)
    subst g9
    conv => whnf
    refine ⟨(by first | assumption | rfl), ?_⟩
    try simp (disch := omega) only [Int.cast_ofNat_Int, up_s, up_a, up_i, a2, a6, s5, s2]
    conv => whnf
    refine ⟨(by first | assumption | rfl), ?_⟩
    try simp (disch := omega) only [Int.cast_ofNat_Int, up_s, up_a, up_i, a2, a6, s5, s2]
    conv => whnf
    refine ⟨Nat.le_of_ble_eq_true rfl, Nat.le_of_ble_eq_true rfl, (by first | assumption | rfl), ?_⟩
    refine c_Mlasts g0.pt hs (by rw [g0.cs.n]; exact wm.n) (fun y1 y2 y3 => ?_) (fun y0 => ?_)
    · rw [g0.cs.n] at y2
      rw [g0.cs.dp x y1 y2] at y3
      conv => whnf
      refine ⟨fun g => ?_, fun g => ?_⟩
      · exact absurd g (by simp [sx_cc])
      · skip
        conv => whnf
        refine ⟨(by first | assumption | rfl), ?_⟩
        try simp (disch := omega) only [Int.cast_ofNat_Int, up_s, up_a, up_i, a2, a6, s5, s2]
        conv => whnf
        refine ⟨Nat.le_of_ble_eq_true rfl, Nat.le_of_ble_eq_true rfl, (by first | assumption | rfl), ?_⟩
        refine a_Slawof hs hp wp wm g0 ⟨by decide, by decide⟩ ⟨by omega, by omega⟩ ?_
        intro σ2 he2 g2 hb2
        conv => whnf
        first | (have h9 := h _ he2 g2; rw [aLaw_m (by decide) ⟨by omega, by omega, by omega⟩] at h9; exact h9) | (have h9 := h _ (eqD_rfl σ) g0; rw [aLaw_m0 (by decide) (by omega)] at h9; exact h9)
    · have y4 : ¬ (0 ≤ x ∧ x < A.n ∧ 0 < A.dp x) := fun z => y0 (by rw [g0.cs.n, g0.cs.dp x z.1 z.2.1]; first | exact z | exact ⟨⟨z.1, z.2.1⟩, z.2.2⟩)
      clear y0
      conv => whnf
      refine ⟨fun g => ?_, fun g => ?_⟩
      · skip
        conv => whnf
        first | (have h9 := h _ he2 g2; rw [aLaw_m (by decide) ⟨by omega, by omega, by omega⟩] at h9; exact h9) | (have h9 := h _ (eqD_rfl σ) g0; rw [aLaw_m0 (by decide) (by omega)] at h9; exact h9)
      · exact absurd g (by simp [sx_cc])
  conv => whnf
  refine ⟨fun g => ?_, ?_⟩
  · skip
    have g9 : k = 2 := (by omega)
    subst g9
    conv => whnf
    refine ⟨(by first | assumption | rfl), ?_⟩
    try simp (disch := omega) only [Int.cast_ofNat_Int, up_s, up_a, up_i, a2, a6, s5, s2]
    conv => whnf
    refine ⟨Nat.le_of_ble_eq_true rfl, Nat.le_of_ble_eq_true rfl, (by first | assumption | rfl), ?_⟩
    refine c_Phaswalker hp (fun y1 y2 => ?_) (fun y0 => ?_)
    · rw [g0.cp.wa] at y2
      have ea := hW.at1 x y1 y2
      have wa1 := hwa x y1 y2
      have v5 := wp.wa
      conv => whnf
      refine ⟨fun g => ?_, fun g => ?_⟩
      · exact absurd g (by simp [sx_cc])
      · skip
        conv => whnf
        refine ⟨(by first | assumption | rfl), ?_⟩
        try simp (disch := omega) only [Int.cast_ofNat_Int, up_s, up_a, up_i, a2, a6, s5, s2]
        conv => whnf
        refine ⟨(by first | assumption | rfl), ?_⟩
        try simp (disch := omega) only [Int.cast_ofNat_Int, up_s, up_a, up_i, a2, a6, s5, s2]
        conv => whnf
        refine ⟨(by first | assumption | rfl), ?_⟩
        try simp (disch := omega) only [Int.cast_ofNat_Int, up_s, up_a, up_i, a2, a6, s5, s2]
        conv => whnf
        refine ⟨sx_ixI (by first | assumption | rfl) (by omega) (by omega), ?_⟩
        try simp (disch := omega) only [Int.cast_ofNat_Int, up_s, up_a, up_i, a2, a6, s5, s2]
        conv => whnf
        refine ⟨Nat.le_of_ble_eq_true rfl, Nat.le_of_ble_eq_true rfl, (by first | assumption | rfl), ?_⟩
        rw [ea]
        refine a_Sdeep hs hp wp wm g0 ⟨by omega, by omega⟩ wa1 ?_
        intro σ2 he2 g2 hb2
        conv => whnf
        first | (have h9 := h _ he2 g2; rw [aLaw_w ⟨by omega, by omega⟩] at h9; exact h9) | (have h9 := h _ (eqD_rfl σ) g0; rw [aLaw_w0 (by omega)] at h9; exact h9)
    · rw [g0.cp.wa] at y0
      conv => whnf
      refine ⟨fun g => ?_, fun g => ?_⟩
      · skip
        conv => whnf
        first | (have h9 := h _ he2 g2; rw [aLaw_w ⟨by omega, by omega⟩] at h9; exact h9) | (have h9 := h _ (eqD_rfl σ) g0; rw [aLaw_w0 (by omega)] at h9; exact h9)
      · exact absurd g (by simp [sx_cc])
  exact trivial
set_option maxRecDepth 20000 in
theorem r_law {W : aW} (e0 : σ0 = sx_up σ 124 2 0) (wp : wP P) (wm : wM P A c) (g0 : GR 0 P A σ0) (hW : rW P σ0 W) (hwa : ∀ w : Int, 0 ≤ w → w < P.wa → 0 ≤ W.at1 w ∧ W.at1 w < P.w * P.h) {k x : Int} (h : ∀ σ', eqR σ0 σ' → GR 0 P A σ' → Q (some (.inr (.inl (aLaw P A W k x)))) shM σ') : sx_Run X 239 [.inr (.inr 124), .inl k, .inl x] shM σ Q := by
  have r61 := pt_124_61 g0.pt
  have r39 := pt_124_39 g0.pt
  have r68 := pt_124_68 g0.pt
  have wn := wm.n
  have v5 := wp.wa
  have v4 := wp.wh
  have hb : (0 : Int) = 0 ∨ (0 : Int) = 1 := Or.inl rfl
  refine sx_rule0 (own := 12) (cd := kX12_law) (nL := 6) (by decide +kernel) (by decide +kernel) kX12_law_ok (by decide +kernel) (Nat.le_of_ble_eq_true rfl) 40 ?_
  conv => whnf
  refine ⟨(by first | assumption | rfl), ?_⟩
  try simp (disch := omega) only [Int.cast_ofNat_Int, up_s, up_a, up_i, r61, r39, r68]
  try simp only [ed]
  try simp only [er]
  rw [← e0]
  conv => whnf
  refine ⟨Nat.le_of_ble_eq_true rfl, Nat.le_of_ble_eq_true rfl, ?_⟩
  refine c_Rin (fun y1 y2 => ?_) (fun y0 => ?_)
  · skip
    conv => whnf
    refine ⟨fun g => ?_, fun g => ?_⟩
    · exact absurd g (by simp [sx_cc])
    · skip
      conv => whnf
      refine ⟨fun g => ?_, fun g => ?_⟩
      · simp only [sx_cc, Classical.not_not] at g
        conv => whnf
        refine ⟨Nat.le_of_ble_eq_true rfl, Nat.le_of_ble_eq_true rfl, (by first | assumption | rfl), ?_⟩
        refine c_Rismark g0.pt (fun y3 y4 => ?_) (fun y0 => ?_)
        · rw [g0.rs.n] at y4
          have ed := g0.rs.dp x y3 y4
          have wd := wm.dp x y3 y4
          rw [show 90 * (0 : Int) + x = x by omega] at ed
          conv => whnf
          refine ⟨fun g => ?_, fun g => ?_⟩
          · exact absurd g (by simp [sx_cc])
          · skip
            conv => whnf
            refine ⟨(by first | assumption | rfl), ?_⟩
            try simp (disch := omega) only [Int.cast_ofNat_Int, up_s, up_a, up_i, r61, r39, r68]
            try simp only [ed]
            try simp only [er]
            conv => whnf
            refine ⟨sx_ixI (by first | assumption | rfl) (by omega) (by omega), ?_⟩
            try simp (disch := omega) only [Int.cast_ofNat_Int, up_s, up_a, up_i, r61, r39, r68]
            try simp only [ed]
            try simp only [er]
            conv => whnf
            refine ⟨fun g => ?_, fun g => ?_⟩
            · simp only [sx_cc, Classical.not_not] at g
              conv => whnf
              refine ⟨fun g => ?_, fun g => ?_⟩
              · simp only [sx_cc, Classical.not_not] at g
                conv => whnf
                refine ⟨⟨by omega, by omega⟩, ?_⟩
                conv => whnf
                refine ⟨(by first | assumption | rfl), ?_⟩
                try simp (disch := omega) only [Int.cast_ofNat_Int, up_s, up_a, up_i, r61, r39, r68]
                try simp only [ed]
                try simp only [er]
                conv => whnf
                refine ⟨by decide, ?_⟩
                conv => whnf
                refine ⟨sx_ixI (by first | assumption | rfl) (by omega) (by omega), ?_⟩
                try simp (disch := omega) only [Int.cast_ofNat_Int, up_s, up_a, up_i, r61, r39, r68]
                try simp only [ed]
                try simp only [er]
                conv => whnf
                refine ⟨fun g => ?_, fun g => ?_⟩
                · simp only [sx_cc, Classical.not_not] at g
                  have ht := g
                  conv => whnf
                  refine ⟨fun g => ?_, fun g => ?_⟩
                  · simp only [sx_cc, Classical.not_not] at g
                    conv => whnf
                    refine ⟨Nat.le_of_ble_eq_true rfl, Nat.le_of_ble_eq_true rfl, (by first | assumption | rfl), ?_⟩
                    refine a_Rlaymark hb wp wm g0 ⟨by omega, by omega⟩ ?_
                    intro σ1 he1 g1 hnm1
                    conv => whnf
                    refine ⟨Nat.le_of_ble_eq_true rfl, Nat.le_of_ble_eq_true rfl, (by first | assumption | rfl), ?_⟩
                    refine a_Rlaw (k := k) g1 ⟨by omega, by omega⟩ (by first | decide | (unfold fLk; rw [if_neg (by omega)])) hnm1 (fun j _ _ => aNm_b wp wm (by omega) (by omega) j) (by rw [he1.row (by decide) (by decide) (by decide)]; exact ht) (fun σ2 v he2 g2 er hlw => ?_) (fun σ2 v he2 g2 er hlw => ?_)
                    · skip
                      conv => whnf
                      refine ⟨(by first | assumption | rfl), ?_⟩
                      try simp (disch := omega) only [Int.cast_ofNat_Int, up_s, up_a, up_i, r61, r39, r68]
                      try simp only [ed]
                      try simp only [er]
                      conv => whnf
                      refine ⟨fun g => ?_, fun g => ?_⟩
                      · simp only [sx_cc, Classical.not_not] at g
                        conv => whnf
                        have h9 := h _ (he1.trans he2) g2
                        rw [aLaw_m (by omega) ⟨by omega, by omega, by omega⟩, hlw] at h9
                        first | exact h9 | (exfalso; omega) | (simp at g)
                      · simp only [sx_cc, Classical.not_not] at g
                        conv => whnf
                        have h9 := h _ (he1.trans he2) g2
                        rw [aLaw_m (by omega) ⟨by omega, by omega, by omega⟩, hlw] at h9
                        first | exact h9 | (exfalso; omega) | (simp at g)
                    · skip
                      conv => whnf
                      refine ⟨(by first | assumption | rfl), ?_⟩
                      try simp (disch := omega) only [Int.cast_ofNat_Int, up_s, up_a, up_i, r61, r39, r68]
                      try simp only [ed]
                      try simp only [er]
                      conv => whnf
                      refine ⟨fun g => ?_, fun g => ?_⟩
                      · simp only [sx_cc, Classical.not_not] at g
                        conv => whnf
                        have h9 := h _ (he1.trans he2) g2
                        rw [aLaw_m (by omega) ⟨by omega, by omega, by omega⟩, hlw] at h9
                        first | exact h9 | (exfalso; omega) | (simp at g)
                      · simp only [sx_cc, Classical.not_not] at g
                        conv => whnf
                        have h9 := h _ (he1.trans he2) g2
                        rw [aLaw_m (by omega) ⟨by omega, by omega, by omega⟩, hlw] at h9
                        first | exact h9 | (exfalso; omega) | (simp at g)
                  · simp only [sx_cc, Classical.not_not] at g
                    omega
                · simp only [sx_cc, Classical.not_not] at g
                  have ht : σ0 136 _ = 0 := g
                  conv => whnf
                  have h9 := h _ (eqR_rfl σ0) g0
                  rw [aLaw_m (by omega) ⟨by omega, by omega, by omega⟩, g0.rp.l0 k _ (by omega) (by omega) (by unfold fLk; rw [if_neg (by omega)]; exact ht)] at h9
                  exact h9
              · simp only [sx_cc, Classical.not_not] at g
                omega
            · simp only [sx_cc, Classical.not_not] at g
              conv => whnf
              have h9 := h _ (eqR_rfl σ0) g0
              first | (rw [aLaw_0 (by omega) (by omega) (by omega)] at h9; exact h9) | (rw [aLaw_w0 (by omega)] at h9; exact h9) | (rw [aLaw_m0 (by omega) (by omega)] at h9; exact h9)
        · rw [g0.rs.n] at y0
          conv => whnf
          refine ⟨fun g => ?_, fun g => ?_⟩
          · skip
            conv => whnf
            have h9 := h _ (eqR_rfl σ0) g0
            first | (rw [aLaw_0 (by omega) (by omega) (by omega)] at h9; exact h9) | (rw [aLaw_w0 (by omega)] at h9; exact h9) | (rw [aLaw_m0 (by omega) (by omega)] at h9; exact h9)
          · exact absurd g (by simp [sx_cc])
      · simp only [sx_cc, Classical.not_not] at g
        have k2 : k = 2 := g
        subst k2
        conv => whnf
        refine ⟨Nat.le_of_ble_eq_true rfl, Nat.le_of_ble_eq_true rfl, (by first | assumption | rfl), ?_⟩
        refine c_Riswalker (fun y3 y4 => ?_) (fun y0 => ?_)
        · rw [g0.rp.wa] at y4
          have ea := hW.at1 x y3 y4
          have wa1 := hwa x y3 y4
          conv => whnf
          refine ⟨fun g => ?_, fun g => ?_⟩
          · skip
            conv => whnf
            refine ⟨fun g => ?_, fun g => ?_⟩
            · simp only [sx_cc, Classical.not_not] at g
              exact absurd trivial g
            · simp only [sx_cc, Classical.not_not] at g
              conv => whnf
              refine ⟨(by first | assumption | rfl), ?_⟩
              try simp (disch := omega) only [Int.cast_ofNat_Int, up_s, up_a, up_i, r61, r39, r68]
              try simp only [ed]
              try simp only [er]
              conv => whnf
              refine ⟨by decide, ?_⟩
              conv => whnf
              refine ⟨sx_ixI (by first | assumption | rfl) (by omega) (by omega), ?_⟩
              try simp (disch := omega) only [Int.cast_ofNat_Int, up_s, up_a, up_i, r61, r39, r68]
              try simp only [ed]
              try simp only [er]
              conv => whnf
              refine ⟨fun g => ?_, fun g => ?_⟩
              · simp only [sx_cc, Classical.not_not] at g
                have ht := g
                conv => whnf
                refine ⟨fun g => ?_, fun g => ?_⟩
                · simp only [sx_cc, Classical.not_not] at g
                  exact absurd trivial g
                · simp only [sx_cc, Classical.not_not] at g
                  conv => whnf
                  refine ⟨(by first | assumption | rfl), ?_⟩
                  try simp (disch := omega) only [Int.cast_ofNat_Int, up_s, up_a, up_i, r61, r39, r68]
                  try simp only [ed]
                  try simp only [er]
                  conv => whnf
                  refine ⟨sx_ixI (by first | assumption | rfl) (by omega) (by omega), ?_⟩
                  try simp (disch := omega) only [Int.cast_ofNat_Int, up_s, up_a, up_i, r61, r39, r68]
                  try simp only [ed]
                  try simp only [er]
                  conv => whnf
                  refine ⟨Nat.le_of_ble_eq_true rfl, Nat.le_of_ble_eq_true rfl, (by first | assumption | rfl), ?_⟩
                  rw [ea]
                  refine a_Rlaynames hb wp g0 ⟨y3, y4⟩ wa1 ?_
                  intro σ1 he1 g1 hnm1
                  conv => whnf
                  refine ⟨Nat.le_of_ble_eq_true rfl, Nat.le_of_ble_eq_true rfl, (by first | assumption | rfl), ?_⟩
                  refine a_Rlaw (k := 2) g1 ⟨by omega, by omega⟩ (by first | decide | (unfold fLk; rw [if_neg (by omega)])) hnm1 (fun j _ _ => aNw_b wp wm y3 y4 wa1.1 (by omega) j) (by rw [he1.row (by decide) (by decide) (by decide)]; exact ht) (fun σ2 v he2 g2 er hlw => ?_) (fun σ2 v he2 g2 er hlw => ?_)
                  · skip
                    conv => whnf
                    refine ⟨(by first | assumption | rfl), ?_⟩
                    try simp (disch := omega) only [Int.cast_ofNat_Int, up_s, up_a, up_i, r61, r39, r68]
                    try simp only [ed]
                    try simp only [er]
                    conv => whnf
                    refine ⟨fun g => ?_, fun g => ?_⟩
                    · simp only [sx_cc, Classical.not_not] at g
                      conv => whnf
                      have h9 := h _ (he1.trans he2) g2
                      rw [aLaw_w ⟨by omega, by omega⟩, hlw] at h9
                      first | exact h9 | (exfalso; omega) | (simp at g)
                    · simp only [sx_cc, Classical.not_not] at g
                      conv => whnf
                      have h9 := h _ (he1.trans he2) g2
                      rw [aLaw_w ⟨by omega, by omega⟩, hlw] at h9
                      first | exact h9 | (exfalso; omega) | (simp at g)
                  · skip
                    conv => whnf
                    refine ⟨(by first | assumption | rfl), ?_⟩
                    try simp (disch := omega) only [Int.cast_ofNat_Int, up_s, up_a, up_i, r61, r39, r68]
                    try simp only [ed]
                    try simp only [er]
                    conv => whnf
                    refine ⟨fun g => ?_, fun g => ?_⟩
                    · simp only [sx_cc, Classical.not_not] at g
                      conv => whnf
                      have h9 := h _ (he1.trans he2) g2
                      rw [aLaw_w ⟨by omega, by omega⟩, hlw] at h9
                      first | exact h9 | (exfalso; omega) | (simp at g)
                    · simp only [sx_cc, Classical.not_not] at g
                      conv => whnf
                      have h9 := h _ (he1.trans he2) g2
                      rw [aLaw_w ⟨by omega, by omega⟩, hlw] at h9
                      first | exact h9 | (exfalso; omega) | (simp at g)
              · simp only [sx_cc, Classical.not_not] at g
                have ht : σ0 136 _ = 0 := g
                conv => whnf
                have h9 := h _ (eqR_rfl σ0) g0
                rw [aLaw_w ⟨by omega, by omega⟩, g0.rp.l0 2 _ (by decide) (by decide) (show σ0 136 (fLk 2) = 0 from ht)] at h9
                exact h9
          · exact absurd g (by simp [sx_cc])
        · rw [g0.rp.wa] at y0
          conv => whnf
          refine ⟨fun g => ?_, fun g => ?_⟩
          · exact absurd g (by simp [sx_cc])
          · skip
            conv => whnf
            have h9 := h _ (eqR_rfl σ0) g0
            first | (rw [aLaw_0 (by omega) (by omega) (by omega)] at h9; exact h9) | (rw [aLaw_w0 (by omega)] at h9; exact h9) | (rw [aLaw_m0 (by omega) (by omega)] at h9; exact h9)
  · skip
    conv => whnf
    refine ⟨fun g => ?_, fun g => ?_⟩
    · skip
      conv => whnf
      have h9 := h _ (eqR_rfl σ0) g0
      first | (rw [aLaw_0 (by omega) (by omega) (by omega)] at h9; exact h9) | (rw [aLaw_w0 (by omega)] at h9; exact h9) | (rw [aLaw_m0 (by omega) (by omega)] at h9; exact h9)
    · exact absurd g (by simp [sx_cc])
end SXL5
