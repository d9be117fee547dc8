/-! ONE CALL ON BOTH: text -/
section SXV4
variable {X : sx_X} {Q : sx_R} {σ σ0 σ' σ1 σ2 σm : sx_S}
variable {k p K : Int} {P : aP} {A A' : aM} {W W' : aW} {B : aM} {V : aW} {C : aC} {U U' : aU} {kp z z' nx nx' n9 f1 f2 : Int} {tx : Int → Int}
theorem rP.ofH (wp : wP P) (h : rP σ P) (e : ∀ a i : Int, 127 ≤ a → a ≤ 141 → 0 ≤ i → i < fHalf a → σ' a i = σ a i) (e' : ∀ i : Int, 12 ≤ i → i ≤ 17 → σ' 124 i = σ 124 i) : rP σ' P := by
  have v1 := wp.fa
  have v2 := wp.wa
  have h127 : fHalf 127 = 48 := by decide
  have h128 : fHalf 128 = 48 := by decide
  have h129 : fHalf 129 = 3 := by decide
  have h130 : fHalf 130 = 5 := by decide
  have h131 : fHalf 131 = 5 := by decide
  have h132 : fHalf 132 = 5 := by decide
  have h133 : fHalf 133 = 5 := by decide
  have h134 : fHalf 134 = 5 := by decide
  have h135 : fHalf 135 = 24 := by decide
  have h136 : fHalf 136 = 3 := by decide
  have h137 : fHalf 137 = 3 := by decide
  have h138 : fHalf 138 = 3 := by decide
  have h139 : fHalf 139 = 64 := by decide
  have h140 : fHalf 140 = 64 := by decide
  have h141 : fHalf 141 = 64 := by decide
  have hl : ∀ k : Int, 0 ≤ k → k < 3 → 0 ≤ fLk k ∧ fLk k < 3 := fun k y0 y1 => by unfold fLk; split <;> omega
  have e136 : ∀ k : Int, 0 ≤ k → k < 3 → σ' 136 (fLk k) = σ 136 (fLk k) := fun k y0 y1 => e _ _ (by decide) (by decide) (hl k y0 y1).1 (by rw [h136]; exact (hl k y0 y1).2)
  have e137 : ∀ k : Int, 0 ≤ k → k < 3 → σ' 137 (fLk k) = σ 137 (fLk k) := fun k y0 y1 => e _ _ (by decide) (by decide) (hl k y0 y1).1 (by rw [h137]; exact (hl k y0 y1).2)
  have e138 : ∀ k : Int, 0 ≤ k → k < 3 → σ' 138 (fLk k) = σ 138 (fLk k) := fun k y0 y1 => e _ _ (by decide) (by decide) (hl k y0 y1).1 (by rw [h138]; exact (hl k y0 y1).2)
  refine rP.mk ((e' _ (by decide) (by decide)).trans h.w) ((e' _ (by decide) (by decide)).trans h.h) ((e' _ (by decide) (by decide)).trans h.fa) ((e' _ (by decide) (by decide)).trans h.wa) ((e' _ (by decide) (by decide)).trans h.kn) ((e' _ (by decide) (by decide)).trans h.sd) ?_ ?_ ?_ ?_ ?_ ?_ ?_ ?_ ?_ ?_ ?_ ?_ ?_
  · exact fun f y0 y1 => (e _ _ (by decide) (by decide) y0 (by omega)).trans (h.ki f y0 y1)
  · exact fun f y0 y1 => (e _ _ (by decide) (by decide) y0 (by omega)).trans (h.gr f y0 y1)
  · exact fun f y0 y1 => (e _ _ (by decide) (by decide) y0 (by omega)).trans (h.fn f y0 y1)
  · exact fun f y0 y1 => (e _ _ (by decide) (by decide) y0 (by omega)).trans (h.wn f y0 y1)
  · exact fun f y0 y1 => (e _ _ (by decide) (by decide) y0 (by omega)).trans (h.fo f y0 y1)
  · exact fun f y0 y1 => (e _ _ (by decide) (by decide) y0 (by omega)).trans (h.we f y0 y1)
  · exact fun f y0 y1 => (e _ _ (by decide) (by decide) y0 (by omega)).trans (h.ga f y0 y1)
  · exact fun f y0 y1 => (e _ _ (by decide) (by decide) y0 (by omega)).trans (h.ho f y0 y1)
  · exact fun f y0 y1 => by rw [e _ _ (by decide) (by decide) y0 (by omega)]; exact h.hb f y0 y1
  · exact fun f y0 y1 => (e _ _ (by decide) (by decide) y0 (by omega)).trans (h.hl f y0 y1)
  · exact fun k nm y0 y1 q => h.l0 k nm y0 y1 (by rw [← e136 k y0 y1]; exact q)
  · intro k y0 y1 q
    rw [e136 k y0 y1] at q
    rw [e137 k y0 y1, e138 k y0 y1]
    obtain ⟨q1, q2⟩ := h.l1 k y0 y1 q
    refine ⟨q1, fun i z0 z1 => ?_⟩
    obtain ⟨a1, a2⟩ := q2 i z0 z1
    have d1 : σ' 139 i = σ 139 i := e _ _ (by decide) (by decide) (by omega) (by omega)
    have d2 : σ' 140 i = σ 140 i := e _ _ (by decide) (by decide) (by omega) (by omega)
    have d3 : σ' 141 i = σ 141 i := e _ _ (by decide) (by decide) (by omega) (by omega)
    unfold pKn pKl at *
    rw [d1, d2, d3]
    exact ⟨a1, a2⟩
  · intro k nm y0 y1 q
    rw [e136 k y0 y1] at q
    obtain ⟨q1, q2⟩ := h.l1 k y0 y1 q
    rw [e137 k y0 y1, e138 k y0 y1, h.l2 k nm y0 y1 q]
    refine (fLaw_cg2 (by omega) (fun i z0 z1 => ?_)).symm
    exact ⟨e _ _ (by decide) (by decide) (by omega) (by omega), e _ _ (by decide) (by decide) (by omega) (by omega), fun _ => e _ _ (by decide) (by decide) (by omega) (by omega), (q2 i z0 z1).1.1⟩
theorem FRz_h {a i : Int} (h : FRz a i) : (a = 124 ∧ (i = 1 ∨ i = 4 ∨ i = 5 ∨ i = 6 ∨ (7 ≤ i ∧ i ≤ 11) ∨ (18 ≤ i ∧ i ≤ 29) ∨ (45 ≤ i ∧ i ≤ 53))) ∨ (127 ≤ a ∧ a ≤ 141 ∧ fHalf a ≤ i) ∨ a = 142 ∨ a = 143 := by
  unfold FRz FRh FRx at h
  have h134 : fHalf 134 = 5 := by decide
  rcases h with ((h | h | h) | h) | h
  · exact Or.inl ⟨h.1, by omega⟩
  · exact Or.inr (Or.inl ⟨h.1, h.2.1, h.2.2.2⟩)
  · exact Or.inr (Or.inr h)
  · exact Or.inr (Or.inl ⟨by omega, by omega, by rw [h.1, h134]; exact h.2⟩)
  · exact Or.inl ⟨h.1, by omega⟩
theorem j_text (hw : sx_WT X) (I : Inv k σ) {n : Int} : jI X 125 201 [.inl n] k σ := by
  obtain ⟨p, P, A, W, B, V, C, kp, z, nx, n9, f1, f2, tx, w, t⟩ := I.el
  have c := t.c
  have hp := w.p
  have hpb : isP (19 - p) := by rcases hp with rfl | rfl; exact Or.inr rfl; exact Or.inl rfl
  have hpb2 : 2 ≤ 19 - p ∧ 19 - p ≤ 17 := by rcases hp with rfl | rfl <;> omega
  have epp : 19 - (19 - p) = p := by omega
  refine c_text (p := 19 - p) (tx := tx) hw hpb c.g.pt (by rw [epp]; exact c.e2) c.e3 c.en w.nn c.tp c.hb c.g.sc (fun h => ⟨_, rfl, ?_⟩) (fun h σ1 k9 pl hf hT e1 x1 x2 hb hR => ⟨_, rfl, ?_⟩) (fun h σ1 S J m hR hE hWt hf g1 w1 e1 e2 e3 e9 ez ec ek x1 x2 => ⟨_, rfl, ?_⟩)
  · have t0 := t.up2 w (v := 0)
    exact r_text (p := 19 - p) (S := fun _ => σ) (J := fun _ => 0) (m := 0) (O := none) rfl hpb2 t0.r.g.pt t0.r.wd t0.r.en w.nn t0.r.tp t0.r.g.sc t0.r.hb (fun _ => ⟨rfl, t0.fin w⟩) (fun h2 => absurd h2 h) (fun h2 => absurd h2 h) (fun h2 => absurd h2 h)
  · obtain ⟨S, J, m, hR1, hR2, hR3⟩ := hR
    have ha : ∀ a i : Int, ¬ FTx (19 - p) a i → σ1 a i = σ a i := hf
    have hq : ∀ a i : Int, 37 ≤ a → σ1 a i = σ a i := fun a i q => ha _ _ (by unfold FTx FAb FPd; rcases hp with rfl | rfl <;> omega)
    have hq1 : ∀ a i : Int, p ≤ a → a ≤ p + 14 → σ1 a i = σ a i := fun a i q1 q2 => ha _ _ (by unfold FTx FAb FPd; rcases hp with rfl | rfl <;> omega)
    have hq0 : ∀ i : Int, ¬ i = 1 → σ1 0 i = σ 0 i := fun i q => ha _ _ (by unfold FTx FAb FPd; rcases hp with rfl | rfl <;> omega)
    have r1 := (t.r.cl hT (fun a i q => hq _ _ (by omega))).up2 (v := 0)
    have l1 := t.l.keep (σ' := σ1) w.wp w.x (fun a i q => hq _ _ (by omega))
    refine r_text (p := 19 - p) (S := S) (J := J) (m := m) (O := some (k9, pl)) rfl hpb2 r1.g.pt r1.wd r1.en w.nn r1.tp r1.g.sc r1.hb (fun h2 => absurd h h2) (fun _ => ⟨hR1, Or.inr ⟨k9, pl, rfl, hR2, hR3⟩⟩) (fun _ k2 pl2 σ2 eO hf2 hT2 hb2 x3 e2 => ⟨rfl, ?_⟩) (fun _ h2 => by cases h2)
    cases eO
    have hz : ∀ a i : Int, ¬ ((a = 124 ∧ (i = 1 ∨ i = 4 ∨ i = 5 ∨ i = 6 ∨ (7 ≤ i ∧ i ≤ 11) ∨ (18 ≤ i ∧ i ≤ 29) ∨ (45 ≤ i ∧ i ≤ 53))) ∨ (127 ≤ a ∧ a ≤ 141 ∧ fHalf a ≤ i) ∨ a = 142 ∨ a = 143) → σ2 a i = sx_up σ1 124 2 0 a i := fun a i q => hf2 _ _ (fun q2 => q (FRz_h q2))
    have hc : ∀ a i : Int, a < 124 → σ2 a i = σ1 a i := fun a i q => (hz _ _ (by omega)).trans (up_a (by omega))
    have u := w.up
    refine Inv.mk' (n9 := 0) (f1 := k9) (f2 := pl) (tx := fun _ => 0) (jW.mk w.p w.wp u.wm u.ww u.wb u.wv w.wc w.kp w.z w.x ⟨by omega, by omega⟩ u.k) (jC.mk ?_ (c.w.of (fun a i q => (hc _ _ (by omega)).trans (hq _ _ (by omega)))) ((hc _ _ (by decide)).trans ((hq0 _ (by decide)).trans c.e2)) ((hc _ _ (by decide)).trans ((hq0 _ (by decide)).trans c.e3)) ((hc _ _ (by decide)).trans ((hq0 _ (by decide)).trans c.e9)) (fun q => ?_) ((hc _ _ (by decide)).trans ((hq _ _ (by decide)).trans c.ez)) ((hc _ _ (by decide)).trans ((hq _ _ (by decide)).trans c.ex)) (c.c.of (fun a i q => (hc _ _ (by omega)).trans (hq _ _ (by omega)))) ((hc _ _ (by decide)).trans e1) (fun j y0 y1 => absurd y0 (by omega)) ((hc _ _ (by decide)).trans x1) ((hc _ _ (by decide)).trans x2) (fun f y0 y1 => ?_)) (jR.mk ?_ (r1.w.of (fun a i q => hz _ _ (by omega))) ((hz _ _ (by omega)).trans r1.e9) (fun q => (r1.im q).of (fun a i q => hz _ _ (by omega))) ((hz _ _ (by omega)).trans r1.ez) (r1.c.of (fun a i q => hz _ _ (by omega))) e2 (fun j y0 y1 => absurd y0 (by omega)) x3.1 x3.2 hb2 (fun j y0 y1 => by rw [hz _ _ (by omega)]; exact r1.wd j y0 y1)) (LG.next (l1.keep w.wp w.x (fun a i q => (hz _ _ (by omega)).trans (up_n (by omega)))))
    · refine GC.mk hT2 ((hc _ _ (by decide)).trans ((hq _ _ (by decide)).trans c.g.ep)) (c.g.cp.of (fun a i z1 z2 => (hc _ _ (by rcases hp with rfl | rfl <;> omega)).trans (hq1 a i z1 z2))) (c.g.cs.of (fun a i z1 z2 => (hc _ _ (by omega)).trans (hq _ _ (by omega)))) (c.g.sc.of (fun a i z1 z2 => (hc _ _ (by omega)).trans (hq _ _ (by omega))))
    · obtain ⟨q1, q2, q3⟩ := c.im q
      exact ⟨(hc _ _ (by decide)).trans ((hq _ _ (by decide)).trans q1), q2.of (fun a i z1 z2 => (hc _ _ (by omega)).trans (hq _ _ (by omega))), q3.of (fun a i z1 => (hc _ _ (by omega)).trans (hq _ _ (by omega)))⟩
    · rw [hc (19 - p + 8) f (by rcases hp with rfl | rfl <;> omega)]
      exact hb f y0 y1
    · refine GR.mk hT2 (r1.g.rp.ofH w.wp (fun a i z1 z2 z3 z4 => hz _ _ (by omega)) (fun i z1 z2 => hz _ _ (by omega))) (r1.g.rs.of (fun a i z1 z2 => hz _ _ (by omega)) (hz _ _ (by omega))) (r1.g.sc.of (fun i => hz _ _ (by omega)) (hz _ _ (by omega)))
  · have ha : ∀ a i : Int, ¬ FTy (19 - p) a i → σ1 a i = σ a i := hf
    have hq : ∀ a i : Int, 124 ≤ a → σ1 a i = σ a i := fun a i q => ha _ _ (by unfold FTy FAb FPd FBg; rcases hp with rfl | rfl <;> omega)
    have r1 := (t.r.cl g1.pt hq).up2 (v := 0)
    refine r_text (p := 19 - p) (S := S) (J := J) (m := m) (O := none) rfl hpb2 r1.g.pt r1.wd r1.en w.nn r1.tp r1.g.sc r1.hb (fun h2 => absurd h h2) (fun _ => ⟨hR, Or.inl ⟨rfl, hE⟩⟩) (fun _ k2 pl2 σ2 eO => by cases eO) (fun _ _ σ2 hf2 g2 w2 hb2 e74 e75 e83 e85 x3 e12 => ⟨rfl, ?_⟩)
    have wp := wP_F hWt
    have hc : ∀ a i : Int, a < 124 → σ2 a i = σ1 a i := fun a i q => (hf2 _ _ (by unfold FRy; omega)).trans (up_a (by omega))
    generalize fPl (19 - p) (S m) = P9 at g1 w1 g2 w2 wp
    have u := w.up
    have hk := w.k
    refine Inv.mk' (p := 19 - p) (P := P9) (A := aM0 P9) (W := aW0 P9) (B := aM0 P9) (V := aW0 P9) (C := aC.mk 0 (-1) (fun _ => 0) (fun _ => 0) (fun _ => 0) (fun _ => 0) (fun _ => 0)) (kp := 0) (z := 0) (nx := nx) (n9 := 0) (f1 := 0) (f2 := -1) (tx := fun _ => 0) (jW.mk hpb wp ((wM0 wp).up (by omega)) ((wW0 wp).up (by omega)) ((wM0 wp).up (by omega)) ((wW0 wp).up (by omega)) ?_ (Or.inl rfl) ⟨by decide, by decide⟩ w.x ⟨by decide, by decide⟩ u.k) (jC.mk ?_ (w1.of (fun a i q => hc _ _ (by omega))) ((hc _ _ (by decide)).trans e2) ((hc _ _ (by decide)).trans e3) ((hc _ _ (by decide)).trans e9) (fun q => absurd q (by decide)) ((hc _ _ (by decide)).trans ez) ((hc _ _ (by decide)).trans ((ha _ _ ?_).trans c.ex)) ?_ ((hc _ _ (by decide)).trans e1) (fun j y0 y1 => absurd y0 (by omega)) ((hc _ _ (by decide)).trans x1) ((hc _ _ (by decide)).trans x2) (fun f y0 y1 => ?_)) (jR.mk g2 w2 e85 (fun q => absurd q (by decide)) e83 ?_ e12 (fun j y0 y1 => absurd y0 (by omega)) x3.1 x3.2 hb2 (fun j y0 y1 => by rw [hf2 _ _ (by unfold FRy; omega)]; exact r1.wd j y0 y1)) trivial
    · exact wC.mk ⟨by decide, by decide⟩ ⟨by decide, by decide⟩ (fun j y0 y1 => absurd y1 (show ¬ j < 0 by omega)) (fun j y0 y1 => absurd y1 (show ¬ j < 0 by omega))
    · exact g1.of' hpb g2.pt (fun a i z1 z2 => hc _ _ (by omega))
    · unfold FTy FAb FPd FBg; rcases hp with rfl | rfl <;> omega
    · exact cC.mk ((hc _ _ (by decide)).trans ec) ((hc _ _ (by decide)).trans ek) (fun j y0 y1 => absurd y1 (show ¬ j < 0 by omega)) (fun j y0 y1 => absurd y1 (show ¬ j < 0 by omega)) (fun j y0 y1 => absurd y1 (show ¬ j < 0 by omega)) (fun j y0 y1 => absurd y1 (show ¬ j < 0 by omega)) (fun j y0 y1 => absurd y1 (show ¬ j < 0 by omega))
    · rw [hc (19 - (19 - p) + 8) f (by rcases hp with rfl | rfl <;> omega), ha (19 - (19 - p) + 8) f (by unfold FTy FAb FPd FBg; rcases hp with rfl | rfl <;> omega), epp]
      exact c.g.cp.hb f y0 y1
    · exact rC.mk e74 e75 (fun j y0 y1 => absurd y1 (show ¬ j < 0 by omega)) (fun j y0 y1 => absurd y1 (show ¬ j < 0 by omega)) (fun j y0 y1 => absurd y1 (show ¬ j < 0 by omega)) (fun j y0 y1 => absurd y1 (show ¬ j < 0 by omega)) (fun j y0 y1 => absurd y1 (show ¬ j < 0 by omega)) (fun j y0 y1 => absurd y1 (show ¬ j < 0 by omega))
end SXV4
