/-! ONE CALL ON BOTH: undo, keep, back, feed, text -/
section SXV3
variable {X : sx_X} {Q : sx_R} {σ σ0 σ' σ1 σ2 σm : sx_S}
variable {k p K : Int} {P : aP} {A A' : aM} {W W' : aW} {B : aM} {V : aW} {C : aC} {U U' : aU} {kp z z' nx nx' n9 f1 f2 : Int} {tx : Int → Int}
theorem fBk_n9 {q : Int} (h : pOk P σ q) : (fBk σ q U).n ≤ U.n := by
  unfold fBk
  split
  · exact Int.le_refl _
  · split
    · exact Int.le_refl _
    · show U.n - σ 86 q ≤ U.n
      have := h.1
      omega
theorem LG_top (hz : 1 ≤ z) (l : LG P σ K 0 z.toNat nx U) : pOk P σ (fPv nx) ∧ rU P σ (z - 1) (fBk σ (fPv nx) U) ∧ wU P (fBk σ (fPv nx) U) K ∧ LG P σ K 0 (z - 1).toNat (fPv nx) (fBk σ (fPv nx) U) := by
  rw [show z.toNat = (z - 1).toNat + 1 by omega] at l
  obtain ⟨h1, h2, h3, h4⟩ := l
  rw [show (0 : Int) + ((z - 1).toNat : Int) = z - 1 by omega] at h2
  exact ⟨h1, h2, h3, h4⟩
theorem rU.of (h : rU P σ K U) (e : ∀ y : Int, σ' 167 y = σ 167 y) : rU P σ' K U := by
  obtain ⟨h1, h2, h3⟩ := h
  exact ⟨fun w y0 y1 => by rw [e, e, e]; exact h1 w y0 y1, by rw [e]; exact h2, fun m y0 y1 => by rw [e]; exact h3 m y0 y1⟩
theorem j_undo (I : Inv k σ) (hk : k ≤ 1000) : jI X 167 303 [] k σ := by
  obtain ⟨p, P, A, W, B, V, C, kp, z, nx, n9, f1, f2, tx, w, t⟩ := I.el
  refine c_undo (K := k) w.p w.wp w.wm t.c.g t.c.w t.c.ez t.c.ex w.z w.x (fun v y0 y1 => by have := w.ww.st v y0 y1; omega) (fun h => (LG_top h t.l).1) (fun h => (LG_top h t.l).2.2.1) (fun h => ⟨_, rfl, ?_⟩) (fun h σ1 hf g1 w1 e1 e2 => ⟨_, rfl, ?_⟩)
  · have t0 := t.up2 w (v := 0)
    exact r_undo (K := k) (Y := uOf A W) rfl w.wp w.wm t0.r.g t0.r.w t0.r.ez w.z (fun h2 => absurd h2 (by omega)) (fun h2 => absurd h2 (by omega)) (fun h2 => absurd h2 (by omega)) (fun _ => ⟨rfl, t0.fin w⟩) (fun h2 => absurd h2 (by omega))
  · obtain ⟨u1, u2, u3, u4⟩ := LG_top h t.l
    have un := fBk_n9 (U := uOf A W) u1
    generalize fBk σ (fPv nx) (uOf A W) = Y at g1 w1 u2 u3 u4 un
    have t0 := t.cm w g1 w1 e1 e2 (fun a i q => hf _ _ (by unfold kDc at q; unfold FTB; omega))
    have wz := w.z
    have wx := w.x
    refine r_undo (K := k) (Y := Y) rfl w.wp w.wm t0.r.g t0.r.w t0.r.ez w.z (fun _ => u2.of (fun y => (up_a (by decide)).trans (hf _ _ (by unfold FTB; omega)))) (fun _ => u3) (fun _ => un) (fun h2 => absurd h2 (by omega)) (fun _ σ2 hf2 g2 w2 e83 => ⟨rfl, ?_⟩)
    refine Inv.mk' (w.to ((w.wm.wu un u3).up (by omega)) ((w.ww.wu u3).up (by omega)) (z' := z - 1) ⟨by omega, by omega⟩ (fPv_bd wx)) (t0.c.rf w.p g2.pt (fun a i q => hf2 _ _ (by unfold FUR; omega))) (t0.r.ofW g2 w2 e83 (fun a i q => hf2 _ _ (by unfold kEr at q; unfold FUR; omega))) ?_
    have l1 := LG_K (K' := k + 1) (by omega) _ _ _ u4
    have l2 := LG_of (σ' := σ2) w.wp.wa.2 (fun a i z1 z2 => (hf2 _ _ (by unfold FUR; omega)).trans ((up_a (by omega)).trans (hf _ _ (by unfold FTB; omega)))) (fun y => (hf2 _ _ (by unfold FUR; omega)).trans ((up_a (by decide)).trans (hf _ _ (by unfold FTB; omega)))) _ _ _ (fPv_bd wx) l1
    exact l2
theorem j_keep (I : Inv k σ) : jI X 168 304 [] k σ := by
  obtain ⟨p, P, A, W, B, V, C, kp, z, nx, n9, f1, f2, tx, w, t⟩ := I.el
  refine c_keep w.p w.wp w.wm t.c.g t.c.w (fun σ1 hf g1 w1 => ⟨_, rfl, ?_⟩)
  have c := t.c
  have hT : PT (sx_up σ1 0 9 1) := g1.pt.up (by decide +kernel)
  have ha : ∀ a i : Int, ¬ (a = 0 ∧ i = 9) → ¬ FX 55 a i → sx_up σ1 0 9 1 a i = σ a i := fun a i q1 q2 => (up_n q1).trans (hf _ _ q2)
  have c1 : jC p P A W A W C 1 z nx n9 f1 f2 tx (sx_up σ1 0 9 1) := by
    refine jC.mk (c.g.of' w.p hT (fun a i z1 z2 => ha _ _ (by omega) (by unfold FX; omega))) (c.w.of (fun a i q => ha _ _ (by omega) (by unfold FX; omega))) ((ha _ _ (by decide) (by decide)).trans c.e2) ((ha _ _ (by decide) (by decide)).trans c.e3) up_s (fun _ => ⟨(up_a (by decide)).trans g1.ep, g1.cs.of (fun a i z1 z2 => up_a (by omega)), w1.of (fun a i z1 => up_a (by omega))⟩) ((ha _ _ (by decide) (by decide)).trans c.ez) ((ha _ _ (by decide) (by decide)).trans c.ex) (c.c.of (fun a i q => ha _ _ (by omega) (by unfold FX; omega))) ((ha _ _ (by decide) (by decide)).trans c.en) (fun j h0 h1 => by rw [ha _ _ (by omega) (by unfold FX; omega)]; exact c.tp j h0 h1) ((ha _ _ (by decide) (by decide)).trans c.x1) ((ha _ _ (by decide) (by decide)).trans c.x2) (fun f h0 h1 => ?_)
    rw [ha (19 - p + 8) f (by rcases w.p with rfl | rfl <;> omega) (by unfold FX; rcases w.p with rfl | rfl <;> omega)]
    exact c.hb f h0 h1
  have r1 := (t.r.cl hT (fun a i q => ha _ _ (by omega) (by unfold FX; omega))).up2 (v := 0)
  have l1 := t.l.keep (σ' := sx_up σ1 0 9 1) w.wp w.x (fun a i q => ha _ _ (by omega) (by unfold FX; omega))
  have c1 := c1.up2 w.p (v := 0)
  refine r_keep rfl w.wp w.wm r1.g r1.w (fun σ2 hf2 i2 e85 => ⟨rfl, ?_⟩)
  have hT2 : PT σ2 := PT_fr hf2 r1.g.pt (by unfold FK; decide +kernel)
  have u := w.up
  refine Inv.mk' (jW.mk w.p w.wp u.wm u.ww u.wm u.ww w.wc (Or.inr rfl) w.z w.x w.nn u.k) (c1.rf w.p hT2 (fun a i q => hf2 _ _ (by unfold FK; omega))) ?_ (LG.next (l1.keep w.wp w.x (fun a i q => (hf2 _ _ (by unfold FK; omega)).trans (up_n (by omega)))))
  exact jR.mk (r1.g.ofU hT2 (fun a i q => hf2 _ _ (by unfold FK; omega))) (r1.w.of (fun a i q => hf2 _ _ (by unfold FK; omega))) e85 (fun _ => i2) ((hf2 _ _ (by decide)).trans r1.ez) (r1.c.of (fun a i q => hf2 _ _ (by unfold FK; omega))) ((hf2 _ _ (by decide)).trans r1.en) (fun j h0 h1 => by rw [hf2 _ _ (by unfold FK; omega)]; exact r1.tp j h0 h1) ((hf2 _ _ (by decide)).trans r1.x1) ((hf2 _ _ (by decide)).trans r1.x2) (fun f h0 h1 => by rw [hf2 _ _ (by unfold FK; omega)]; exact r1.hb f h0 h1) (fun j h0 h1 => by rw [hf2 _ _ (by unfold FK; omega)]; exact r1.wd j h0 h1)
theorem j_back (I : Inv k σ) : jI X 169 305 [] k σ := by
  obtain ⟨p, P, A, W, B, V, C, kp, z, nx, n9, f1, f2, tx, w, t⟩ := I.el
  have c := t.c
  have hg : σ 0 9 = 1 → GC 55 p P B σ := fun q => by
    rw [c.e9] at q
    obtain ⟨q1, q2, q3⟩ := c.im q
    exact GC.mk c.g.pt q1 c.g.cp q2 c.g.sc
  refine c_back (B := B) (V := V) w.p w.wp w.wb c.g.pt hg (fun q => by rw [c.e9] at q; exact (c.im q).2.2) (by rw [c.e9]; exact w.kp) (fun h => ⟨_, rfl, ?_⟩) (fun h σ1 hf g1 w1 => ⟨_, rfl, ?_⟩)
  · have t0 := t.up2 w (v := 0)
    rw [c.e9] at h
    exact r_back (B := B) (V := V) rfl w.wp w.wb t0.r.g (fun q => t0.r.im (t0.r.e9 ▸ q)) (by rw [t0.r.e9]; exact w.kp) (fun _ => ⟨rfl, t0.fin w⟩) (fun σ2 q => by rw [t0.r.e9] at q; omega)
  · have ha : ∀ a i : Int, ¬ (a = 85 ∧ i = 0) → ¬ FX 40 a i → sx_up σ1 85 0 0 a i = σ a i := fun a i q1 q2 => (up_n q1).trans (hf _ _ q2)
    have t0 := t.cm w (g1.of' w.p (g1.pt.up (by decide +kernel)) (fun a i z1 z2 => up_a (by omega))) (w1.of (fun a i q => up_a (by omega))) up_s ((ha _ _ (by decide) (by decide)).trans t.c.ex) (fun a i q => ha _ _ (by unfold kDc at q; omega) (by unfold kDc at q; unfold FX; omega))
    rw [c.e9] at h
    refine r_back (B := B) (V := V) rfl w.wp w.wb t0.r.g (fun q => t0.r.im (t0.r.e9 ▸ q)) (by rw [t0.r.e9]; exact w.kp) (fun q => by rw [t0.r.e9] at q; omega) (fun σ2 _ hf2 g2 w2 e83 => ⟨rfl, ?_⟩)
    exact t0.fin0 (w.to (w.wb.up (by omega)) (w.wv.up (by omega)) ⟨by decide, by decide⟩ w.x) g2 w2 e83 (fun a i q => hf2 _ _ (by unfold kEr at q; unfold FB; omega))
theorem j_feed (I : Inv k σ) {a b c d e : Int} : jI X 123 177 [.inl a, .inl b, .inl c, .inl d, .inl e] k σ := by
  obtain ⟨p, P, A, W, B, V, C, kp, z, nx, n9, f1, f2, tx, w, t⟩ := I.el
  have wn := w.nn
  refine c_feed t.c.g.pt t.c.en w.nn (fun h => ⟨_, rfl, ?_⟩) (fun h σ1 hf e1 eb => ⟨_, rfl, ?_⟩)
  · have t0 := t.up2 w (v := 0)
    exact r_feed rfl t0.r.g.pt t0.r.en w.nn (fun _ => ⟨rfl, t0.fin w⟩) (fun h2 => absurd h2 (by omega))
  · have hT : PT σ1 := t.c.g.pt.fr (fun q hq => hf _ _ (by
      have h1 := (show ∀ q ∈ ptL, ¬ (q.1 = 0 ∧ q.2.1 = 1) ∧ ¬ q.1 = 1 by decide +kernel) q hq
      unfold FTp
      omega))
    have c0 := t.c
    have r1 := (t.r.cl hT (fun a i q => hf _ _ (by unfold FTp; omega))).up2 (v := 0)
    have l1 := t.l.keep (σ' := σ1) w.wp w.x (fun a i q => hf _ _ (by unfold FTp; omega))
    refine r_feed rfl r1.g.pt r1.en w.nn (fun h2 => absurd h2 (by omega)) (fun _ σ2 hf2 e2 eb2 => ⟨rfl, ?_⟩)
    have hT2 : PT σ2 := r1.g.pt.fr (fun q hq => hf2 _ _ (by
      have h1 := (show ∀ q ∈ ptL, ¬ (q.1 = 124 ∧ q.2.1 = 1) ∧ ¬ q.1 = 125 by decide +kernel) q hq
      unfold FTr
      omega))
    have ha : ∀ a i : Int, a < 124 → σ2 a i = σ1 a i := fun a i q => (hf2 _ _ (by unfold FTr; omega)).trans (up_a (by omega))
    have hab : ∀ a i : Int, a < 124 → ¬ FTp n9 a i → σ2 a i = σ a i := fun a i q q2 => (ha a i q).trans (hf _ _ q2)
    have u := w.up
    refine Inv.mk' (n9 := n9 + 20) (tx := fun j => σ2 125 j) (jW.mk w.p w.wp u.wm u.ww u.wb u.wv w.wc w.kp w.z w.x ⟨by omega, by omega⟩ u.k) (jC.mk (c0.g.of' w.p hT2 (fun a i z1 z2 => hab _ _ (by omega) (by unfold FTp; omega))) (c0.w.of (fun a i q => hab _ _ (by omega) (by unfold FTp; omega))) ((hab _ _ (by decide) (by unfold FTp; omega)).trans c0.e2) ((hab _ _ (by decide) (by unfold FTp; omega)).trans c0.e3) ((hab _ _ (by decide) (by unfold FTp; omega)).trans c0.e9) (fun q => ?_) ((hab _ _ (by decide) (by unfold FTp; omega)).trans c0.ez) ((hab _ _ (by decide) (by unfold FTp; omega)).trans c0.ex) (c0.c.of (fun a i q => hab _ _ (by omega) (by unfold FTp; omega))) ((ha _ _ (by decide)).trans e1) (fun j y0 y1 => ?_) ((hab _ _ (by decide) (by unfold FTp; omega)).trans c0.x1) ((hab _ _ (by decide) (by unfold FTp; omega)).trans c0.x2) (fun f y0 y1 => ?_)) (jR.mk (r1.g.ofU hT2 (fun a i q => hf2 _ _ (by unfold FTr; omega))) (r1.w.of (fun a i q => hf2 _ _ (by unfold FTr; omega))) ((hf2 _ _ (by unfold FTr; omega)).trans r1.e9) (fun q => (r1.im q).of (fun a i z => hf2 _ _ (by unfold FTr; omega))) ((hf2 _ _ (by unfold FTr; omega)).trans r1.ez) (r1.c.of (fun a i q => hf2 _ _ (by unfold FTr; omega))) e2 (fun j y0 y1 => rfl) ((hf2 _ _ (by unfold FTr; omega)).trans r1.x1) ((hf2 _ _ (by unfold FTr; omega)).trans r1.x2) (fun f h0 h1 => by rw [hf2 _ _ (by unfold FTr; omega)]; exact r1.hb f h0 h1) (fun j h0 h1 => by rw [hf2 _ _ (by unfold FTr; omega)]; exact r1.wd j h0 h1)) (LG.next (l1.keep w.wp w.x (fun a i q => (hf2 _ _ (by unfold FTr; omega)).trans (up_n (by omega)))))
    · obtain ⟨q1, q2, q3⟩ := c0.im q
      exact ⟨(hab _ _ (by decide) (by unfold FTp; omega)).trans q1, q2.of (fun a i z1 z2 => hab _ _ (by omega) (by unfold FTp; omega)), q3.of (fun a i z1 => hab _ _ (by omega) (by unfold FTp; omega))⟩
    · show sx_and (σ2 1 j) 255 = σ2 125 j
      by_cases hj : j < n9
      · rw [hab 1 j (by decide) (by unfold FTp; omega), hf2 125 j (by unfold FTr; omega), r1.tp j y0 hj]
        exact c0.tp j y0 hj
      · have q1 := eb (j - n9) (by omega) (by omega)
        have q2 := eb2 (j - n9) (by omega) (by omega)
        rw [show n9 + (j - n9) = j by omega] at q1 q2
        rw [ha 1 j (by decide), q1, q2, b8_and]
    · rw [hab (19 - p + 8) f (by rcases w.p with rfl | rfl <;> omega) (by unfold FTp; rcases w.p with rfl | rfl <;> omega)]
      exact c0.hb f y0 y1
end SXV3
