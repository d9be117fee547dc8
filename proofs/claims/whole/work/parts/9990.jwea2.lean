/-! ONE CALL ON BOTH: falls, thaws; claims; keep -/
section SXU9
variable {X : sx_X} {Q : sx_R} {σ σ0 σ' σ1 σ2 : sx_S}
variable {k p b s c9 x : Int} {P : aP} {A A' : aM} {W W' : aW} {B : aM} {V : aW} {C : aC} {kp z z' nx nx' n9 f1 f2 : Int} {tx : Int → Int}
theorem wM.cvb (wm : wM P A (99 * k)) (hk : k ≤ 1000) {m : Int} (h0 : 0 ≤ m) (h1 : m < A.n) : 0 ≤ A.cv m ∧ A.cv m ≤ 1000000 := by
  have := wm.cv m h0 h1
  omega
theorem j_fall (I : Inv k σ) (hk : k ≤ 1000) {x : Int} : jI X 136 247 [.inl x] k σ := by
  obtain ⟨p, P, A, W, B, V, C, kp, z, nx, n9, f1, f2, tx, w, t⟩ := I.el
  have hr : ∀ {τ : sx_S}, jR P A W B V C kp z n9 f1 f2 tx τ → (∀ i : Int, 0 ≤ i → i < τ 154 0 → 0 ≤ τ 151 (90 * 0 + i) ∧ τ 151 (90 * 0 + i) ≤ 1000000) ∧ (0 ≤ τ 155 0 ∧ τ 155 0 ≤ 9999) ∧ (0 ≤ τ 154 0 ∧ τ 154 0 ≤ 90) := fun {τ} r => by
    refine ⟨fun i y0 y1 => ?_, ?_, ?_⟩
    · rw [r.g.rs.n] at y1
      rw [r.g.rs.cv i y0 y1]
      exact w.wm.cvb hk y0 y1
    · rw [r.g.rs.sn]; exact w.wm.sn
    · rw [r.g.rs.n]; exact w.wm.n
  refine c_fall t.c.g.pt (s := 40) (Or.inl rfl) (t.nC w) (fun i y0 y1 => ?_) (by rw [t.c.g.cs.sn]; exact w.wm.sn) (pt_0_6 t.c.g.pt) (fun h => ⟨_, rfl, ?_⟩) (fun h1 h2 => ⟨_, rfl, ?_⟩)
  · rw [t.c.g.cs.n] at y1
    rw [t.c.g.cs.cv i y0 y1]
    exact w.wm.cvb hk y0 y1
  · have t0 := t.up2 w (v := 0)
    obtain ⟨q1, q2, q3⟩ := hr t0.r
    exact r_fall rfl t0.r.g.pt q3 (t0.r.RD w.wp) q1 q2 (fun _ => ⟨rfl, t0.fin w⟩) (fun h2 h3 => absurd ⟨h2, h3⟩ h)
  · generalize e : sx_up (sx_mp σ (40 + 10) (σ (40 + 4) 0) (fun j => σ (40 + 10) j + x)) 40 8 (fMn (σ 40 8 + x)) = σ1
    obtain ⟨hf, g1⟩ := GC_fall (Or.inl rfl) w.p w.wm t.c.g e
    have ha : ∀ a i : Int, ¬ (a = 85 ∧ i = 0) → ¬ FC 40 a i → sx_up σ1 85 0 0 a i = σ a i := fun a i q1 q2 => (up_n q1).trans (hf _ _ q2)
    have t0 := t.cm w (W' := W) (g1.of' w.p (g1.pt.up (by decide +kernel)) (fun a i z1 z2 => up_a (by omega))) (t.c.w.of (fun a i q => ha _ _ (by omega) (by unfold FC; omega))) up_s ((ha _ _ (by decide) (by decide)).trans t.c.ex) (fun a i q => ha _ _ (by unfold kDc at q; omega) (by unfold kDc at q; unfold FC; omega))
    obtain ⟨q1, q2, q3⟩ := hr t0.r
    refine r_fall rfl t0.r.g.pt q3 (t0.r.RD w.wp) q1 q2 (fun h4 => absurd ⟨h1, h2⟩ h4) (fun _ _ => ⟨by rw [t0.r.g.rs.sn, t.c.g.cs.sn], ?_⟩)
    generalize e2 : sx_up (sx_mq _ 151 (90 * 0) _ _) 155 0 _ = σ2
    obtain ⟨hf2, g2⟩ := GR_fall (Or.inl rfl) w.wm t0.r.g e2
    exact t0.fin0 (w.to ((w.wm.fall (by omega)).up (by omega)) (w.ww.up (by omega)) ⟨by decide, by decide⟩ w.x) (g2.ofU (g2.pt.up (by decide +kernel)) (fun a i q => up_n (by omega))) (t0.r.w.of (fun a i q => (up_n (by omega)).trans (hf2 _ _ (by unfold FR; omega)))) up_s (fun a i q => (up_n (by unfold kEr at q; omega)).trans (hf2 _ _ (by unfold kEr at q; unfold FR; omega)))
theorem j_thaw (I : Inv k σ) (hk : k ≤ 1000) {x : Int} : jI X 137 248 [.inl x] k σ := by
  obtain ⟨p, P, A, W, B, V, C, kp, z, nx, n9, f1, f2, tx, w, t⟩ := I.el
  have hr : ∀ {τ : sx_S}, GR 0 P A τ → (∀ i : Int, 0 ≤ i → i < τ 154 0 → 0 ≤ τ 151 (90 * 0 + i) ∧ τ 151 (90 * 0 + i) ≤ 1000000) ∧ (∀ i : Int, 0 ≤ i → i < τ 154 0 → 0 ≤ τ 150 (90 * 0 + i) ∧ τ 150 (90 * 0 + i) ≤ 1000000) ∧ (0 ≤ τ 155 0 ∧ τ 155 0 ≤ 9999) ∧ (0 ≤ τ 154 0 ∧ τ 154 0 ≤ 90) := fun {τ} r => by
    refine ⟨fun i y0 y1 => ?_, fun i y0 y1 => ?_, ?_, ?_⟩
    · rw [r.rs.n] at y1
      rw [r.rs.cv i y0 y1]
      exact w.wm.cvb hk y0 y1
    · rw [r.rs.n] at y1
      rw [r.rs.dp i y0 y1]
      have := w.wm.dp i y0 y1
      omega
    · rw [r.rs.sn]; exact w.wm.sn
    · rw [r.rs.n]; exact w.wm.n
  have gu : GC 40 p P A (sx_up σ 85 0 0) := t.c.g.of' w.p (t.c.g.pt.up (by decide +kernel)) (fun a i z1 z2 => up_a (by omega))
  have hru : ∀ {τ : sx_S}, GR 0 P A τ → GR 0 P A (sx_up τ 124 83 0) := fun g => g.ofU (g.pt.up (by decide +kernel)) (fun a i q => up_n (by omega))
  refine c_thaw t.c.g.pt (s := 40) (Or.inl rfl) (by rw [gu.cs.n]; exact w.wm.n) (fun i y0 y1 => ?_) (fun i y0 y1 => ?_) (by rw [gu.cs.sn]; exact w.wm.sn) (pt_0_6 t.c.g.pt) (fun h => ⟨_, rfl, ?_⟩) (fun h1 h2 => ⟨_, rfl, ?_⟩)
  · rw [gu.cs.n] at y1
    rw [gu.cs.cv i y0 y1]
    exact w.wm.cvb hk y0 y1
  · rw [gu.cs.n] at y1
    rw [gu.cs.dp i y0 y1]
    have := w.wm.dp i y0 y1
    omega
  · have t0 := t.up2 w (v := 0)
    obtain ⟨q1, q2, q3, q4⟩ := hr (hru t0.r.g)
    exact r_thaw rfl t0.r.g.pt (t0.nR w) (t0.r.RD w.wp) rfl (hru t0.r.g).pt q4 q1 q2 q3 (fun _ => ⟨rfl, t0.fin w⟩) (fun h2 h3 => absurd ⟨h2, h3⟩ h)
  · generalize e : sx_up (sx_mp (sx_mp (sx_up σ 85 0 0) (40 + 10) _ _) (40 + 9) _ _) 40 8 _ = σ1
    obtain ⟨hf, g1, ec⟩ := GC_thaw (Or.inl rfl) w.p gu e
    rw [ec]
    have ha : ∀ a i : Int, ¬ (a = 85 ∧ i = 0) → ¬ FC 40 a i → σ1 a i = σ a i := fun a i q1 q2 => (hf _ _ q2).trans (up_n q1)
    have t0 := t.cm w (W' := W) g1 (t.c.w.of (fun a i q => ha _ _ (by omega) (by unfold FC; omega))) ((hf _ _ (by decide)).trans up_s) ((ha _ _ (by decide) (by decide)).trans t.c.ex) (fun a i q => ha _ _ (by unfold kDc at q; omega) (by unfold kDc at q; unfold FC; omega))
    obtain ⟨q1, q2, q3, q4⟩ := hr (hru t0.r.g)
    refine r_thaw rfl t0.r.g.pt (by rw [t0.r.g.rs.n]; exact w.wm.n) (t0.r.RD w.wp) rfl (hru t0.r.g).pt q4 q1 q2 q3 (fun h4 => absurd ⟨h1, h2⟩ h4) (fun _ _ => ?_)
    generalize e2 : sx_up (sx_mq (sx_mq _ 151 (90 * 0) _ _) 150 (90 * 0) _ _) 155 0 _ = σ2
    obtain ⟨hf2, g2, ec2⟩ := GR_thaw (Or.inl rfl) w.wm (hru t0.r.g) e2
    refine ⟨by rw [ec2], ?_⟩
    have hb : ∀ a i : Int, ¬ (a = 124 ∧ i = 83) → ¬ FR 0 a i → σ2 a i = sx_up σ1 124 2 0 a i := fun a i q1 q2 => (hf2 _ _ q2).trans (up_n q1)
    exact t0.fin0 (w.to ((w.wm.thaw (by omega)).up (by omega)) (w.ww.up (by omega)) ⟨by decide, by decide⟩ w.x) g2 (t0.r.w.of (fun a i q => hb _ _ (by omega) (by unfold FR; omega))) ((hf2 _ _ (by decide)).trans up_s) (fun a i q => hb _ _ (by unfold kEr at q; omega) (by unfold kEr at q; unfold FR; omega))
/-! claims -/
theorem jT.clm {C' : aC} (t : jT k p P A W B V C kp z nx n9 f1 f2 tx σ) (w : jW k p P A W B V C kp z nx n9) (hf : fr FCl σ σ') (hc : cC σ' C') : jC p P A W B V C' kp z nx n9 f1 f2 tx σ' ∧ jR P A W B V C kp z n9 f1 f2 tx σ' ∧ LG P σ' k 0 z.toNat nx (uOf A W) := by
  have hT : PT σ' := PT_fr hf t.c.g.pt (by unfold FCl; decide +kernel)
  have c := t.c
  refine ⟨jC.mk (c.g.of' w.p hT (fun a i z1 z2 => hf _ _ (by unfold FCl; omega))) (c.w.of (fun a i q => hf _ _ (by unfold FCl; omega))) ((hf _ _ (by decide)).trans c.e2) ((hf _ _ (by decide)).trans c.e3) ((hf _ _ (by decide)).trans c.e9) (fun q => ?_) ((hf _ _ (by decide)).trans c.ez) ((hf _ _ (by decide)).trans c.ex) hc ((hf _ _ (by decide)).trans c.en) (fun j h0 h1 => by rw [hf _ _ (by unfold FCl; omega)]; exact c.tp j h0 h1) ((hf _ _ (by decide)).trans c.x1) ((hf _ _ (by decide)).trans c.x2) (fun f h0 h1 => ?_), t.r.cl hT (fun a i q => hf _ _ (by unfold FCl; omega)), t.l.keep w.wp w.x (fun a i q => hf _ _ (by unfold FCl; omega))⟩
  · obtain ⟨q1, q2, q3⟩ := c.im q
    exact ⟨(hf _ _ (by decide)).trans q1, q2.of (fun a i z1 z2 => hf _ _ (by unfold FCl; omega)), q3.of (fun a i z1 => hf _ _ (by unfold FCl; omega))⟩
  · rw [hf (19 - p + 8) f (by unfold FCl; rcases w.p with rfl | rfl <;> omega)]
    exact c.hb f h0 h1
theorem jR.clm {C' : aC} (r : jR P A W B V C kp z n9 f1 f2 tx σ) (hf : fr FClR σ σ') (hc : rC σ' C') : jR P A W B V C' kp z n9 f1 f2 tx σ' ∧ PT σ' := by
  have hT : PT σ' := PT_fr hf r.g.pt (by unfold FClR; decide +kernel)
  exact ⟨jR.mk (r.g.ofU hT (fun a i q => hf _ _ (by unfold FClR; omega))) (r.w.of (fun a i q => hf _ _ (by unfold FClR; omega))) ((hf _ _ (by decide)).trans r.e9) (fun q => (r.im q).of (fun a i z => hf _ _ (by unfold FClR; omega))) ((hf _ _ (by decide)).trans r.ez) hc ((hf _ _ (by decide)).trans r.en) (fun j h0 h1 => by rw [hf _ _ (by unfold FClR; omega)]; exact r.tp j h0 h1) ((hf _ _ (by decide)).trans r.x1) ((hf _ _ (by decide)).trans r.x2) (fun f h0 h1 => by rw [hf _ _ (by unfold FClR; omega)]; exact r.hb f h0 h1) (fun j h0 h1 => by rw [hf _ _ (by unfold FClR; omega)]; exact r.wd j h0 h1), hT⟩
/-- both halves of a call on claims -/
theorem jT.cl2 {C' : aC} (t : jT k p P A W B V C kp z nx n9 f1 f2 tx σ) (w : jW k p P A W B V C kp z nx n9) (wc : wC P C') (hf : fr FCl σ σ1) (hc : cC σ1 C') (hf2 : fr FClR (sx_up σ1 124 2 0) σ2) (hc2 : rC σ2 C') : Inv (k + 1) σ2 := by
  obtain ⟨c1, r1, l1⟩ := t.clm w hf hc
  obtain ⟨r2, hT2⟩ := (r1.up2 (v := 0)).clm hf2 hc2
  have u := w.up
  exact Inv.mk' (jW.mk w.p w.wp u.wm u.ww u.wb u.wv wc w.kp w.z w.x w.nn u.k) ((c1.up2 w.p).rf w.p hT2 (fun a i q => hf2 _ _ (by unfold FClR; omega))) r2 (LG.next (l1.keep w.wp w.x (fun a i q => (hf2 _ _ (by unfold FClR; omega)).trans (up_n (by omega)))))
theorem j_claim (I : Inv k σ) {ce wk fm t2 : Int} : jI X 143 257 [.inl ce, .inl wk, .inl fm, .inl t2] k σ := by
  obtain ⟨p, P, A, W, B, V, C, kp, z, nx, n9, f1, f2, tx, w, t⟩ := I.el
  refine c_claim w.p t.c.e2 w.wp w.wc t.c.g t.c.c (fun h => ⟨_, rfl, ?_⟩) (fun h σ1 hf hc => ⟨_, rfl, ?_⟩)
  · have t0 := t.up2 w (v := 0)
    exact r_claim rfl w.wp w.wc t0.r.g t0.r.c (fun _ => ⟨rfl, t0.fin w⟩) (fun h2 => absurd h2 h)
  · obtain ⟨c1, r1, l1⟩ := t.clm w hf hc
    have r0 := r1.up2 (v := 0)
    exact r_claim rfl w.wp w.wc r0.g r0.c (fun h2 => absurd h h2) (fun _ σ2 hf2 hc2 => ⟨rfl, t.cl2 w (w.wc.adC (by omega) (by omega)) hf hc hf2 hc2⟩)
theorem j_strike (I : Inv k σ) {q : Int} : jI X 144 258 [.inl q] k σ := by
  obtain ⟨p, P, A, W, B, V, C, kp, z, nx, n9, f1, f2, tx, w, t⟩ := I.el
  refine c_strike t.c.g.pt w.wc t.c.c (fun h => ⟨_, rfl, ?_⟩) (fun h σ1 hf hc => ⟨_, rfl, ?_⟩)
  · have t0 := t.up2 w (v := 0)
    exact r_strike rfl t0.r.g.pt w.wc t0.r.c (fun _ => ⟨rfl, t0.fin w⟩) (fun h2 => absurd h2 h)
  · obtain ⟨c1, r1, l1⟩ := t.clm w hf hc
    have r0 := r1.up2 (v := 0)
    exact r_strike rfl r0.g.pt w.wc r0.c (fun h2 => absurd h h2) (fun _ σ2 hf2 hc2 => ⟨rfl, t.cl2 w (w.wc.adS (by omega) (by omega)) hf hc hf2 hc2⟩)
theorem j_known (I : Inv k σ) {q : Int} : jI X 145 259 [.inl q] k σ := by
  obtain ⟨p, P, A, W, B, V, C, kp, z, nx, n9, f1, f2, tx, w, t⟩ := I.el
  refine c_known t.c.g.pt t.c.c (fun h => ⟨_, rfl, ?_⟩) (fun h σ1 hf hc => ⟨_, rfl, ?_⟩)
  · have t0 := t.up2 w (v := 0)
    exact r_known rfl t0.r.c (fun _ => ⟨rfl, t0.fin w⟩) (fun h2 => absurd h2 h)
  · obtain ⟨c1, r1, l1⟩ := t.clm w hf hc
    have r0 := r1.up2 (v := 0)
    exact r_known rfl r0.c (fun h2 => absurd h h2) (fun _ σ2 hf2 hc2 => ⟨rfl, t.cl2 w (w.wc.knC h) hf hc hf2 hc2⟩)
end SXU9
