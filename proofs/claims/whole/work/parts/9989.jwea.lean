/-! ONE CALL ON BOTH: hours, falls, thaws, nights, winters -/
section SXU8
variable {X : sx_X} {Q : sx_R} {σ σ0 σ' σ1 σ2 : sx_S}
variable {k p b s c9 x : Int} {P : aP} {A A' : aM} {W W' : aW} {B : aM} {V : aW} {C : aC} {kp z z' nx nx' n9 f1 f2 : Int} {tx : Int → Int}
theorem GC_fall (hs : isS s) (hp : isP p) (wm : wM P A c9) (g : GC s p P A σ) (e : sx_up (sx_mp σ (s + 10) (σ (s + 4) 0) (fun j => σ (s + 10) j + x)) s 8 (fMn (σ s 8 + x)) = σ') : fr (FC s) σ σ' ∧ GC s p P (fFall x A) σ' := by
  have hsz := hs.ge
  have en := g.cs.n
  have hf : fr (FC s) σ σ' := fun a i z => by
    unfold FC at z
    rw [← e]
    unfold sx_up sx_mp
    rw [if_neg (by omega), if_neg (by omega)]
  refine ⟨hf, GC.mk (hf.pt hs g.pt) ((hf s 1 (by unfold FC; omega)).trans g.ep) (g.cp.fr hs hp hf) ?_ (g.sc.of (fun a i z1 z2 => by rw [← e, up_a (by omega), mp_a (by omega)]))⟩
  refine cS.mk9 g.cs hf hsz (hr := A.hr) (sn := fMn (A.sn + x)) (la := A.la) (dp := A.dp) (cv := (fFall x A).cv) ?_ ?_ ?_ (fun m h0 h1 => ?_) (fun m h0 h1 => ?_)
  · rw [← e, up_i (by decide), mp_a (by omega), g.cs.hr]
  · rw [← e, up_s, g.cs.sn]
  · rw [← e, up_i (by decide), mp_a (by omega), g.cs.la]
  · rw [← e, up_a (by omega), mp_a (by omega), g.cs.dp m h0 h1]
  · rw [← e, up_a (by omega), en, mp_in h0 h1, g.cs.cv m h0 h1]; rfl
theorem GR_fall (hb : b = 0 ∨ b = 1) (wm : wM P A c9) (g : GR b P A σ) (e : sx_up (sx_mq σ 151 (90 * b) (σ 154 b) (fun j => σ 151 (90 * b + j) + x)) 155 b (fMn (σ 155 b + x)) = σ') : fr (FR b) σ σ' ∧ GR b P (fFall x A) σ' := by
  have en := g.rs.n
  have wn := wm.n
  rw [en] at e
  have hf : fr (FR b) σ σ' := fun a i z => by
    unfold FR at z
    rw [← e]
    unfold sx_up sx_mq
    rw [if_neg (by omega), if_neg (by omega)]
  refine ⟨hf, GR.mk (hf.ptr hb g.pt) (g.rp.fr hf) ?_ (g.sc.of (fun i => by rw [← e, up_a (by decide), mq_a (by decide)]) (by rw [← e, up_a (by decide), mq_a (by decide)]))⟩
  refine rS.mk9 g.rs hf (hr := A.hr) (sn := fMn (A.sn + x)) (la := A.la) (dp := A.dp) (cv := (fFall x A).cv) ?_ ?_ ?_ (fun m h0 h1 => ?_) (fun m h0 h1 => ?_)
  · rw [← e, up_a (by decide), mq_a (by decide), g.rs.hr]
  · rw [← e, up_s, g.rs.sn]
  · rw [← e, up_a (by decide), mq_a (by decide), g.rs.la]
  · rw [← e, up_a (by decide), mq_a (by decide), g.rs.dp m h0 h1]
  · rw [← e, up_a (by decide), mq_in (by omega) (by omega), show 90 * b + m - 90 * b = m by omega, g.rs.cv m h0 h1]; rfl
theorem GC_thaw (hs : isS s) (hp : isP p) (g : GC s p P A σ) (e : sx_up (sx_mp (sx_mp σ (s + 10) (σ (s + 4) 0) (fMc (σ (s + 9)) (σ (s + 10)) x)) (s + 9) (σ (s + 4) 0) (fMd (σ (s + 9)) (σ (s + 10)) x)) s 8 (fMax0 (σ s 8 - x)) = σ') : fr (FC s) σ σ' ∧ GC s p P (fThaw x A) σ' ∧ fCnt (fMg (σ (s + 9)) (σ (s + 10)) x) (σ (s + 4) 0).toNat = fCnt (fMg A.dp A.cv x) A.n.toNat := by
  have hsz := hs.ge
  have en := g.cs.n
  have ec : fCnt (fMg (σ (s + 9)) (σ (s + 10)) x) (σ (s + 4) 0).toNat = fCnt (fMg A.dp A.cv x) A.n.toNat := by
    rw [en]
    refine fCnt_cg (fun i h0 h1 => ?_)
    have h2 : i < A.n := by omega
    unfold fMg fMd
    rw [g.cs.dp i h0 h2, g.cs.cv i h0 h2]
  have hf : fr (FC s) σ σ' := fun a i z => by
    unfold FC at z
    rw [← e]
    unfold sx_up sx_mp
    rw [if_neg (by omega), if_neg (by omega), if_neg (by omega)]
  refine ⟨hf, GC.mk (hf.pt hs g.pt) ((hf s 1 (by unfold FC; omega)).trans g.ep) (g.cp.fr hs hp hf) ?_ (g.sc.of (fun a i z1 z2 => by rw [← e, up_a (by omega), mp_a (by omega), mp_a (by omega)])), ec⟩
  refine cS.mk9 g.cs hf hsz (hr := A.hr) (sn := fMax0 (A.sn - x)) (la := A.la) (dp := (fThaw x A).dp) (cv := (fThaw x A).cv) ?_ ?_ ?_ (fun m h0 h1 => ?_) (fun m h0 h1 => ?_)
  · rw [← e, up_i (by decide), mp_a (by omega), mp_a (by omega), g.cs.hr]
  · rw [← e, up_s, g.cs.sn]
  · rw [← e, up_i (by decide), mp_a (by omega), mp_a (by omega), g.cs.la]
  · rw [← e, up_a (by omega), en, mp_in h0 h1]
    show fMd _ _ x m = fMd A.dp A.cv x m
    unfold fMd
    rw [g.cs.dp m h0 h1, g.cs.cv m h0 h1]
  · rw [← e, up_a (by omega), mp_a (by omega), en, mp_in h0 h1]
    show fMc _ _ x m = fMc A.dp A.cv x m
    unfold fMc
    rw [g.cs.dp m h0 h1, g.cs.cv m h0 h1]
theorem GR_thaw (hb : b = 0 ∨ b = 1) (wm : wM P A c9) (g : GR b P A σ) (e : sx_up (sx_mq (sx_mq σ 151 (90 * b) (σ 154 b) (fMc (fun j => σ 150 (90 * b + j)) (fun j => σ 151 (90 * b + j)) x)) 150 (90 * b) (σ 154 b) (fMd (fun j => σ 150 (90 * b + j)) (fun j => σ 151 (90 * b + j)) x)) 155 b (fMax0 (σ 155 b - x)) = σ') : fr (FR b) σ σ' ∧ GR b P (fThaw x A) σ' ∧ fCnt (fMg (fun j => σ 150 (90 * b + j)) (fun j => σ 151 (90 * b + j)) x) (σ 154 b).toNat = fCnt (fMg A.dp A.cv x) A.n.toNat := by
  have en := g.rs.n
  have wn := wm.n
  have ec : fCnt (fMg (fun j => σ 150 (90 * b + j)) (fun j => σ 151 (90 * b + j)) x) (σ 154 b).toNat = fCnt (fMg A.dp A.cv x) A.n.toNat := by
    rw [en]
    refine fCnt_cg (fun i h0 h1 => ?_)
    have h2 : i < A.n := by omega
    unfold fMg fMd
    simp only [g.rs.dp i h0 h2, g.rs.cv i h0 h2]
  rw [en] at e
  have hf : fr (FR b) σ σ' := fun a i z => by
    unfold FR at z
    rw [← e]
    unfold sx_up sx_mq
    rw [if_neg (by omega), if_neg (by omega), if_neg (by omega)]
  refine ⟨hf, GR.mk (hf.ptr hb g.pt) (g.rp.fr hf) ?_ (g.sc.of (fun i => by rw [← e, up_a (by decide), mq_a (by decide), mq_a (by decide)]) (by rw [← e, up_a (by decide), mq_a (by decide), mq_a (by decide)])), ec⟩
  refine rS.mk9 g.rs hf (hr := A.hr) (sn := fMax0 (A.sn - x)) (la := A.la) (dp := (fThaw x A).dp) (cv := (fThaw x A).cv) ?_ ?_ ?_ (fun m h0 h1 => ?_) (fun m h0 h1 => ?_)
  · rw [← e, up_a (by decide), mq_a (by decide), mq_a (by decide), g.rs.hr]
  · rw [← e, up_s, g.rs.sn]
  · rw [← e, up_a (by decide), mq_a (by decide), mq_a (by decide), g.rs.la]
  · rw [← e, up_a (by decide), mq_in (by omega) (by omega), show 90 * b + m - 90 * b = m by omega]
    show fMd _ _ x m = fMd A.dp A.cv x m
    unfold fMd
    simp only [g.rs.dp m h0 h1, g.rs.cv m h0 h1]
  · rw [← e, up_a (by decide), mq_a (by decide), mq_in (by omega) (by omega), show 90 * b + m - 90 * b = m by omega]
    show fMc _ _ x m = fMc A.dp A.cv x m
    unfold fMc
    simp only [g.rs.dp m h0 h1, g.rs.cv m h0 h1]
/-- behind the class's half of a call: its cells have the new picture, the reference's the old one -/
def jM (p : Int) (P : aP) (A A' : aM) (W W' : aW) (B : aM) (V : aW) (C : aC) (kp z z' nx' n9 f1 f2 : Int) (tx : Int → Int) (σ : sx_S) : Prop := (jC p P A' W' B V C kp z' nx' n9 f1 f2 tx σ) ∧ (jR P A W B V C kp z n9 f1 f2 tx σ)
theorem jM.c {p : Int} {P : aP} {A A' : aM} {W W' : aW} {B : aM} {V : aW} {C : aC} {kp z z' nx' n9 f1 f2 : Int} {tx : Int → Int} {σ : sx_S} (h : jM p P A A' W W' B V C kp z z' nx' n9 f1 f2 tx σ) : jC p P A' W' B V C kp z' nx' n9 f1 f2 tx σ := h.1
theorem jM.r {p : Int} {P : aP} {A A' : aM} {W W' : aW} {B : aM} {V : aW} {C : aC} {kp z z' nx' n9 f1 f2 : Int} {tx : Int → Int} {σ : sx_S} (h : jM p P A A' W W' B V C kp z z' nx' n9 f1 f2 tx σ) : jR P A W B V C kp z n9 f1 f2 tx σ := h.2
theorem jM.mk {p : Int} {P : aP} {A A' : aM} {W W' : aW} {B : aM} {V : aW} {C : aC} {kp z z' nx' n9 f1 f2 : Int} {tx : Int → Int} {σ : sx_S} (c9 : jC p P A' W' B V C kp z' nx' n9 f1 f2 tx σ) (r9 : jR P A W B V C kp z n9 f1 f2 tx σ) : jM p P A A' W W' B V C kp z z' nx' n9 f1 f2 tx σ := ⟨c9, r9⟩
theorem jT.cm (t : jT k p P A W B V C kp z nx n9 f1 f2 tx σ) (w : jW k p P A W B V C kp z nx n9) (g : GC 40 p P A' σ') (gw : cW P 40 σ' W') (ez : σ' 85 0 = z') (ex : σ' 85 1 = nx') (e : ∀ a i : Int, kDc a i ∨ 124 ≤ a → σ' a i = σ a i) : jM p P A A' W W' B V C kp z z' nx' n9 f1 f2 tx (sx_up σ' 124 2 0) :=
  jM.mk ((t.c.ofW w.p g gw ez ex (fun a i q => e _ _ (Or.inl q))).up2 w.p) ((t.r.cl g.pt (fun a i q => e _ _ (Or.inr q))).up2)
/-- the reference's half: no step is left to be undone -/
theorem jM.fin0 (t : jM p P A A' W W' B V C kp z 0 nx' n9 f1 f2 tx σ) (w : jW (k + 1) p P A' W' B V C kp 0 nx' n9) (g : GR 0 P A' σ') (gw : rW P σ' W') (ez : σ' 124 83 = 0) (e : ∀ a i : Int, a < 124 ∨ kEr a i → σ' a i = σ a i) : Inv (k + 1) σ' :=
  Inv.mk' w (t.c.rf w.p g.pt (fun a i q => e _ _ (Or.inl q))) (t.r.ofW g gw ez (fun a i q => e _ _ (Or.inr q))) trivial
theorem jW.to (w : jW k p P A W B V C kp z nx n9) (wm : wM P A' (99 * (k + 1))) (ww : wW P W' (k + 1)) (hz : 0 ≤ z' ∧ z' ≤ 20) (hx : 0 ≤ nx' ∧ nx' < 20) : jW (k + 1) p P A' W' B V C kp z' nx' n9 := by
  have u := w.up
  exact jW.mk w.p w.wp wm ww u.wb u.wv w.wc w.kp hz hx w.nn u.k
theorem j_hours (I : Inv k σ) {x : Int} : jI X 135 246 [.inl x] k σ := by
  obtain ⟨p, P, A, W, B, V, C, kp, z, nx, n9, f1, f2, tx, w, t⟩ := I.el
  refine c_hours w.p w.wp w.wm t.c.g (fun h => ⟨_, rfl, ?_⟩) (fun h => ⟨_, rfl, ?_⟩) (fun h1 h2 h3 σ1 hf g1 => ⟨_, rfl, ?_⟩)
  · have t0 := t.up2 w (v := 0)
    exact r_hours rfl w.wp w.wm t0.r.g (fun _ => ⟨rfl, t0.fin w⟩) (fun h2 => absurd (show 0 ≤ x ∧ x ≤ 99 ∧ A.hr + x ≤ 9999 by have := w.wm.hr; omega) h) (fun h2 h3 h4 => absurd (show 0 ≤ x ∧ x ≤ 99 ∧ A.hr + x ≤ 9999 by omega) h)
  · have t0 := t.up2 w (v := 0)
    exact r_hours rfl w.wp w.wm t0.r.g (fun h2 => absurd (show 0 ≤ x ∧ x ≤ 99 ∧ A.hr + x ≤ 9999 by have := w.wm.hr; omega) h2) (fun _ => ⟨rfl, by rw [up_id rfl]; exact t0.fin w⟩) (fun h2 => absurd h2 (by omega))
  · have ha : ∀ a i : Int, ¬ (a = 85 ∧ i = 0) → ¬ FC 40 a i → sx_up σ1 85 0 0 a i = σ a i := fun a i q1 q2 => (up_n q1).trans (hf _ _ q2)
    have hg : GC 40 p P (fHrs P x.toNat A) (sx_up σ1 85 0 0) := g1.of' w.p (g1.pt.up (by decide +kernel)) (fun a i z1 z2 => up_a (by omega))
    have t0 := t.cm w (W' := W) hg (t.c.w.of (fun a i q => ha _ _ (by omega) (by unfold FC; omega))) up_s ((ha _ _ (by decide) (by decide)).trans t.c.ex) (fun a i q => ha _ _ (by unfold kDc at q; omega) (by unfold kDc at q; unfold FC; omega))
    refine r_hours rfl w.wp w.wm t0.r.g (fun h4 => absurd (show 0 ≤ x ∧ x ≤ 99 ∧ A.hr + x ≤ 9999 by omega) h4) (fun h4 => absurd h4 (by omega)) (fun _ _ _ σ2 hf2 g2 => ⟨rfl, ?_⟩)
    refine t0.fin0 (w.to ((w.wm.hrs x.toNat (by omega)).up (by omega)) (w.ww.up (by omega)) ⟨by decide, by decide⟩ w.x) (g2.ofU (g2.pt.up (by decide +kernel)) (fun a i q => up_n (by omega))) (t0.r.w.of (fun a i q => (up_n (by omega)).trans (hf2 _ _ (by unfold FR; omega)))) up_s (fun a i q => (up_n (by unfold kEr at q; omega)).trans (hf2 _ _ (by unfold kEr at q; unfold FR; omega)))
theorem j_night (I : Inv k σ) (hk : k ≤ 1000) : jI X 138 251 [] k σ := by
  obtain ⟨p, P, A, W, B, V, C, kp, z, nx, n9, f1, f2, tx, w, t⟩ := I.el
  refine c_night w.p w.wp w.wm (by omega) t.c.g rfl (fun h => ⟨_, rfl, ?_⟩) (fun h1 σ1 hf g1 => ⟨_, rfl, ?_⟩)
  · have t0 := t.up2 w (v := 0)
    exact r_night rfl w.wp w.wm (by omega) t0.r.g rfl (fun _ => ⟨rfl, t0.fin w⟩) (fun h2 => absurd h2 (by omega))
  · have ha : ∀ a i : Int, ¬ (a = 85 ∧ i = 0) → ¬ FC 40 a i → σ1 a i = σ a i := fun a i q1 q2 => (hf _ _ q2).trans (up_n q1)
    have t0 := t.cm w (W' := W) g1 (t.c.w.of (fun a i q => ha _ _ (by omega) (by unfold FC; omega))) ((hf _ _ (by decide)).trans up_s) ((ha _ _ (by decide) (by decide)).trans t.c.ex) (fun a i q => ha _ _ (by unfold kDc at q; omega) (by unfold kDc at q; unfold FC; omega))
    refine r_night rfl w.wp w.wm (by omega) t0.r.g rfl (fun h4 => absurd h1 (by omega)) (fun _ σ2 hf2 g2 => ⟨rfl, ?_⟩)
    have hb : ∀ a i : Int, ¬ (a = 124 ∧ i = 83) → ¬ FR 0 a i → σ2 a i = sx_up σ1 124 2 0 a i := fun a i q1 q2 => (hf2 _ _ q2).trans (up_n q1)
    exact t0.fin0 (w.to ((w.wm.ns h1).up (by omega)) (w.ww.up (by omega)) ⟨by decide, by decide⟩ w.x) g2 (t0.r.w.of (fun a i q => hb _ _ (by omega) (by unfold FR; omega))) ((hf2 _ _ (by decide)).trans up_s) (fun a i q => hb _ _ (by unfold kEr at q; omega) (by unfold kEr at q; unfold FR; omega))
theorem j_winter (I : Inv k σ) (hk : k ≤ 1000) : jI X 139 252 [] k σ := by
  obtain ⟨p, P, A, W, B, V, C, kp, z, nx, n9, f1, f2, tx, w, t⟩ := I.el
  refine c_winter w.p w.wp w.wm t.c.g t.c.w w.ww hk (fun σ1 hf g1 w1 => ⟨_, rfl, ?_⟩)
  have ha : ∀ a i : Int, ¬ (a = 85 ∧ i = 0) → ¬ FW 40 a i → sx_up σ1 85 0 0 a i = σ a i := fun a i q1 q2 => (up_n q1).trans (hf _ _ q2)
  have t0 := t.cm w (g1.of' w.p (g1.pt.up (by decide +kernel)) (fun a i z1 z2 => up_a (by omega))) (w1.of (fun a i q => up_a (by omega))) up_s ((ha _ _ (by decide) (by decide)).trans t.c.ex) (fun a i q => ha _ _ (by unfold kDc at q; omega) (by unfold kDc at q; unfold FW; omega))
  refine r_winter rfl w.wp w.wm t0.r.g t0.r.w w.ww hk (fun σ2 hf2 g2 w2 e83 => ⟨rfl, ?_⟩)
  exact t0.fin0 (w.to (w.wm.win.up (by omega)) (w.ww.win w.wp) ⟨by decide, by decide⟩ w.x) g2 w2 e83 (fun a i q => hf2 _ _ (by unfold kEr at q; unfold FV; omega))
end SXU8
