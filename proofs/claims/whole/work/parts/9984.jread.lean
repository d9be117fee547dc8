/-! ONE CALL ON BOTH: calls that only look -/
section SXU3
variable {X : sx_X} {Q : sx_R} {σ σ0 σ' σ1 σ2 : sx_S}
variable {k p : Int} {P : aP} {A A' : aM} {W W' : aW} {B : aM} {V : aW} {C : aC} {kp z z' nx nx' n9 f1 f2 : Int} {tx : Int → Int}
def jT (k p : Int) (P : aP) (A : aM) (W : aW) (B : aM) (V : aW) (C : aC) (kp z nx n9 f1 f2 : Int) (tx : Int → Int) (σ : sx_S) : Prop := (jC p P A W B V C kp z nx n9 f1 f2 tx σ) ∧ (jR P A W B V C kp z n9 f1 f2 tx σ) ∧ (LG P σ k 0 z.toNat nx (uOf A W))
theorem jT.c {k p : Int} {P : aP} {A : aM} {W : aW} {B : aM} {V : aW} {C : aC} {kp z nx n9 f1 f2 : Int} {tx : Int → Int} {σ : sx_S} (h : jT k p P A W B V C kp z nx n9 f1 f2 tx σ) : jC p P A W B V C kp z nx n9 f1 f2 tx σ := h.1
theorem jT.r {k p : Int} {P : aP} {A : aM} {W : aW} {B : aM} {V : aW} {C : aC} {kp z nx n9 f1 f2 : Int} {tx : Int → Int} {σ : sx_S} (h : jT k p P A W B V C kp z nx n9 f1 f2 tx σ) : jR P A W B V C kp z n9 f1 f2 tx σ := h.2.1
theorem jT.l {k p : Int} {P : aP} {A : aM} {W : aW} {B : aM} {V : aW} {C : aC} {kp z nx n9 f1 f2 : Int} {tx : Int → Int} {σ : sx_S} (h : jT k p P A W B V C kp z nx n9 f1 f2 tx σ) : LG P σ k 0 z.toNat nx (uOf A W) := h.2.2
theorem jT.mk {k p : Int} {P : aP} {A : aM} {W : aW} {B : aM} {V : aW} {C : aC} {kp z nx n9 f1 f2 : Int} {tx : Int → Int} {σ : sx_S} (c9 : jC p P A W B V C kp z nx n9 f1 f2 tx σ) (r9 : jR P A W B V C kp z n9 f1 f2 tx σ) (l9 : LG P σ k 0 z.toNat nx (uOf A W)) : jT k p P A W B V C kp z nx n9 f1 f2 tx σ := ⟨c9, r9, l9⟩
theorem Inv.el (h : Inv k σ) : ∃ (p : Int) (P : aP) (A : aM) (W : aW) (B : aM) (V : aW) (C : aC) (kp z nx n9 f1 f2 : Int) (tx : Int → Int), jW k p P A W B V C kp z nx n9 ∧ jT k p P A W B V C kp z nx n9 f1 f2 tx σ := h
theorem jT.cr (t : jT k p P A W B V C kp z nx n9 f1 f2 tx σ) (w : jW k p P A W B V C kp z nx n9) (g : GC 40 p P A σ') (e : ∀ a i : Int, kCc a i ∨ (86 ≤ a ∧ a ≤ 109) ∨ 124 ≤ a → σ' a i = σ a i) : jT k p P A W B V C kp z nx n9 f1 f2 tx σ' :=
  jT.mk (t.c.of w.p g (fun a i q => e _ _ (Or.inl q))) (t.r.cl g.pt (fun a i q => e _ _ (Or.inr (Or.inr q)))) (t.l.keep w.wp w.x (fun a i q => e _ _ (Or.inr (q.elim Or.inl (fun q => Or.inr (by omega))))))
theorem jT.rr (t : jT k p P A W B V C kp z nx n9 f1 f2 tx σ) (w : jW k p P A W B V C kp z nx n9) (g : GR 0 P A σ') (e : ∀ a i : Int, a < 124 ∨ kRr a i ∨ a = 167 → σ' a i = σ a i) : jT k p P A W B V C kp z nx n9 f1 f2 tx σ' :=
  jT.mk (t.c.rf w.p g.pt (fun a i q => e _ _ (Or.inl q))) (t.r.of g (fun a i q => e _ _ (Or.inr (Or.inl q)))) (t.l.keep w.wp w.x (fun a i q => e _ _ (q.elim (fun q => Or.inl (by omega)) (fun q => Or.inr (Or.inr q)))))
theorem jT.up2 (t : jT k p P A W B V C kp z nx n9 f1 f2 tx σ) (w : jW k p P A W B V C kp z nx n9) {v : Int} : jT k p P A W B V C kp z nx n9 f1 f2 tx (sx_up σ 124 2 v) :=
  jT.mk (t.c.up2 w.p) t.r.up2 (t.l.keep w.wp w.x (fun a i q => up_n (by omega)))
theorem jT.fin (t : jT k p P A W B V C kp z nx n9 f1 f2 tx σ) (w : jW k p P A W B V C kp z nx n9) : Inv (k + 1) σ := Inv.mk' w.up t.c t.r t.l.next
theorem j_fault (I : Inv k σ) {q : Int} : jI X 126 202 [.inl q] k σ := by
  obtain ⟨p, P, A, W, B, V, C, kp, z, nx, n9, f1, f2, tx, w, t⟩ := I.el
  have t0 := t.up2 w (v := 0)
  exact c_fault t.c.g.pt t.c.x1 t.c.x2 ⟨_, rfl, r_fault rfl t0.r.x1 t0.r.x2 ⟨rfl, t0.fin w⟩⟩
theorem j_named (I : Inv k σ) {q x : Int} : jI X 127 203 [.inl q, .inl x] k σ := by
  obtain ⟨p, P, A, W, B, V, C, kp, z, nx, n9, f1, f2, tx, w, t⟩ := I.el
  have t0 := t.up2 w (v := 0)
  exact c_named w.p t.c.e2 w.wp t.c.g.pt t.c.g.cp ⟨_, rfl, r_named rfl w.wp t0.r.g.pt t0.r.g.rp ⟨rfl, t0.fin w⟩⟩
theorem j_law (I : Inv k σ) {q x : Int} : jJ X 131 239 [.inl q, .inl x] k σ := by
  obtain ⟨p, P, A, W, B, V, C, kp, z, nx, n9, f1, f2, tx, w, t⟩ := I.el
  refine c_law w.p t.c.e2 w.wp w.wm t.c.g t.c.w w.ww.at1 (fun σ1 hf g1 => ⟨_, rfl, ?_⟩)
  have t0 := (t.cr w g1 (fun a i q => hf _ _ (by unfold kCc kDc at q; omega) (by unfold kCc kDc at q; omega) (by unfold kCc kDc at q; omega))).up2 w (v := 0)
  exact r_law rfl w.wp w.wm t0.r.g t0.r.w w.ww.at1 (fun σ2 hf2 g2 => ⟨rfl, (t0.rr w g2 (fun a i q => hf2 _ _ (by unfold kRr kEr at q; omega) (by unfold kRr kEr at q; omega) (by unfold kRr kEr at q; omega))).fin w⟩)
theorem j_score (I : Inv k σ) {f q : Int} : jI X 141 254 [.inl f, .inl q] k σ := by
  obtain ⟨p, P, A, W, B, V, C, kp, z, nx, n9, f1, f2, tx, w, t⟩ := I.el
  refine c_score w.p t.c.e2 w.wp w.wm t.c.g t.c.w (fun σ1 hf g1 => ⟨_, rfl, ?_⟩)
  have t0 := (t.cr w g1 (fun a i q => hf _ _ (by unfold kCc kDc at q; unfold FC; omega))).up2 w (v := 0)
  exact r_score rfl w.wp w.wm t0.r.g t0.r.w (fun σ2 hf2 g2 => ⟨rfl, (t0.rr w g2 (fun a i q => hf2 _ _ (by unfold kRr kEr at q; omega) (by unfold kRr kEr at q; omega) (by unfold kRr kEr at q; omega))).fin w⟩)
theorem j_ahead (I : Inv k σ) (hk : k ≤ 1000) : jI X 142 255 [] k σ := by
  obtain ⟨p, P, A, W, B, V, C, kp, z, nx, n9, f1, f2, tx, w, t⟩ := I.el
  refine c_ahead w.p t.c.e2 w.wp w.wm t.c.g t.c.w w.ww hk (fun σ1 hf g1 => ⟨_, rfl, ?_⟩)
  have t0 := (t.cr w g1 (fun a i q => hf _ _ (by unfold kCc kDc at q; unfold FC; omega))).up2 w (v := 0)
  exact r_ahead rfl w.wp w.wm t0.r.g t0.r.w w.ww hk (fun σ2 hf2 g2 => ⟨rfl, (t0.rr w g2 (fun a i q => hf2 _ _ (by unfold kRr kEr at q; omega) (by unfold kRr kEr at q; omega) (by unfold kRr kEr at q; omega))).fin w⟩)
theorem j_count (I : Inv k σ) {q : Int} : jI X 170 307 [.inl q] k σ := by
  obtain ⟨p, P, A, W, B, V, C, kp, z, nx, n9, f1, f2, tx, w, t⟩ := I.el
  refine c_count w.p t.c.e2 w.wp w.wm t.c.g t.c.w t.c.c t.c.ez (fun σ1 hf g1 => ⟨_, rfl, ?_⟩)
  have t0 := (t.cr w g1 (fun a i q => hf _ _ (by unfold kCc kDc at q; unfold FC; omega))).up2 w (v := 0)
  exact r_count rfl w.wp w.wm t0.r.g t0.r.w w.wc t0.r.c t0.r.ez ⟨rfl, t0.fin w⟩
theorem GC.of' (g : GC 40 p P A σ) (hp : isP p) (hT : PT σ') (e : ∀ a i : Int, 2 ≤ a → a ≤ 53 → σ' a i = σ a i) : GC 40 p P A σ' := by
  refine GC.mk hT ((e _ _ (by decide) (by decide)).trans g.ep) (g.cp.of (fun a i z1 z2 => e _ _ ?_ ?_)) (g.cs.of (fun a i z1 z2 => e _ _ (by omega) (by omega))) (g.sc.of (fun a i z1 z2 => e _ _ (by omega) (by omega)))
  · rcases hp with rfl | rfl <;> omega
  · rcases hp with rfl | rfl <;> omega
theorem PT_fr {F : Int → Int → Prop} (h : fr F σ σ') (hT : PT σ) (hF : ∀ q ∈ ptL, ¬ F q.1 q.2.1) : PT σ' := hT.fr (fun q hq => h _ _ (hF q hq))
theorem j_judged (I : Inv k σ) : jI X 146 261 [] k σ := by
  obtain ⟨p, P, A, W, B, V, C, kp, z, nx, n9, f1, f2, tx, w, t⟩ := I.el
  refine c_judged w.p w.wp w.wm t.c.g w.wc t.c.c (fun σ1 v hf hv => ⟨_, rfl, ?_⟩)
  have hT : PT σ1 := t.c.g.pt.fr (fun q hq => hf _ _ ((show ∀ q ∈ ptL, ¬ q.1 = 116 by decide +kernel) q hq))
  have t0 := (t.cr w (t.c.g.of' w.p hT (fun a i z1 z2 => hf _ _ (by omega))) (fun a i q => hf _ _ (by unfold kCc kDc at q; omega))).up2 w (v := 0)
  refine r_judged rfl w.wp w.wm t0.r.g w.wc t0.r.c (fun σ2 v2 hf2 hv2 => ?_)
  have hT2 : PT σ2 := t0.r.g.pt.fr (fun q hq => hf2 _ _ ((show ∀ q ∈ ptL, ¬ q.1 = 162 by decide +kernel) q hq))
  exact ⟨by rw [pFst_u hv hv2], (t0.rr w (t0.r.g.of hT2 (fun a i z1 z2 => hf2 _ _ (by omega)) (fun i z => hf2 _ _ (by decide))) (fun a i q => hf2 _ _ (by unfold kRr kEr at q; omega))).fin w⟩
theorem j_sees (I : Inv k σ) {q : Int} : jJ X 158 287 [.inl q] k σ := by
  obtain ⟨p, P, A, W, B, V, C, kp, z, nx, n9, f1, f2, tx, w, t⟩ := I.el
  have t0 := t.up2 w (v := 0)
  exact c_sees w.p t.c.e2 w.wp t.c.g.pt t.c.g.cp (fun h => ⟨_, rfl, r_sees rfl w.wp t0.r.g.pt t0.r.g.rp (fun _ => ⟨rfl, t0.fin w⟩) (fun h2 => absurd h2 h)⟩) (fun h => ⟨_, rfl, r_sees rfl w.wp t0.r.g.pt t0.r.g.rp (fun h2 => absurd h h2) (fun _ => ⟨rfl, t0.fin w⟩)⟩)
end SXU3
