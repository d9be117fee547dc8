/-! ONE CALL ON BOTH: umpires, ways, what lies below, chance, tried otherwise -/
section SXU4
variable {X : sx_X} {Q : sx_R} {σ σ0 σ' σ1 σ2 : sx_S}
variable {k p : Int} {P : aP} {A A' : aM} {W W' : aW} {B : aM} {V : aW} {C : aC} {kp z z' nx nx' n9 f1 f2 : Int} {tx : Int → Int}
theorem GR.ofU (g : GR 0 P A σ) (hT : PT σ') (e : ∀ a i : Int, (127 ≤ a ∧ a ≤ 156) ∨ (a = 124 ∧ ((12 ≤ i ∧ i ≤ 17) ∨ i = 56 ∨ i = 73)) → σ' a i = σ a i) : GR 0 P A σ' := g.of hT (fun a i z1 z2 => e _ _ (Or.inl ⟨z1, z2⟩)) (fun i z => e _ _ (Or.inr ⟨rfl, z⟩))
theorem pSg_pt9 (h : pSg σ σ') (hT : PT σ) : PT σ' := hT.fr (fun q hq => h _ _ ((show ∀ q ∈ ptL, ¬ q.1 = 122 by decide +kernel) q hq) ((show ∀ q ∈ ptL, ¬ q.1 = 123 by decide +kernel) q hq))
theorem FUm_pt (h : fr FUm σ σ') (hT : PT σ) : PT σ' := PT_fr h hT (by unfold FUm; decide +kernel)
theorem jT.sg (t : jT k p P A W B V C kp z nx n9 f1 f2 tx σ) (w : jW k p P A W B V C kp z nx n9) (h : pSg σ σ') : jT k p P A W B V C kp z nx n9 f1 f2 tx σ' :=
  t.cr w (t.c.g.of' w.p (pSg_pt9 h t.c.g.pt) (fun a i z1 z2 => h _ _ (by omega) (by omega))) (fun a i q => h _ _ (by unfold kCc kDc at q; omega) (by unfold kCc kDc at q; omega))
theorem jT.um (t : jT k p P A W B V C kp z nx n9 f1 f2 tx σ) (w : jW k p P A W B V C kp z nx n9) (h : fr FUm σ σ') : jT k p P A W B V C kp z nx n9 f1 f2 tx σ' :=
  t.rr w (t.r.g.ofU (FUm_pt h t.r.g.pt) (fun a i q => h _ _ (by unfold FUm; omega))) (fun a i q => h _ _ (by unfold kRr kEr at q; unfold FUm; omega))
theorem j_umpires (I : Inv k σ) {g9 : Int} (hg : -9223372036854775808 ≤ g9 ∧ g9 ≤ 9223372036854775807) : jI X 159 291 [.inr (.inl g9)] k σ := by
  obtain ⟨p, P, A, W, B, V, C, kp, z, nx, n9, f1, f2, tx, w, t⟩ := I.el
  refine c_umpires w.p t.c.e2 w.wp t.c.g.pt t.c.g.cp hg (fun h => ⟨_, rfl, ?_⟩) (fun h σ1 m hf hu => ⟨_, rfl, ?_⟩)
  · have t0 := t.up2 w (v := 0)
    exact r_umpires rfl w.wp t0.r.g.pt t0.r.g.rp hg (fun _ => ⟨rfl, t0.fin w⟩) (fun h2 => absurd h2 h)
  · have t0 := (t.sg w hf).up2 w (v := 0)
    exact r_umpires rfl w.wp t0.r.g.pt t0.r.g.rp hg (fun h2 => absurd h h2) (fun _ σ2 m2 u hf2 hu2 => ⟨by rw [(pUm_u hu hu2).1], (t0.um w hf2).fin w⟩)
theorem j_umpire (I : Inv k σ) {g9 q : Int} (hg : -9223372036854775808 ≤ g9 ∧ g9 ≤ 9223372036854775807) : jI X 160 292 [.inr (.inl g9), .inl q] k σ := by
  obtain ⟨p, P, A, W, B, V, C, kp, z, nx, n9, f1, f2, tx, w, t⟩ := I.el
  refine c_umpire w.p t.c.e2 w.wp t.c.g.pt t.c.g.cp hg (fun h => ⟨_, rfl, ?_⟩) (fun h h0 σ1 m hf hu => ⟨_, rfl, ?_⟩)
  · have t0 := t.up2 w (v := 0)
    exact r_umpire rfl w.wp t0.r.g.pt t0.r.g.rp hg (fun _ => ⟨rfl, t0.fin w⟩) (fun h2 h3 => absurd ⟨h2, h3⟩ h)
  · have t0 := (t.sg w hf).up2 w (v := 0)
    refine r_umpire rfl w.wp t0.r.g.pt t0.r.g.rp hg (fun h2 => absurd ⟨h, h0⟩ h2) (fun _ _ σ2 m2 u hf2 hu2 => ⟨?_, (t0.um w hf2).fin w⟩)
    obtain ⟨e1, e2⟩ := pUm_u hu hu2
    rw [← e1]
    by_cases hq : q < m
    · rw [if_pos hq, if_pos hq, e2 q h0 hq]
    · rw [if_neg hq, if_neg hq]
theorem j_chance (I : Inv k σ) (hk : k ≤ 1000) {sd x f bd : Int} (hsd : sd ≤ 2147483647) : jI X 164 298 [.inl sd, .inl x, .inl f, .inl bd] k σ := by
  obtain ⟨p, P, A, W, B, V, C, kp, z, nx, n9, f1, f2, tx, w, t⟩ := I.el
  refine c_chance w.p t.c.e2 w.wp w.wm (by omega) t.c.g t.c.w hsd (fun h => ⟨_, rfl, ?_⟩) (fun h σ1 hf g1 w1 => ⟨_, rfl, ?_⟩)
  · have t0 := t.up2 w (v := 0)
    exact r_chance rfl w.wp w.wm (by omega) t0.r.g hsd (fun _ => ⟨rfl, t0.fin w⟩) (fun h2 => absurd h2 h)
  · have t0 := (t.cr w g1 (fun a i q => hf _ _ (by unfold kCc kDc at q; unfold FZ; omega))).up2 w (v := 0)
    exact r_chance rfl w.wp w.wm (by omega) t0.r.g hsd (fun h2 => absurd h h2) (fun _ σ2 hf2 g2 => ⟨rfl, (t0.rr w g2 (fun a i q => hf2 _ _ (by unfold kRr kEr at q; unfold FZR; omega))).fin w⟩)
theorem GC.tz (hp : isP p) (g : GC 40 p P A σ) (g1 : GC 70 p P A' σ') (hf : fr FZ σ σ') : GC 40 p P A σ' :=
  GC.mk g1.pt ((hf _ _ (by decide)).trans g.ep) g1.cp (g.cs.of (fun a i z1 z2 => hf _ _ (by unfold FZ; omega))) g1.sc
theorem GR.tz (g : GR 0 P A σ) (wm : wM P A k) (g1 : GR 1 P A' σ') (hf : fr FZR σ σ') : GR 0 P A σ' := by
  have hn := wm.n
  have r := g.rs
  refine GR.mk g1.pt g1.rp (rS.mk ((hf _ _ (by decide)).trans r.n) ((hf _ _ (by decide)).trans r.hr) ((hf _ _ (by decide)).trans r.sn) ((hf _ _ (by decide)).trans r.la) ?_ ?_ ?_ ?_ ?_ ?_ ?_ ?_) g1.sc
  · exact fun m h0 h1 => by rw [hf _ _ (by unfold FZR; omega)]; exact r.lk m h0 h1
  · exact fun m h0 h1 => by rw [hf _ _ (by unfold FZR; omega)]; exact r.ce m h0 h1
  · exact fun m h0 h1 => by rw [hf _ _ (by unfold FZR; omega)]; exact r.wy m h0 h1
  · exact fun m h0 h1 => by rw [hf _ _ (by unfold FZR; omega)]; exact r.bo m h0 h1
  · exact fun m h0 h1 => by rw [hf _ _ (by unfold FZR; omega)]; exact r.dp m h0 h1
  · exact fun m h0 h1 => by rw [hf _ _ (by unfold FZR; omega)]; exact r.cv m h0 h1
  · exact fun m h0 h1 => by rw [hf _ _ (by unfold FZR; omega)]; exact r.ow m h0 h1
  · exact fun m h0 h1 => by rw [hf _ _ (by unfold FZR; omega)]; exact r.bl m h0 h1
theorem j_below (I : Inv k σ) (hk : k ≤ 1000) {x : Int} : jI X 161 294 [.inl x] k σ := by
  obtain ⟨p, P, A, W, B, V, C, kp, z, nx, n9, f1, f2, tx, w, t⟩ := I.el
  refine c_below w.p w.wp w.wm (by omega) t.c.g t.c.w (fun h => ⟨_, rfl, ?_⟩) (fun h h' σ1 hf g1 => ⟨_, rfl, ?_⟩)
  · have t0 := t.up2 w (v := 0)
    exact r_below rfl w.wp w.wm (by omega) t0.r.g (fun _ => ⟨rfl, t0.fin w⟩) (fun h2 h3 => absurd ⟨h2, h3⟩ h)
  · have t0 := (t.cr w (t.c.g.tz w.p g1 hf) (fun a i q => hf _ _ (by unfold kCc kDc at q; unfold FZ; omega))).up2 w (v := 0)
    exact r_below rfl w.wp w.wm (by omega) t0.r.g (fun h2 => absurd ⟨h, h'⟩ h2) (fun _ _ σ2 hf2 g2 => ⟨rfl, (t0.rr w (t0.r.g.tz w.wm g2 hf2) (fun a i q => hf2 _ _ (by unfold kRr kEr at q; unfold FZR; omega))).fin w⟩)
theorem j_tried (I : Inv k σ) (hk : k ≤ 1000) {f q i : Int} : jI X 165 299 [.inl f, .inl q, .inl i] k σ := by
  obtain ⟨p, P, A, W, B, V, C, kp, z, nx, n9, f1, f2, tx, w, t⟩ := I.el
  have hk0 := w.k
  refine c_tried w.p t.c.e2 w.wp w.wm (by omega) (by omega) t.c.g t.c.w (fun h => ⟨_, rfl, ?_⟩) (fun h σ1 hf g1 v ev => ⟨_, rfl, ?_⟩)
  · have t0 := t.up2 w (v := 0)
    exact r_tried rfl w.wp w.wm (by omega) (by omega) t0.r.g (fun _ => ⟨rfl, t0.fin w⟩) (fun h2 => absurd h2 h)
  · have t0 := (t.cr w (t.c.g.tz w.p g1 hf) (fun a i q => hf _ _ (by unfold kCc kDc at q; unfold FZ; omega))).up2 w (v := 0)
    exact r_tried rfl w.wp w.wm (by omega) (by omega) t0.r.g (fun h2 => absurd h h2) (fun _ σ2 hf2 g2 => ⟨by rw [ev], (t0.rr w (t0.r.g.tz w.wm g2 hf2) (fun a i q => hf2 _ _ (by unfold kRr kEr at q; unfold FZR; omega))).fin w⟩)
theorem fTl_12 (n : Int) : fTl P A n = 1 ∨ fTl P A n = 101 := by unfold fTl; split <;> simp
theorem pMn_E (wp : wP P) (to : Int) : ∃ G : Int → Int, 0 ≤ to ∧ to < P.w * P.h → pMn P (P.w * P.h) to (fTl P A) G := by
  by_cases h : 0 ≤ to ∧ to < P.w * P.h
  · obtain ⟨G, hG⟩ := pMn_ex wp (tl := fTl P A) fTl_12 h
    exact ⟨G, fun _ => hG⟩
  · exact ⟨fun _ => 0, fun h2 => absurd h2 h⟩
theorem j_quiet (I : Inv k σ) {a to q : Int} : jI X 151 272 [.inl a, .inl to, .inl q] k σ := by
  obtain ⟨p, P, A, W, B, V, C, kp, z, nx, n9, f1, f2, tx, w, t⟩ := I.el
  obtain ⟨G, hG⟩ := pMn_E (A := A) w.wp to
  refine c_quiet w.p t.c.e2 w.wp w.wm t.c.g hG (fun h => ⟨_, rfl, ?_⟩) (fun h σ1 hf g1 => ⟨_, rfl, ?_⟩)
  · have t0 := t.up2 w (v := 0)
    exact r_quiet rfl w.wp w.wm t0.r.g hG (fun _ => ⟨rfl, t0.fin w⟩) (fun _ => ⟨rfl, t0.fin w⟩) (fun h2 => absurd h2 h)
  · have t0 := (t.cr w g1 (fun a i q => hf _ _ (by unfold kCc kDc at q; unfold FRo; omega))).up2 w (v := 0)
    exact r_quiet rfl w.wp w.wm t0.r.g hG (fun h2 => absurd h h2) (fun h2 => ⟨by rw [show aQui G a q = -1 by unfold aQui; rw [if_neg (by omega), if_neg (by omega)]], t0.fin w⟩) (fun _ σ2 hf2 g2 => ⟨rfl, (t0.rr w g2 (fun a i q => hf2 _ _ (by unfold kRr kEr at q; unfold FQ; omega))).fin w⟩)
theorem j_hushed (I : Inv k σ) {a to q : Int} : jI X 152 274 [.inl a, .inl to, .inl q] k σ := by
  obtain ⟨p, P, A, W, B, V, C, kp, z, nx, n9, f1, f2, tx, w, t⟩ := I.el
  obtain ⟨G, hG⟩ := pMn_E (A := A) w.wp to
  refine c_hushed w.p t.c.e2 w.wp w.wm t.c.g hG (fun h => ⟨_, rfl, ?_⟩) (fun h σ1 hf g1 => ⟨_, rfl, ?_⟩)
  · have t0 := t.up2 w (v := 0)
    exact r_hushed rfl w.wp w.wm t0.r.g hG (fun _ => ⟨rfl, t0.fin w⟩) (fun h2 => absurd h2 h)
  · have t0 := (t.cr w g1 (fun a i q => hf _ _ (by unfold kCc kDc at q; unfold FRo; omega))).up2 w (v := 0)
    exact r_hushed rfl w.wp w.wm t0.r.g hG (fun h2 => absurd h h2) (fun _ σ2 hf2 g2 => ⟨rfl, (t0.rr w g2 (fun a i q => hf2 _ _ (by unfold kRr kEr at q; unfold FQ; omega))).fin w⟩)
end SXU4
