/-! ONE CALL ON BOTH: steps, boots, foxes: what can be undone -/
section SXV2
variable {X : sx_X} {Q : sx_R} {σ σ0 σ' σ1 σ2 σm : sx_S}
variable {k p K : Int} {P : aP} {A A' : aM} {W W' : aW} {B : aM} {V : aW} {C : aC} {U U' : aU} {kp z z' nx nx' n9 f1 f2 : Int} {tx : Int → Int}
theorem LG_rem (wp : wP P) (hz : 0 ≤ z ∧ z ≤ 20) (hx : 0 ≤ nx ∧ nx < 20) (l : LG P σ K 0 z.toNat nx U) (h86 : ∀ a i : Int, 86 ≤ a → a ≤ 88 → ¬ i = nx → σ' a i = σ a i) (h90 : ∀ a i : Int, 90 ≤ a → a ≤ 109 → ¬ a = 90 + nx → σ' a i = σ a i) (s1 : z < 20 → ∀ y : Int, 0 ≤ y → y < 106 * z → σ' 167 y = σ 167 y) (s2 : z = 20 → ∀ y : Int, 106 ≤ y → y < 2120 → σ' 167 (y - 106) = σ 167 y) (hk : pOk P σ' nx) (e : eU P U (fBk σ' nx U')) (hr : rU P σ' (fRr z) U) (hu : wU P U K) : LG P σ' K 0 (fM20 (z + 1)).toNat (fNx nx) U' := by
  by_cases h : z < 20
  · have e1 : fM20 (z + 1) = z + 1 := by unfold fM20; split <;> omega
    have e2 : fRr z = z := by unfold fRr; rw [if_pos h]
    rw [e2] at hr
    rw [e1, show (z + 1).toNat = z.toNat + 1 by omega]
    have l1 := LG_fr (d := 0) (base := 0) wp.wa.2 hx h86 h90 z.toNat nx U hx (by rw [fDs_self]; omega) (fun y y0 y1 => by rw [show y - 106 * 0 = y by omega]; exact s1 h y (by omega) (by omega)) l
    exact LG_push hx hk e (by rw [show (0 : Int) + (z.toNat : Int) = z by omega]; exact hr) hu l1
  · have hz20 : z = 20 := by omega
    subst hz20
    have l1 := LG_drop 19 nx U l
    have l2 := LG_fr (d := 1) (base := 0 + 1) wp.wa.2 hx h86 h90 19 nx U hx (by rw [fDs_self]; omega) (fun y y0 y1 => by rw [show y - 106 * 1 = y - 106 by omega]; exact s2 rfl y (by omega) (by omega)) l1
    have hr2 : rU P σ' (0 + 1 - 1 + ((19 : Nat) : Int)) U := hr
    exact LG_push hx hk e hr2 hu l2
theorem wU_of (wm : wM P A K) (ww : wW P W k) : wU P (uOf A W) k := ⟨fun w h0 h1 => ⟨ww.at1 w h0 h1, ww.st w h0 h1, ww.bt w h0 h1⟩, wm.n, fun m h0 h1 => wm.bl m h0 h1⟩
theorem rU_of (wp : wP P) (g : GR 0 P A σ0) (gw : rW P σ0 W) (h : pRm z A.n σ0 σm) (e : ∀ y : Int, σ2 167 y = σm 167 y) : rU P σ2 (fRr z) (uOf A W) := by
  obtain ⟨-, -, h1, h2, h3, -, -⟩ := h
  have hw := wp.wa
  refine ⟨fun w y0 y1 => ?_, ?_, fun m y0 y1 => ?_⟩
  · obtain ⟨u1, u2, u3⟩ := h1 w y0 (by omega)
    rw [e, e, e, u1, u2, u3]
    exact ⟨gw.at1 w y0 y1, gw.st w y0 y1, gw.bt w y0 y1⟩
  · rw [e, h2]; exact g.rs.n
  · have u := g.rs.bl m y0 y1
    rw [show 90 * 0 + m = m by omega] at u
    rw [e, h3 m y0 y1]
    exact u
/-- the log's new row, and the reference's new snapshot -/
theorem LG_log (wp : wP P) (wm : wM P A K) (ww : wW P W k) (hz : 0 ≤ z ∧ z ≤ 20) (hx : 0 ≤ nx ∧ nx < 20) (l : LG P σ k 0 z.toNat nx (uOf A W)) (g : GR 0 P A σ0) (gw : rW P σ0 W) (hr : pRm z A.n σ0 σm) (e2 : ∀ y : Int, σ2 167 y = σm 167 y) (e0 : ∀ y : Int, σ0 167 y = σ 167 y) (h86 : ∀ a i : Int, 86 ≤ a → a ≤ 88 → ¬ i = nx → σ2 a i = σ a i) (h90 : ∀ a i : Int, 90 ≤ a → a ≤ 109 → ¬ a = 90 + nx → σ2 a i = σ a i) (hk : pOk P σ2 nx) (e : eU P (uOf A W) (fBk σ2 nx U')) : LG P σ2 k 0 (fM20 (z + 1)).toNat (fNx nx) U' := by
  refine LG_rem wp hz hx l h86 h90 (fun h y y0 y1 => ?_) (fun h y y0 y1 => ?_) hk e (rU_of wp g gw hr e2) (wU_of wm ww)
  · rw [e2, hr.2.2.2.2.2.1 h y y0 y1, e0]
  · rw [e2, hr.2.2.2.2.2.2 h y y0 y1, e0]
theorem fM20_bd (hz : 0 ≤ z ∧ z ≤ 20) : 0 ≤ fM20 (z + 1) ∧ fM20 (z + 1) ≤ 20 := by unfold fM20; split <;> omega
/-- both halves of a call that is logged -/
theorem jT.log (t : jT k p P A W B V C kp z nx n9 f1 f2 tx σ) (w : jW k p P A W B V C kp z nx n9) (wm : wM P A' (99 * (k + 1))) (ww : wW P W' (k + 1)) (g1 : GC 40 p P A' σ1) (w1 : cW P 40 σ1 W') (ez : σ1 85 0 = fM20 (z + 1)) (ex : σ1 85 1 = fNx nx) (e : ∀ a i : Int, kDc a i ∨ 124 ≤ a → σ1 a i = σ a i) (h86 : ∀ a i : Int, 86 ≤ a → a ≤ 88 → ¬ i = nx → σ1 a i = σ a i) (h90 : ∀ a i : Int, 90 ≤ a → a ≤ 109 → ¬ a = 90 + nx → σ1 a i = σ a i) (hr : pRm z A.n (sx_up σ1 124 2 0) σm) (g2 : GR 0 P A' σ2) (w2 : rW P σ2 W') (e2 : ∀ a i : Int, a < 124 ∨ kEr a i ∨ a = 167 ∨ (a = 124 ∧ i = 83) → σ2 a i = σm a i) (hk : pOk P σ1 nx) (eu : eU P (uOf A W) (fBk σ1 nx (uOf A' W'))) : Inv (k + 1) σ2 := by
  have t0 := t.cm w g1 w1 ez ex e
  have hm : ∀ a i : Int, ¬ FM a i → σm a i = sx_up σ1 124 2 0 a i := hr.1
  have e3 : ∀ a i : Int, a < 124 ∨ kEr a i → σ2 a i = sx_up σ1 124 2 0 a i := fun a i q => (e2 _ _ (by rcases q with q | q; exact Or.inl q; exact Or.inr (Or.inl q))).trans (hm _ _ (by unfold kEr at q; unfold FM; omega))
  have e4 : ∀ a i : Int, a < 124 → σ2 a i = σ1 a i := fun a i q => (e3 _ _ (Or.inl q)).trans (up_a (by omega))
  have hx := w.x
  have f90 : σ2 (90 + nx) = σ1 (90 + nx) := funext (fun i => e4 _ i (by omega))
  have l2 := LG_log (U' := uOf A' W') (σ2 := σ2) w.wp w.wm w.ww w.z w.x t.l t0.r.g t0.r.w hr (fun y => e2 _ _ (by omega)) (fun y => (up_a (by decide)).trans (e _ _ (Or.inr (by decide)))) (fun a i q1 q2 q3 => (e4 _ _ (by omega)).trans (h86 a i q1 q2 q3)) (fun a i q1 q2 q3 => (e4 _ _ (by omega)).trans (h90 a i q1 q2 q3)) (pOk_cg (e4 _ _ (by decide)) (e4 _ _ (by decide)) (e4 _ _ (by decide)) f90 hk) (by rw [fBk_cg (e4 _ _ (by decide)) (e4 _ _ (by decide)) (e4 _ _ (by decide)) f90]; exact eu)
  exact Inv.mk' (w.to wm ww (fM20_bd w.z) (fNx_bd w.x)) (t0.c.rf w.p g2.pt (fun a i q => e3 _ _ (Or.inl q))) (t0.r.ofW g2 w2 ((e2 _ _ (by omega)).trans hr.2.1) (fun a i q => e3 _ _ (Or.inr q))) (LG_K (by omega) _ _ _ l2)
theorem fBes_in (wp : wP P) {c y : Int} (h : ¬ fBes P.w P.h c y = -1) : 0 ≤ fBes P.w P.h c y ∧ fBes P.w P.h c y < P.w * P.h := by
  obtain ⟨h1, h2, h3⟩ := fBes_bd P.w P.h c y
  rw [if_pos (by omega)] at h3
  omega
theorem j_step (I : Inv k σ) (hk : k ≤ 1000) {w9 y : Int} : jI X 132 240 [.inl w9, .inl y] k σ := by
  obtain ⟨p, P, A, W, B, V, C, kp, z, nx, n9, f1, f2, tx, w, t⟩ := I.el
  have hk0 := w.k
  refine c_step w.p t.c.e2 w.wp w.wm w.ww hk t.c.g t.c.w t.c.ez t.c.ex w.z w.x (fun h => ⟨_, rfl, ?_⟩) (fun h h' => ⟨_, rfl, ?_⟩) (fun h h' σ1 hf g1 w1 n1 n2 n3 n4 n5 => ⟨_, rfl, ?_⟩)
  · have t0 := t.up2 w (v := 0)
    exact r_step rfl w.wp w.wm w.ww hk t0.r.g t0.r.w t0.r.ez w.z (fun _ => ⟨rfl, t0.fin w⟩) (fun h2 => absurd h2 h) (fun h2 => absurd h2 h)
  · have t0 := t.up2 w (v := 0)
    exact r_step rfl w.wp w.wm w.ww hk t0.r.g t0.r.w t0.r.ez w.z (fun h2 => absurd h h2) (fun _ _ => ⟨rfl, t0.fin w⟩) (fun _ h2 => absurd h2 h')
  · have t0 := t.cm w g1 w1 n4 n5 (fun a i q => hf _ _ (by unfold kDc at q; unfold FNL; omega))
    refine r_step rfl w.wp w.wm w.ww hk t0.r.g t0.r.w t0.r.ez w.z (fun h2 => absurd h h2) (fun _ h2 => absurd h' h2) (fun _ _ σm σ2 hr hf2 g2 w2 => ⟨rfl, ?_⟩)
    have hb := fBes_in w.wp h'.1
    have hn := w.wm.n
    have hx := w.x
    obtain ⟨e9, he9⟩ : ∃ e9, e9 = fBes P.w P.h (W.at1 w9) y := ⟨_, rfl⟩
    unfold pStp at h'
    rw [← he9] at g1 w1 n1 g2 w2 hb h'
    refine t.log w ?_ (w.ww.step hk0 ⟨h.1, h.2.1⟩ hb) g1 w1 n4 n5 (fun a i q => hf _ _ (by unfold kDc at q; unfold FNL; omega)) (fun a i q1 q2 q3 => hf _ _ (by unfold FNL; omega)) (fun a i q1 q2 q3 => hf _ _ (by unfold FNL; omega)) hr g2 w2 (fun a i q => hf2 _ _ (by unfold kEr at q; unfold FS; omega)) ?_ ?_
    · unfold sA0
      by_cases q : pLv P W w9 e9
      · rw [if_pos q]
        exact (w.wm.step w.wp w.ww (by omega) (by omega) ⟨h.1, h.2.1⟩ hb ⟨h.2.2.1, h.2.2.2⟩).up (by omega)
      · rw [if_neg q]
        exact w.wm.up (by omega)
    · refine ⟨?_, fun _ => ?_, fun q => ?_⟩
      · rw [n1]; split <;> omega
      · rw [n2]; exact ⟨h.1, h.2.1⟩
      · rw [n1] at q
        split at q <;> omega
    · have h86 : ¬ σ1 86 nx = 2 ∧ ¬ σ1 86 nx = 3 := by rw [n1]; split <;> omega
      unfold fBk
      rw [if_neg h86.1, if_neg h86.2, n1, n2, n3]
      refine ⟨fun v y0 y1 => ⟨?_, ?_, rfl⟩, ?_, fun m y0 y1 => ?_⟩
      · show (if v = w9 then W.at1 w9 else fU W.at1 w9 e9 v) = W.at1 v
        by_cases q : v = w9
        · rw [if_pos q, q]
        · rw [if_neg q, fU_n q]
      · show (if v = w9 then fU W.st w9 (W.st w9 + 1) v - 1 else fU W.st w9 (W.st w9 + 1) v) = W.st v
        by_cases q : v = w9
        · rw [if_pos q, q, fU_s]; omega
        · rw [if_neg q, fU_n q]
      · show (sA0 P A W w9 e9 y).n - (if pLv P W w9 e9 then 1 else 0) = A.n
        unfold sA0
        by_cases q : pLv P W w9 e9
        · rw [if_pos q, if_pos q]; show A.n + 1 - 1 = A.n; omega
        · rw [if_neg q, if_neg q]; omega
      · have y2 : m < A.n := y1
        show (sA0 P A W w9 e9 y).bl m = A.bl m
        unfold sA0
        by_cases q : pLv P W w9 e9
        · rw [if_pos q]; show fU A.bl A.n 0 m = A.bl m; rw [fU_n (by omega)]
        · rw [if_neg q]
theorem j_boots (I : Inv k σ) {w9 v9 : Int} : jI X 133 241 [.inl w9, .inl v9] k σ := by
  obtain ⟨p, P, A, W, B, V, C, kp, z, nx, n9, f1, f2, tx, w, t⟩ := I.el
  refine c_boots w.p t.c.e2 w.wp t.c.g t.c.w t.c.ez t.c.ex w.z w.x (fun h => ⟨_, rfl, ?_⟩) (fun h σ1 hf g1 w1 n1 n2 n3 n4 n5 => ⟨_, rfl, ?_⟩)
  · have t0 := t.up2 w (v := 0)
    exact r_boots rfl w.wp w.wm t0.r.g t0.r.w t0.r.ez w.z (fun _ => ⟨rfl, t0.fin w⟩) (fun h2 => absurd h2 h)
  · have t0 := t.cm w g1 w1 n4 n5 (fun a i q => hf _ _ (by unfold kDc at q; unfold FNL; omega))
    refine r_boots rfl w.wp w.wm t0.r.g t0.r.w t0.r.ez w.z (fun h2 => absurd h h2) (fun _ σm σ2 hr hf2 g2 w2 => ⟨rfl, ?_⟩)
    have hx := w.x
    refine t.log w (w.wm.up (by omega)) ((w.ww.boots ⟨h.2.2.1, h.2.2.2.1⟩).up (by omega)) g1 w1 n4 n5 (fun a i q => hf _ _ (by unfold kDc at q; unfold FNL; omega)) (fun a i q1 q2 q3 => hf _ _ (by unfold FNL; omega)) (fun a i q1 q2 q3 => hf _ _ (by unfold FNL; omega)) hr g2 w2 (fun a i q => hf2 _ _ (by unfold kEr at q; unfold FS; omega)) ?_ ?_
    · refine ⟨?_, fun _ => ?_, fun q => ?_⟩
      · rw [n1]; omega
      · rw [n2]; exact ⟨h.1, h.2.1⟩
      · rw [n1] at q
        omega
    · unfold fBk
      rw [if_pos n1, n2, n3]
      refine ⟨fun v y0 y1 => ⟨rfl, rfl, ?_⟩, rfl, fun m y0 y1 => rfl⟩
      show (if v = w9 then W.bt w9 else fU W.bt w9 v9 v) = W.bt v
      by_cases q : v = w9
      · rw [if_pos q, q]
      · rw [if_neg q, fU_n q]
theorem j_fox (I : Inv k σ) {e y x : Int} : jI X 134 242 [.inl e, .inl y, .inl x] k σ := by
  obtain ⟨p, P, A, W, B, V, C, kp, z, nx, n9, f1, f2, tx, w, t⟩ := I.el
  have hx := w.x
  refine c_fox9 w.p t.c.e2 w.wp w.wm t.c.g t.c.ez t.c.ex w.z w.x (fun h => ⟨_, rfl, ?_⟩) (fun h h' σ1 hf g1 e1 e2 e86 e90 => ⟨_, rfl, ?_⟩) (fun h h' σ1 hf g1 n1 n3 nf nr n4 n5 => ⟨_, rfl, ?_⟩)
  · have t0 := t.up2 w (v := 0)
    exact r_fox rfl w.wp w.wm t0.r.g t0.r.ez w.z (fun _ => ⟨rfl, t0.fin w⟩) (fun h2 => absurd h2 h) (fun h2 => absurd h2 h)
  · have ha : ∀ a i : Int, kCc a i ∨ (86 ≤ a ∧ a ≤ 109) ∨ 124 ≤ a → σ1 a i = σ a i := fun a i q => by
      by_cases q1 : a = 85 ∧ i = 0
      · rw [q1.1, q1.2]; exact e1
      · by_cases q2 : a = 85 ∧ i = 1
        · rw [q2.1, q2.2]; exact e2
        · by_cases q3 : 86 ≤ a ∧ a ≤ 88
          · exact e86 a i q3
          · by_cases q4 : a = 90 + nx
            · rw [q4]; exact e90 i
            · exact hf _ _ (by unfold kCc kDc at q; unfold FFL; omega)
    have t0 := (t.cr w g1 ha).up2 w (v := 0)
    exact r_fox rfl w.wp w.wm t0.r.g t0.r.ez w.z (fun h2 => absurd h h2) (fun _ _ => ⟨rfl, t0.fin w⟩) (fun _ h2 => absurd h2 (by omega))
  · have w1 : cW P 40 σ1 W := t.c.w.of (fun a i q => hf _ _ (by unfold FFL; omega))
    have t0 := t.cm w g1 w1 n4 n5 (fun a i q => hf _ _ (by unfold kDc at q; unfold FFL; omega))
    refine r_fox rfl w.wp w.wm t0.r.g t0.r.ez w.z (fun h2 => absurd h h2) (fun _ h2 => absurd h2 (by omega)) (fun _ _ σm σ2 hr hf2 g2 => ⟨rfl, ?_⟩)
    have hm : ∀ a i : Int, ¬ FM a i → σm a i = sx_up σ1 124 2 0 a i := hr.1
    have w2 : rW P σ2 W := t0.r.w.of (fun a i q => (hf2 _ _ (by omega)).trans (hm _ _ (by unfold FM; omega)))
    have hbb := fBlr_bd (P := P) (A := A) (y := y) (e := e) x.toNat
    have hn := w.wm.n
    refine t.log w ((w.wm.wb x.toNat).up (by omega)) (w.ww.up (by omega)) g1 w1 n4 n5 (fun a i q => hf _ _ (by unfold kDc at q; unfold FFL; omega)) (fun a i q1 q2 q3 => hf _ _ (by unfold FFL; omega)) (fun a i q1 q2 q3 => hf _ _ (by unfold FFL; omega)) hr g2 w2 (fun a i q => hf2 _ _ (by unfold kEr at q; omega)) ?_ ?_
    · refine ⟨?_, fun q => ?_, fun q => ?_⟩
      · rw [n1]; omega
      · rw [n1] at q; omega
      · rw [n3]
        exact ⟨by omega, fun i y0 y1 => by have := nr i y0 y1; omega⟩
    · unfold fBk
      rw [if_neg (by rw [n1]; omega), if_pos n1, n3]
      exact ⟨fun v y0 y1 => ⟨rfl, rfl, rfl⟩, rfl, fun m y0 y1 => nf m⟩
end SXV2
