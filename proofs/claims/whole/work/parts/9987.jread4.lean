/-! ONE CALL ON BOTH: trails, layers, forgeries, the forecast -/
section SXU6
variable {X : sx_X} {Q : sx_R} {σ σ0 σ' σ1 σ2 : sx_S}
variable {k p : Int} {P : aP} {A A' : aM} {W W' : aW} {B : aM} {V : aW} {C : aC} {kp z z' nx nx' n9 f1 f2 : Int} {tx : Int → Int}
theorem jT.lkC (t : jT k p P A W B V C kp z nx n9 f1 f2 tx σ) (w : jW k p P A W B V C kp z nx n9) : ∀ i : Int, 0 ≤ i → i < σ (40 + 4) 0 → 0 ≤ σ (40 + 5) i ∧ σ (40 + 5) i < 5 := by
  intro i y0 y1
  rw [t.c.g.cs.n] at y1
  rw [t.c.g.cs.lk i y0 y1]
  have h1 := w.wm.lk i y0 y1
  have h2 := w.wp.wa
  omega
theorem jT.ceC (t : jT k p P A W B V C kp z nx n9 f1 f2 tx σ) (w : jW k p P A W B V C kp z nx n9) : ∀ i : Int, 0 ≤ i → i < σ (40 + 4) 0 → 0 ≤ σ (40 + 6) i ∧ σ (40 + 6) i < 48 := by
  intro i y0 y1
  rw [t.c.g.cs.n] at y1
  rw [t.c.g.cs.ce i y0 y1]
  have h1 := w.wm.ce i y0 y1
  have h2 := w.wp.wh
  omega
theorem jT.lkR (t : jT k p P A W B V C kp z nx n9 f1 f2 tx σ) (w : jW k p P A W B V C kp z nx n9) : ∀ i : Int, 0 ≤ i → i < σ 154 0 → 0 ≤ σ 146 i ∧ σ 146 i < 5 := by
  intro i y0 y1
  rw [t.r.g.rs.n] at y1
  rw [← (t.rows i y0 y1).1]
  exact t.lkC w i y0 (by rw [t.c.g.cs.n]; exact y1)
theorem jT.ceR (t : jT k p P A W B V C kp z nx n9 f1 f2 tx σ) (w : jW k p P A W B V C kp z nx n9) : ∀ i : Int, 0 ≤ i → i < σ 154 0 → 0 ≤ σ 147 i ∧ σ 147 i < 48 := by
  intro i y0 y1
  rw [t.r.g.rs.n] at y1
  rw [← (t.rows i y0 y1).2.1]
  exact t.ceC w i y0 (by rw [t.c.g.cs.n]; exact y1)
theorem jT.cvR (t : jT k p P A W B V C kp z nx n9 f1 f2 tx σ) (w : jW k p P A W B V C kp z nx n9) : ∀ i : Int, 0 ≤ i → i < σ 154 0 → 0 ≤ σ 151 i := by
  intro i y0 y1
  rw [t.r.g.rs.n] at y1
  rw [← (t.rows i y0 y1).2.2.2.2.2.1, t.c.g.cs.cv i y0 y1]
  exact (w.wm.cv i y0 y1).1
theorem fRd_top {cell deep cov : Int → Int} {n : Nat} {c : Int} : fRd cell deep cov n (-1) c = fTop cell deep cov c n := by
  have h := fTop_lt cell deep cov c n
  unfold fRd
  by_cases q : -1 < fTop cell deep cov c n
  · rw [if_pos q]
  · rw [if_neg q]; omega
/-- the rows that a chain goes by -/
theorem jT.chn (t : jT k p P A W B V C kp z nx n9 f1 f2 tx σ) (w : jW k p P A W B V C kp z nx n9) : ∀ i : Int, 0 ≤ i → i < A.n → σ (40 + 5) i = σ 146 i ∧ σ (40 + 6) i = σ 147 i ∧ σ (40 + 9) i = σ 150 i ∧ σ (p + 7) (σ 146 i) = σ 133 (σ 146 i) := by
  intro i y0 y1
  have e := t.rows i y0 y1
  have h1 := w.wm.lk i y0 y1
  refine ⟨e.1, e.2.1, e.2.2.2.2.1, ?_⟩
  rw [← e.1, t.c.g.cs.lk i y0 y1, t.c.g.cp.ga _ h1.1 h1.2, t.r.g.rp.ga _ h1.1 h1.2]
theorem j_trail (I : Inv k σ) {m : Int} : jI X 149 268 [.inl m] k σ := by
  obtain ⟨p, P, A, W, B, V, C, kp, z, nx, n9, f1, f2, tx, w, t⟩ := I.el
  have t0 := t.up2 w (v := 0)
  refine c_trail t.c.g.pt (s := 40) (p := p) (Or.inl rfl) (pt_0_6 t.c.g.pt) (t.nC w) w.p t.c.g.ep (t.c.PD w.wp) (t.lkC w) (t.ceC w) ⟨_, rfl, r_trail rfl t0.r.g.pt (t0.nR w) (t0.r.RD w.wp) (t0.lkR w) (t0.ceR w) ⟨?_, t0.fin w⟩⟩
  rw [t.c.g.cs.n, t0.r.g.rs.n, t.c.g.cp.w, t0.r.g.rp.w]
  exact congrArg (fun x => some (Sum.inl x)) (aTrail_cg (fBef_rg (fun i y0 y1 => t.chn w i y0 y1)) (fun i y0 y1 => (t.chn w i y0 y1).2.2.1)).symm
theorem j_trailed (I : Inv k σ) {m q : Int} (hq : q ≤ 2147483647) : jI X 150 269 [.inl m, .inl q] k σ := by
  obtain ⟨p, P, A, W, B, V, C, kp, z, nx, n9, f1, f2, tx, w, t⟩ := I.el
  have t0 := t.up2 w (v := 0)
  refine c_trailed t.c.g.pt (s := 40) (p := p) (Or.inl rfl) (pt_0_6 t.c.g.pt) (t.nC w) w.p t.c.g.ep (t.c.PD w.wp) (t.lkC w) (t.ceC w) hq ⟨_, rfl, r_trailed rfl t0.r.g.pt (t0.nR w) (t0.r.RD w.wp) (t0.lkR w) (t0.ceR w) hq ⟨?_, t0.fin w⟩⟩
  rw [t.c.g.cs.n, t0.r.g.rs.n, t.c.g.cp.w, t0.r.g.rp.w]
  exact congrArg (fun x => some (Sum.inl x)) (aTrailed_cg (fBef_rg (fun i y0 y1 => t.chn w i y0 y1)) (fun i y0 y1 => (t.chn w i y0 y1).2.2.1)).symm
theorem j_layers (I : Inv k σ) : jI X 162 296 [] k σ := by
  obtain ⟨p, P, A, W, B, V, C, kp, z, nx, n9, f1, f2, tx, w, t⟩ := I.el
  have t0 := t.up2 w (v := 0)
  refine c_layers t.c.g.pt (s := 40) (Or.inl rfl) (pt_0_6 t.c.g.pt) (t.nC w) ⟨_, rfl, r_layers rfl t0.r.g.pt (t0.nR w) (t0.cvR w) ⟨?_, t0.fin w⟩⟩
  rw [t.c.g.cs.n, t0.r.g.rs.n]
  have hn := w.wm.n
  have e : ∀ i : Int, 0 ≤ i → i < A.n.toNat → σ (40 + 9) i = (sx_up σ 124 2 0) 150 i ∧ σ (40 + 10) i = (sx_up σ 124 2 0) 151 i := fun i y0 y1 => by
    have e := t.rows i y0 (by omega)
    exact ⟨e.2.2.2.2.1.trans (up_a (by decide)).symm, e.2.2.2.2.2.1.trans (up_a (by decide)).symm⟩
  have e2 : (fun x => fLst (σ (40 + 9)) (σ (40 + 10)) x A.n.toNat) = (fun x => fLst (sx_up σ 124 2 0 150) (sx_up σ 124 2 0 151) x A.n.toNat) := by
    funext x
    exact fLst_cg e
  rw [e2, fLst_cg e]
theorem j_layer (I : Inv k σ) {q : Int} (hq : q ≤ 2147483647) : jI X 163 297 [.inl q] k σ := by
  obtain ⟨p, P, A, W, B, V, C, kp, z, nx, n9, f1, f2, tx, w, t⟩ := I.el
  have t0 := t.up2 w (v := 0)
  refine c_layer t.c.g.pt (s := 40) (Or.inl rfl) (pt_0_6 t.c.g.pt) (t.nC w) hq ⟨_, rfl, r_layer rfl t0.r.g.pt (t0.nR w) (t0.cvR w) hq ⟨?_, t0.fin w⟩⟩
  rw [t.c.g.cs.n, t0.r.g.rs.n]
  have hn := w.wm.n
  exact congrArg (fun x => some (Sum.inl x)) (aLayer_cg (fun i y0 y1 => by
    have e := t.rows i y0 (by omega)
    exact ⟨e.2.2.2.2.1.trans (up_a (by decide)).symm, e.2.2.2.2.2.1.trans (up_a (by decide)).symm⟩)).symm
/-- what is read, laid into its row: nothing else moves -/
theorem jT.rd (t : jT k p P A W B V C kp z nx n9 f1 f2 tx σ) (w : jW k p P A W B V C kp z nx n9) {f : Int → Int} : jT k p P A W B V C kp z nx n9 f1 f2 tx (sx_mp σ (40 + 14) 48 f) := by
  have e : ∀ a i : Int, ¬ a = 54 → sx_mp σ (40 + 14) 48 f a i = σ a i := fun a i h => mp_a (by omega)
  have hT : PT (sx_mp σ (40 + 14) 48 f) := t.c.g.pt.fr (fun q hq => e _ _ ((show ∀ q ∈ ptL, ¬ q.1 = 54 by decide +kernel) q hq))
  exact t.cr w (t.c.g.of' w.p hT (fun a i z1 z2 => e _ _ (by omega))) (fun a i q => e _ _ (by unfold kCc kDc at q; omega))
theorem jT.fgd (t : jT k p P A W B V C kp z nx n9 f1 f2 tx σ) (w : jW k p P A W B V C kp z nx n9) {m : Int} (h0 : 0 ≤ m) (h1 : m < A.n.toNat) : bFgd P.w P.h (σ (p + 1)) (σ (p + 7)) (σ (p + 8)) (σ (40 + 5)) (σ (40 + 6)) (σ (40 + 9)) (σ (40 + 10)) (σ (40 + 12)) A.n.toNat m = bFgd P.w P.h (sx_up σ 124 2 0 127) (sx_up σ 124 2 0 133) (sx_up σ 124 2 0 134) (sx_up σ 124 2 0 146) (sx_up σ 124 2 0 147) (sx_up σ 124 2 0 150) (sx_up σ 124 2 0 151) (sx_up σ 124 2 0 153) A.n.toNat m := by
  have hn := w.wm.n
  have hwh := w.wp.wh
  refine bFgd_cg (fun i y0 y1 => ?_) (fun i y0 y1 => ?_) (fun i y0 y1 => ?_) (fun i y0 y1 => ?_) ⟨h0, h1⟩
  · have e := t.chn w i y0 (by omega)
    rw [up_a (by decide), up_a (by decide), up_a (by decide), up_a (by decide)]
    exact e
  · have e := t.rows i y0 (by omega)
    have h1 := w.wm.lk i y0 (by omega)
    rw [up_a (by decide), up_a (by decide), ← e.1, t.c.g.cs.lk i y0 (by omega), t.c.g.cp.ho _ h1.1 h1.2, t.r.g.rp.ho _ h1.1 h1.2]
  · rw [up_a (by decide), t.c.g.cp.ki i y0 (by omega), t.r.g.rp.ki i y0 (by omega)]
  · have e := t.rows i y0 (by omega)
    rw [up_a (by decide), up_a (by decide)]
    exact ⟨e.2.2.2.2.2.1, e.2.2.2.2.2.2.2⟩
theorem jT.hoR (t : jT k p P A W B V C kp z nx n9 f1 f2 tx σ) (w : jW k p P A W B V C kp z nx n9) : ∀ i : Int, 0 ≤ i → i < σ 124 15 → 0 ≤ σ 134 i ∧ σ 134 i < σ 124 12 * σ 124 13 := by
  intro i y0 y1
  rw [t.r.g.rp.wa] at y1
  rw [t.r.g.rp.ho i y0 y1, t.r.g.rp.w, t.r.g.rp.h]
  exact w.wp.ho i y0 y1
theorem jT.lwR (t : jT k p P A W B V C kp z nx n9 f1 f2 tx σ) (w : jW k p P A W B V C kp z nx n9) : ∀ i : Int, 0 ≤ i → i < σ 154 0 → σ 146 i < σ 124 15 := by
  intro i y0 y1
  rw [t.r.g.rs.n] at y1
  rw [t.r.g.rp.wa, ← (t.rows i y0 y1).1, t.c.g.cs.lk i y0 y1]
  exact (w.wm.lk i y0 y1).2
theorem jT.rdT (t : jT k p P A W B V C kp z nx n9 f1 f2 tx σ) (w : jW k p P A W B V C kp z nx n9) (e0 : σ0 = sx_mp σ (40 + 14) 48 (fRd (σ (40 + 6)) (σ (40 + 9)) (σ (40 + 10)) (σ (40 + 4) 0).toNat (-1))) : ∀ c : Int, 0 ≤ c → c < 48 → σ0 (40 + 14) c = fTop (σ0 (40 + 6)) (σ0 (40 + 9)) (σ0 (40 + 10)) c (σ0 (40 + 4) 0).toNat := by
  intro c y0 y1
  have h6 : sx_mp σ (40 + 14) 48 (fRd (σ (40 + 6)) (σ (40 + 9)) (σ (40 + 10)) (σ (40 + 4) 0).toNat (-1)) (40 + 6) = σ (40 + 6) := by funext i; exact mp_a (by decide)
  have h9 : sx_mp σ (40 + 14) 48 (fRd (σ (40 + 6)) (σ (40 + 9)) (σ (40 + 10)) (σ (40 + 4) 0).toNat (-1)) (40 + 9) = σ (40 + 9) := by funext i; exact mp_a (by decide)
  have h10 : sx_mp σ (40 + 14) 48 (fRd (σ (40 + 6)) (σ (40 + 9)) (σ (40 + 10)) (σ (40 + 4) 0).toNat (-1)) (40 + 10) = σ (40 + 10) := by funext i; exact mp_a (by decide)
  have h4 : sx_mp σ (40 + 14) 48 (fRd (σ (40 + 6)) (σ (40 + 9)) (σ (40 + 10)) (σ (40 + 4) 0).toNat (-1)) (40 + 4) = σ (40 + 4) := by funext i; exact mp_a (by decide)
  rw [e0, h6, h9, h10, h4, mp_in y0 y1]
  exact fRd_top
theorem j_forged (I : Inv k σ) : jI X 147 265 [] k σ := by
  obtain ⟨p, P, A, W, B, V, C, kp, z, nx, n9, f1, f2, tx, w, t⟩ := I.el
  obtain ⟨σ0, e0⟩ : ∃ σ0, σ0 = sx_mp σ (40 + 14) 48 (fRd (σ (40 + 6)) (σ (40 + 9)) (σ (40 + 10)) (σ (40 + 4) 0).toNat (-1)) := ⟨_, rfl⟩
  have t1 := t.rd w (f := fRd (σ (40 + 6)) (σ (40 + 9)) (σ (40 + 10)) (σ (40 + 4) 0).toNat (-1))
  rw [← e0] at t1
  have t0 := t1.up2 w (v := 0)
  refine c_forged t.c.g.pt (s := 40) (p := p) (pt_0_6 t.c.g.pt) (t.nC w) (t.ceC w) e0 (pt_0_6 t1.c.g.pt) (t.rdT w e0) t1.c.g.pt (Or.inl rfl) (t1.nC w) w.p t1.c.g.ep (t1.c.PD w.wp) (t1.lkC w) (t1.ceC w) t1.c.g.cp.hb ⟨_, rfl, r_forged rfl t0.r.g.pt (t0.nR w) (t0.r.RD w.wp) (t0.lkR w) (t0.ceR w) (t0.hoR w) (t0.lwR w) ⟨?_, t0.fin w⟩⟩
  rw [t1.c.g.cs.n, t0.r.g.rs.n, t1.c.g.cp.w, t1.c.g.cp.h, t0.r.g.rp.w, t0.r.g.rp.h]
  exact congrArg (fun x => some (Sum.inl x)) (fCnt_cg (fun i y0 y1 => t1.fgd w y0 y1)).symm
theorem j_forgery (I : Inv k σ) {q : Int} (hq : q ≤ 2147483647) : jI X 148 266 [.inl q] k σ := by
  obtain ⟨p, P, A, W, B, V, C, kp, z, nx, n9, f1, f2, tx, w, t⟩ := I.el
  obtain ⟨σ0, e0⟩ : ∃ σ0, σ0 = sx_mp σ (40 + 14) 48 (fRd (σ (40 + 6)) (σ (40 + 9)) (σ (40 + 10)) (σ (40 + 4) 0).toNat (-1)) := ⟨_, rfl⟩
  have t1 := t.rd w (f := fRd (σ (40 + 6)) (σ (40 + 9)) (σ (40 + 10)) (σ (40 + 4) 0).toNat (-1))
  rw [← e0] at t1
  refine c_forgery t.c.g.pt (s := 40) (p := p) (pt_0_6 t.c.g.pt) (t.nC w) (t.ceC w) e0 (pt_0_6 t1.c.g.pt) (t.rdT w e0) t1.c.g.pt (Or.inl rfl) (t1.nC w) w.p t1.c.g.ep (t1.c.PD w.wp) (t1.lkC w) (t1.ceC w) t1.c.g.cp.hb hq (fun h => ⟨_, rfl, ?_⟩) (fun h => ⟨_, rfl, ?_⟩)
  · have t0 := t.up2 w (v := 0)
    refine r_forgery rfl t0.r.g.pt (t0.nR w) (t0.r.RD w.wp) (t0.lkR w) (t0.ceR w) (t0.hoR w) (t0.lwR w) ⟨?_, t0.fin w⟩
    unfold aForgery
    rw [if_pos h]
  · have t0 := t1.up2 w (v := 0)
    refine r_forgery rfl t0.r.g.pt (t0.nR w) (t0.r.RD w.wp) (t0.lkR w) (t0.ceR w) (t0.hoR w) (t0.lwR w) ⟨?_, t0.fin w⟩
    unfold aForgery
    rw [if_neg (by omega), t1.c.g.cs.n, t0.r.g.rs.n, t1.c.g.cp.w, t1.c.g.cp.h, t0.r.g.rp.w, t0.r.g.rp.h]
    exact congrArg (fun x => some (Sum.inl x)) (fNth_cg (fun i y0 y1 => t1.fgd w y0 y1)).symm
end SXU6
