/-! ONE CALL ON BOTH: marks, cells, what is read, chains, forgeries, the forecast -/
section SXU5
variable {X : sx_X} {Q : sx_R} {σ σ0 σ' σ1 σ2 : sx_S}
variable {k p : Int} {P : aP} {A A' : aM} {W W' : aW} {B : aM} {V : aW} {C : aC} {kp z z' nx nx' n9 f1 f2 : Int} {tx : Int → Int}
theorem aMk_cg {n : Int} {a1 a2 a3 a4 a5 a6 a7 a8 b1 b2 b3 b4 b5 b6 b7 b8 : Int → Int} {m q : Int} (h : ∀ i : Int, 0 ≤ i → i < n → a1 i = b1 i ∧ a2 i = b2 i ∧ a3 i = b3 i ∧ a4 i = b4 i ∧ a5 i = b5 i ∧ a6 i = b6 i ∧ a7 i = b7 i ∧ a8 i = b8 i) : aMk n a1 a2 a3 a4 a5 a6 a7 a8 m q = aMk n b1 b2 b3 b4 b5 b6 b7 b8 m q := by
  unfold aMk
  by_cases e : 0 ≤ m ∧ m < n
  · obtain ⟨h1, h2, h3, h4, h5, h6, h7, h8⟩ := h m e.1 e.2
    rw [if_pos e, if_pos e, h1, h2, h3, h4, h5, h6, h7, h8]
  · rw [if_neg e, if_neg e]
theorem aCe_cg {w h n : Int} {a1 a2 a3 a4 a5 b1 b2 b3 b4 b5 : Int → Int} {m q : Int} (hn : 0 ≤ n) (e0 : ∀ i : Int, 0 ≤ i → i < w * h → a1 i = b1 i ∧ a2 i = b2 i) (e1 : ∀ i : Int, 0 ≤ i → i < n → a3 i = b3 i ∧ a4 i = b4 i ∧ a5 i = b5 i) : aCe w h n a1 a2 a3 a4 a5 m q = aCe w h n b1 b2 b3 b4 b5 m q := by
  unfold aCe
  by_cases e : 0 ≤ m ∧ m < w * h
  · obtain ⟨h1, h2⟩ := e0 m e.1 e.2
    rw [if_pos e, if_pos e, h1, h2, fCnt_cg (b := fun i => decide (0 < a4 i ∧ a3 i = m)) (b' := fun i => decide (0 < b4 i ∧ b3 i = m)) (n := n.toNat) (fun i y0 y1 => by obtain ⟨z1, z2, z3⟩ := e1 i y0 (by omega); simp only [z1, z2]), fTop_cg (n := n.toNat) (fun i y0 y1 => e1 i y0 (by omega))]
  · rw [if_neg e, if_neg e]
theorem aRd_cg {w h n : Int} {a1 a2 a3 a4 a5 b1 b2 b3 b4 b5 : Int → Int} {m : Int} (hn : 0 ≤ n) (e1 : ∀ i : Int, 0 ≤ i → i < n → a1 i = b1 i ∧ (a2 i = b2 i ∧ a3 i = b3 i ∧ a4 i = b4 i) ∧ a5 i = b5 i) : aRd w h n a1 a2 a3 a4 a5 m = aRd w h n b1 b2 b3 b4 b5 m := by
  unfold aRd
  have ht : fTop a2 a3 a4 m n.toNat = fTop b2 b3 b4 m n.toNat := fTop_cg (fun i y0 y1 => (e1 i y0 (by omega)).2.1)
  have hb := fTop_lt b2 b3 b4 m n.toNat
  rw [ht]
  by_cases e : fTop b2 b3 b4 m n.toNat = -1
  · rw [if_pos e, if_pos e]
  · rw [if_neg e, if_neg e]
    obtain ⟨z1, -, z5⟩ := e1 (fTop b2 b3 b4 m n.toNat) (by omega) (by omega)
    rw [z1, z5]
theorem fBef_cg {w N : Int} {g1 l1 c1 d1 g2 l2 c2 d2 : Int → Int} {m : Int} (hm : 0 ≤ m ∧ m < N) (e : ∀ i : Int, 0 ≤ i → i < N → l1 i = l2 i ∧ c1 i = c2 i ∧ d1 i = d2 i ∧ g1 (l2 i) = g2 (l2 i)) : ∀ n : Nat, (n : Int) ≤ N → fBef w g1 l1 c1 d1 m n = fBef w g2 l2 c2 d2 m n
  | 0, _ => rfl
  | n + 1, h => by
    have ih := fBef_cg (w := w) hm e n (by omega)
    obtain ⟨y1, y2, y3, y4⟩ := e n (by omega) (by omega)
    obtain ⟨z1, z2, z3, z4⟩ := e m hm.1 hm.2
    show (if _ then _ else _) = (if _ then _ else _)
    rw [y1, y2, y3, z1, z2, z4, ih]
theorem fBef_rg {w N : Int} {g1 l1 c1 d1 g2 l2 c2 d2 : Int → Int} (e : ∀ i : Int, 0 ≤ i → i < N → l1 i = l2 i ∧ c1 i = c2 i ∧ d1 i = d2 i ∧ g1 (l2 i) = g2 (l2 i)) : ∀ x : Int, 0 ≤ x ∧ x < N → (fun y : Int => fBef w g1 l1 c1 d1 y y.toNat) x = (fun y : Int => fBef w g2 l2 c2 d2 y y.toNat) x ∧ ((fun y : Int => fBef w g1 l1 c1 d1 y y.toNat) x = -1 ∨ 0 ≤ (fun y : Int => fBef w g1 l1 c1 d1 y y.toNat) x ∧ (fun y : Int => fBef w g1 l1 c1 d1 y y.toNat) x < N) := by
  intro x hx
  refine ⟨fBef_cg hx e x.toNat (by omega), ?_⟩
  have := fBef_lt w g1 l1 c1 d1 x x.toNat
  show fBef w g1 l1 c1 d1 x x.toNat = -1 ∨ 0 ≤ fBef w g1 l1 c1 d1 x x.toNat ∧ fBef w g1 l1 c1 d1 x x.toNat < N
  omega
theorem aTrail_cg {f g : Int → Int} {n : Int} {d1 d2 : Int → Int} {m : Int} (h : ∀ x : Int, 0 ≤ x ∧ x < n → f x = g x ∧ (f x = -1 ∨ 0 ≤ f x ∧ f x < n)) (e : ∀ i : Int, 0 ≤ i → i < n → d1 i = d2 i) : aTrail f n d1 m = aTrail g n d2 m := by
  unfold aTrail
  by_cases q : 0 ≤ m ∧ m < n
  · rw [e m q.1 q.2, fTrl_cg (P := fun x => 0 ≤ x ∧ x < n) h 90 m (Or.inr q)]
  · rw [if_neg (by omega), if_neg (by omega)]
theorem aTrailed_cg {f g : Int → Int} {n : Int} {d1 d2 : Int → Int} {m q : Int} (h : ∀ x : Int, 0 ≤ x ∧ x < n → f x = g x ∧ (f x = -1 ∨ 0 ≤ f x ∧ f x < n)) (e : ∀ i : Int, 0 ≤ i → i < n → d1 i = d2 i) : aTrailed f n d1 m q = aTrailed g n d2 m q := by
  unfold aTrailed
  by_cases y : 0 ≤ m ∧ m < n
  · rw [e m y.1 y.2, fItr_cg (P := fun x => 0 ≤ x ∧ x < n) h q.toNat m (Or.inr y)]
  · rw [if_neg (by omega), if_neg (by omega)]
theorem pClo_cg {w h N : Int} {k1 g1 h1 l1 c1 d1 k2 g2 h2 l2 c2 d2 : Int → Int} {m : Int} (hm : 0 ≤ m ∧ m < N) (e : ∀ i : Int, 0 ≤ i → i < N → l1 i = l2 i ∧ c1 i = c2 i ∧ d1 i = d2 i ∧ g1 (l2 i) = g2 (l2 i)) (eh : ∀ i : Int, 0 ≤ i → i < N → h1 (l2 i) = h2 (l2 i)) (ek : ∀ i : Int, 0 ≤ i → i < w * h → k1 i = k2 i) (q : pClo w h k1 g1 h1 l1 c1 d1 m) : pClo w h k2 g2 h2 l2 c2 d2 m := by
  obtain ⟨z1, z2, z3, z4⟩ := e m hm.1 hm.2
  have z5 := eh m hm.1 hm.2
  unfold pClo pNear at q ⊢
  rw [z1, z2, z4, z5, fBef_cg hm e m.toNat (by omega)] at q
  rcases q with q | q | ⟨x, q0, q1, q2, q3⟩
  · exact Or.inl q
  · exact Or.inr (Or.inl q)
  · exact Or.inr (Or.inr ⟨x, q0, q1, by rw [← ek x q0 q1]; exact q2, q3⟩)
theorem bFgd_cg {w h : Int} {n : Nat} {k1 g1 h1 l1 c1 d1 v1 b1 k2 g2 h2 l2 c2 d2 v2 b2 : Int → Int} (e : ∀ i : Int, 0 ≤ i → i < n → l1 i = l2 i ∧ c1 i = c2 i ∧ d1 i = d2 i ∧ g1 (l2 i) = g2 (l2 i)) (eh : ∀ i : Int, 0 ≤ i → i < n → h1 (l2 i) = h2 (l2 i)) (ek : ∀ i : Int, 0 ≤ i → i < w * h → k1 i = k2 i) (ev : ∀ i : Int, 0 ≤ i → i < n → v1 i = v2 i ∧ b1 i = b2 i) {m : Int} (hm : 0 ≤ m ∧ m < n) : bFgd w h k1 g1 h1 l1 c1 d1 v1 b1 n m = bFgd w h k2 g2 h2 l2 c2 d2 v2 b2 n m := by
  have e' : ∀ i : Int, 0 ≤ i → i < n → l2 i = l1 i ∧ c2 i = c1 i ∧ d2 i = d1 i ∧ g2 (l1 i) = g1 (l1 i) := fun i y0 y1 => by
    obtain ⟨z1, z2, z3, z4⟩ := e i y0 y1
    exact ⟨z1.symm, z2.symm, z3.symm, by rw [z1, z4]⟩
  have eh' : ∀ i : Int, 0 ≤ i → i < n → h2 (l1 i) = h1 (l1 i) := fun i y0 y1 => by rw [(e i y0 y1).1, eh i y0 y1]
  have ht : fTop c1 d1 v1 (c1 m) n = fTop c2 d2 v2 (c2 m) n := by
    rw [(e m hm.1 hm.2).2.1]
    exact fTop_cg (fun i y0 y1 => ⟨(e i y0 y1).2.1, (e i y0 y1).2.2.1, (ev i y0 y1).1⟩)
  have hq : pFgd w h k1 g1 h1 l1 c1 d1 v1 b1 n m ↔ pFgd w h k2 g2 h2 l2 c2 d2 v2 b2 n m := by
    unfold pFgd
    rw [ht, (ev m hm.1 hm.2).2]
    exact ⟨fun ⟨q1, q2, q3⟩ => ⟨q1, q2, fun q => q3 (pClo_cg hm e' eh' (fun i y0 y1 => (ek i y0 y1).symm) q)⟩, fun ⟨q1, q2, q3⟩ => ⟨q1, q2, fun q => q3 (pClo_cg hm e eh ek q)⟩⟩
  by_cases q : pFgd w h k1 g1 h1 l1 c1 d1 v1 b1 n m
  · rw [bFgd_t q, bFgd_t (hq.mp q)]
  · rw [bFgd_f q, bFgd_f (fun y => q (hq.mpr y))]
theorem fNth_cg {b b' : Int → Bool} {m : Int} {n : Nat} (h : ∀ i : Int, 0 ≤ i → i < n → b i = b' i) : fNth b m n = fNth b' m n := by
  unfold fNth
  rw [fCnt_cg h, fSe_cg (f := fNk b m) (f' := fNk b' m) (n := n) (fun i y0 y1 => by
    unfold fNk
    rw [h i y0 y1, fCnt_cg (b := b) (b' := b') (n := i.toNat) (fun j u0 u1 => h j u0 (by omega))])]
theorem aLayer_cg {d1 v1 d2 v2 : Int → Int} {n : Nat} {m : Int} (h : ∀ i : Int, 0 ≤ i → i < n → d1 i = d2 i ∧ v1 i = v2 i) : aLayer (fun x => fLst d1 v1 x n) m = aLayer (fun x => fLst d2 v2 x n) m := by
  have e : (fun x => fLst d1 v1 x n) = (fun x => fLst d2 v2 x n) := by
    funext x
    exact fLst_cg h
  rw [e]
/-- the rows of marks, class and reference -/
theorem jT.rows (t : jT k p P A W B V C kp z nx n9 f1 f2 tx σ) : ∀ m : Int, 0 ≤ m → m < A.n → σ (40 + 5) m = σ 146 m ∧ σ (40 + 6) m = σ 147 m ∧ σ (40 + 7) m = σ 148 m ∧ σ (40 + 8) m = σ 149 m ∧ σ (40 + 9) m = σ 150 m ∧ σ (40 + 10) m = σ 151 m ∧ σ (40 + 11) m = σ 152 m ∧ σ (40 + 12) m = σ 153 m := by
  intro m h0 h1
  have c := t.c.g.cs
  have r := t.r.g.rs
  have e : 90 * 0 + m = m := by omega
  have r1 := r.lk m h0 h1
  have r2 := r.ce m h0 h1
  have r3 := r.wy m h0 h1
  have r4 := r.bo m h0 h1
  have r5 := r.dp m h0 h1
  have r6 := r.cv m h0 h1
  have r7 := r.ow m h0 h1
  have r8 := r.bl m h0 h1
  rw [e] at r1 r2 r3 r4 r5 r6 r7 r8
  exact ⟨(c.lk m h0 h1).trans r1.symm, (c.ce m h0 h1).trans r2.symm, (c.wy m h0 h1).trans r3.symm, (c.bo m h0 h1).trans r4.symm, (c.dp m h0 h1).trans r5.symm, (c.cv m h0 h1).trans r6.symm, (c.ow m h0 h1).trans r7.symm, (c.bl m h0 h1).trans r8.symm⟩
theorem jT.blr (t : jT k p P A W B V C kp z nx n9 f1 f2 tx σ) (w : jW k p P A W B V C kp z nx n9) {m : Int} (h0 : 0 ≤ m) (h1 : m < A.n) : σ 153 m = 0 ∨ σ 153 m = 1 := by
  have r8 := t.r.g.rs.bl m h0 h1
  rw [show 90 * 0 + m = m by omega] at r8
  rw [r8]
  exact w.wm.bl m h0 h1
theorem jC.PD (c : jC p P A W B V C kp z nx n9 f1 f2 tx σ) (w : wP P) : PD σ p := by
  have h1 := w.w
  have h2 := w.h
  unfold _root_.Jvm.Pilot.CSnowScoreLaw_law_r9365_879628.PD
  rw [c.g.cp.w, c.g.cp.h]
  omega
theorem jR.RD (c : jR P A W B V C kp z n9 f1 f2 tx σ) (w : wP P) : RD σ := by
  have h1 := w.w
  have h2 := w.h
  unfold _root_.Jvm.Pilot.CSnowScoreLaw_law_r9365_879628.RD
  rw [c.g.rp.w, c.g.rp.h]
  omega
theorem jT.nC (t : jT k p P A W B V C kp z nx n9 f1 f2 tx σ) (w : jW k p P A W B V C kp z nx n9) : 0 ≤ σ (40 + 4) 0 ∧ σ (40 + 4) 0 ≤ 90 := by rw [t.c.g.cs.n]; exact w.wm.n
theorem jT.nR (t : jT k p P A W B V C kp z nx n9 f1 f2 tx σ) (w : jW k p P A W B V C kp z nx n9) : 0 ≤ σ 154 0 ∧ σ 154 0 ≤ 90 := by rw [t.r.g.rs.n]; exact w.wm.n
theorem j_mark (I : Inv k σ) {m q : Int} : jI X 130 238 [.inl m, .inl q] k σ := by
  obtain ⟨p, P, A, W, B, V, C, kp, z, nx, n9, f1, f2, tx, w, t⟩ := I.el
  have t0 := t.up2 w (v := 0)
  refine c_mark t.c.g.pt (s := 40) (Or.inl rfl) (t.nC w) (pt_0_6 t.c.g.pt) t.c.e2 ⟨_, rfl, r_mark rfl t0.r.g.pt (t0.nR w) (t0.r.RD w.wp) ⟨?_, t0.fin w⟩⟩
  rw [t.c.g.cs.n, t0.r.g.rs.n]
  refine congrArg (fun x => some (Sum.inl x)) (aMk_cg (fun i y0 y1 => ?_)).symm
  have e := t.rows i y0 y1
  have b := t.blr w y0 y1
  refine ⟨e.1, e.2.1, e.2.2.1, e.2.2.2.1, e.2.2.2.2.1, e.2.2.2.2.2.1, e.2.2.2.2.2.2.1, ?_⟩
  rw [e.2.2.2.2.2.2.2]
  show σ 153 i = if sx_up σ 124 2 0 153 i = 0 then 0 else 1
  rw [up_a (by decide)]
  rcases b with b | b <;> rw [b] <;> rfl
theorem j_cell (I : Inv k σ) {m q : Int} : jI X 129 237 [.inl m, .inl q] k σ := by
  obtain ⟨p, P, A, W, B, V, C, kp, z, nx, n9, f1, f2, tx, w, t⟩ := I.el
  have t0 := t.up2 w (v := 0)
  have hwh := w.wp.wh
  refine c_cell t.c.g.pt (s := 40) (Or.inl rfl) (t.nC w) w.p (t.c.PD w.wp) (pt_0_6 t.c.g.pt) t.c.e2 ⟨_, rfl, r_cell rfl t0.r.g.pt (t0.nR w) (t0.r.RD w.wp) ⟨?_, t0.fin w⟩⟩
  rw [t.c.g.cs.n, t0.r.g.rs.n, t.c.g.cp.w, t.c.g.cp.h, t0.r.g.rp.w, t0.r.g.rp.h]
  refine congrArg (fun x => some (Sum.inl x)) (aCe_cg w.wm.n.1 (fun i y0 y1 => ?_) (fun i y0 y1 => ?_)).symm
  · exact ⟨(t.c.g.cp.gr i y0 (by omega)).trans (t0.r.g.rp.gr i y0 (by omega)).symm, (t.c.g.cp.ki i y0 (by omega)).trans (t0.r.g.rp.ki i y0 (by omega)).symm⟩
  · have e := t.rows i y0 y1
    exact ⟨e.2.1.trans (up_a (by decide)).symm, e.2.2.2.2.1.trans (up_a (by decide)).symm, e.2.2.2.2.2.1.trans (up_a (by decide)).symm⟩
theorem j_rd (I : Inv k σ) {m : Int} : jI X 140 253 [.inl m] k σ := by
  obtain ⟨p, P, A, W, B, V, C, kp, z, nx, n9, f1, f2, tx, w, t⟩ := I.el
  have t0 := t.up2 w (v := 0)
  refine c_read t.c.g.pt (s := 40) (Or.inl rfl) (t.nC w) w.p (t.c.PD w.wp) (pt_0_6 t.c.g.pt) t.c.e2 ⟨_, rfl, r_read rfl t0.r.g.pt (t0.nR w) (t0.r.RD w.wp) ⟨?_, t0.fin w⟩⟩
  rw [t.c.g.cs.n, t0.r.g.rs.n, t.c.g.cp.w, t.c.g.cp.h, t0.r.g.rp.w, t0.r.g.rp.h]
  refine congrArg (fun x => some (Sum.inl x)) (aRd_cg w.wm.n.1 (fun i y0 y1 => ?_)).symm
  have e := t.rows i y0 y1
  exact ⟨e.1.trans (up_a (by decide)).symm, ⟨e.2.1.trans (up_a (by decide)).symm, e.2.2.2.2.1.trans (up_a (by decide)).symm, e.2.2.2.2.2.1.trans (up_a (by decide)).symm⟩, e.2.2.2.2.2.2.2.trans (up_a (by decide)).symm⟩
end SXU5
