/-! ONE CALL ON BOTH: the forecast -/
section SXU7
variable {X : sx_X} {Q : sx_R} {σ σ0 σ' σ1 σ2 : sx_S}
variable {k p : Int} {P : aP} {A A' : aM} {W W' : aW} {B : aM} {V : aW} {C : aC} {kp z z' nx nx' n9 f1 f2 : Int} {tx : Int → Int}
/-- a row of the forecast, nothing behind its 24 hours -/
def fCut (r : Int → Int) : Int → Int := fun i => if 0 ≤ i ∧ i < 24 then r i else 0
theorem fOdd_cut (r : Int → Int) (h : Int) : fOdd (fCut r) h = fOdd r h := by
  unfold fOdd fCut
  by_cases q : 0 ≤ h ∧ h < 24
  · rw [if_pos q, if_pos q, if_pos q]
  · rw [if_neg q, if_neg q]
theorem fDry_cut (r : Int → Int) (h : Int) : ∀ n : Nat, fDry (fCut r) h n = fDry r h n
  | 0 => rfl
  | n + 1 => by
    show fDry (fCut r) h n * fOdd (fCut r) (h + n) = fDry r h n * fOdd r (h + n)
    rw [fDry_cut r h n, fOdd_cut]
theorem fCov_cut (r : Int → Int) : fCov (fCut r) = fCov r := by
  funext h n
  unfold fCov
  rw [fDry_cut]
theorem fGain_cut (r : Int → Int) : fGain (fCut r) = fGain r := by
  funext a b
  unfold fGain
  rw [fCov_cut]
theorem fRst_cut (r : Int → Int) (a b h : Int) : ∀ n : Nat, fRst (fCut r) a b h n = fRst r a b h n
  | 0 => rfl
  | n + 1 => by
    show (fRst (fCut r) a b h n && (decide (fGain (fCut r) (h + n) b ≤ fGain (fCut r) a b) && decide (fGain (fCut r) (h + n) a ≤ fGain (fCut r) b a))) = (fRst r a b h n && (decide (fGain r (h + n) b ≤ fGain r a b) && decide (fGain r (h + n) a ≤ fGain r b a)))
    rw [fRst_cut r a b h n, fGain_cut]
theorem fIn_cut (r : Int → Int) (h : Int) (n : Nat) (a : Int) (m : Nat) : fIn (fCut r) h n a m = fIn r h n a m := by
  unfold fIn
  exact fCnt_cg (fun i y0 y1 => fRst_cut r _ _ _ _)
theorem fOut_cut (r : Int → Int) (h : Int) (n : Nat) : ∀ m : Nat, fOut (fCut r) h n m = fOut r h n m
  | 0 => rfl
  | m + 1 => by
    show fOut (fCut r) h n m + fIn (fCut r) h n (h + m) n = fOut r h n m + fIn r h n (h + m) n
    rw [fOut_cut r h n m, fIn_cut]
theorem fKi_cut (r : Int → Int) (h : Int) (n : Nat) (q a : Int) : fKi (fCut r) h n q a = fKi r h n q a := by
  funext j
  unfold fKi
  rw [fRst_cut, fOut_cut, fIn_cut]
theorem fKo_cut (r : Int → Int) (h : Int) (n : Nat) (q : Int) : fKo (fCut r) h n q = fKo r h n q := by
  funext i
  unfold fKo
  rw [fKi_cut]
theorem fBst_cut (r : Int → Int) (n : Nat) (a : Int) : ∀ m : Nat, fBst (fCut r) n a m = fBst r n a m
  | 0 => rfl
  | m + 1 => by
    show (if fCov (fCut r) (fBst (fCut r) n a m) n < fCov (fCut r) (a + 1 + m) n then _ else fBst (fCut r) n a m) = (if fCov r (fBst r n a m) n < fCov r (a + 1 + m) n then _ else fBst r n a m)
    rw [fBst_cut r n a m, fCov_cut]
theorem aCovered_cut (r : Int → Int) (a b c : Int) : aCovered (fCut r) a b c = aCovered r a b c := by unfold aCovered; rw [fCov_cut]
theorem aBest_cut (r : Int → Int) (a b c : Int) : aBest (fCut r) a b c = aBest r a b c := by unfold aBest; rw [fBst_cut]
theorem aRests_cut (r : Int → Int) (a b : Int) : aRests (fCut r) a b = aRests r a b := by unfold aRests; rw [fOut_cut]
theorem aRest_cut (r : Int → Int) (a b c : Int) : aRest (fCut r) a b c = aRest r a b c := by unfold aRest; rw [fKo_cut]
theorem jT.cut (t : jT k p P A W B V C kp z nx n9 f1 f2 tx σ) : fCut (σ (p + 10)) = fCut (sx_up σ 124 2 0 135) := by
  funext i
  unfold fCut
  by_cases q : 0 ≤ i ∧ i < 24
  · rw [if_pos q, if_pos q, up_a (by decide), t.c.g.cp.hl i q.1 q.2, t.r.g.rp.hl i q.1 q.2]
  · rw [if_neg q, if_neg q]
theorem jT.hrC (t : jT k p P A W B V C kp z nx n9 f1 f2 tx σ) (w : jW k p P A W B V C kp z nx n9) : HR σ (p + 10) := fun i y0 y1 => by rw [t.c.g.cp.hl i y0 y1]; exact w.wp.hl i y0 y1
theorem jT.hrR (t : jT k p P A W B V C kp z nx n9 f1 f2 tx σ) (w : jW k p P A W B V C kp z nx n9) : HR σ 135 := fun i y0 y1 => by rw [t.r.g.rp.hl i y0 y1]; exact w.wp.hl i y0 y1
theorem j_covered (I : Inv k σ) {a b c : Int} : jI X 153 278 [.inl a, .inl b, .inl c] k σ := by
  obtain ⟨p, P, A, W, B, V, C, kp, z, nx, n9, f1, f2, tx, w, t⟩ := I.el
  have t0 := t.up2 w (v := 0)
  refine c_covered t.c.g.pt w.p t.c.e2 (t.hrC w) ⟨_, rfl, r_covered rfl t0.r.g.pt (t0.hrR w) ⟨?_, t0.fin w⟩⟩
  rw [← aCovered_cut, ← aCovered_cut (σ (p + 10)), t.cut]
theorem j_best (I : Inv k σ) {a b c : Int} : jI X 155 279 [.inl a, .inl b, .inl c] k σ := by
  obtain ⟨p, P, A, W, B, V, C, kp, z, nx, n9, f1, f2, tx, w, t⟩ := I.el
  have t0 := t.up2 w (v := 0)
  refine c_best t.c.g.pt w.p t.c.e2 (t.hrC w) ⟨_, rfl, r_best rfl t0.r.g.pt (t0.hrR w) ⟨?_, t0.fin w⟩⟩
  rw [← aBest_cut, ← aBest_cut (σ (p + 10)), t.cut]
theorem j_rests (I : Inv k σ) {a b : Int} : jI X 156 284 [.inl a, .inl b] k σ := by
  obtain ⟨p, P, A, W, B, V, C, kp, z, nx, n9, f1, f2, tx, w, t⟩ := I.el
  have t0 := t.up2 w (v := 0)
  refine c_rests t.c.g.pt w.p t.c.e2 (t.hrC w) ⟨_, rfl, r_rests rfl t0.r.g.pt (t0.hrR w) ⟨?_, t0.fin w⟩⟩
  rw [← aRests_cut, ← aRests_cut (σ (p + 10)), t.cut]
theorem j_rest (I : Inv k σ) {a b c : Int} (hc : c ≤ 2147483647) : jI X 157 285 [.inl a, .inl b, .inl c] k σ := by
  obtain ⟨p, P, A, W, B, V, C, kp, z, nx, n9, f1, f2, tx, w, t⟩ := I.el
  have t0 := t.up2 w (v := 0)
  refine c_rest t.c.g.pt w.p t.c.e2 (t.hrC w) hc ⟨_, rfl, r_rest rfl t0.r.g.pt (t0.hrR w) ⟨?_, t0.fin w⟩⟩
  rw [← aRest_cut, ← aRest_cut (σ (p + 10)), t.cut]
end SXU7
