/-! THE REFERENCE's scratch: alike but for the names, the values and the flag -/
theorem fOp_nm {kd pt ot nm nm' g : Int → Int} {i : Int} (h : kd i = 1 → nm (pt i) = nm' (pt i)) : fOp kd pt ot nm g i = fOp kd pt ot nm' g i := by
  unfold fOp
  by_cases e1 : kd i = 1
  · rw [h e1]
  · rw [if_neg (c := kd i = 1) e1, if_neg (c := kd i = 1) e1]
theorem fEv_nm {kd pt ot nm nm' : Int → Int} {lo hi : Int} (h : ∀ i : Int, lo ≤ i → i < hi → kd i = 1 → nm (pt i) = nm' (pt i)) : ∀ n : Nat, lo + n ≤ hi → fEv kd pt ot nm lo n = fEv kd pt ot nm' lo n
  | 0, _ => rfl
  | n + 1, hn => by
    have e := fEv_nm (ot := ot) h n (by omega)
    unfold fEv
    rw [e]
    cases fEv kd pt ot nm' lo n with
    | none => rfl
    | some g =>
      dsimp only
      rw [fOp_nm (h (lo + n) (by omega) (by omega))]
theorem fLaw_nm {kd pt ot nm nm' : Int → Int} {lo hi : Int} (hl : lo ≤ hi) (h : ∀ i : Int, lo ≤ i → i < hi → kd i = 1 → nm (pt i) = nm' (pt i)) : fLaw kd pt ot nm lo hi = fLaw kd pt ot nm' lo hi := by
  unfold fLaw
  rw [fEv_nm h _ (by omega)]
def eqR (σ σ' : sx_S) : Prop := ∀ a i : Int, ¬ a = 144 → ¬ a = 145 → ¬ (a = 124 ∧ i = 56) → σ' a i = σ a i
theorem eqR.row {σ σ' : sx_S} (h : eqR σ σ') {a : Int} (h1 : ¬ a = 144) (h2 : ¬ a = 145) (h3 : ¬ a = 124) : σ' a = σ a := funext fun i => h a i h1 h2 (fun z => h3 z.1)
theorem eqR_rfl (σ : sx_S) : eqR σ σ := fun _ _ _ _ _ => rfl
theorem eqR_pts : ptL.all (fun q => decide (¬ q.1 = 144 ∧ ¬ q.1 = 145 ∧ ¬ (q.1 = 124 ∧ q.2.1 = 56))) = true := by decide +kernel
theorem eqR.pt {σ σ' : sx_S} (h : eqR σ σ') (hT : PT σ) : PT σ' := hT.fr (fun q hq => by
  have h1 := of_decide_eq_true (List.all_eq_true.mp eqR_pts q hq)
  exact h _ _ h1.1 h1.2.1 h1.2.2)
theorem eqR.trans {σ σ1 σ2 : sx_S} (h : eqR σ σ1) (h' : eqR σ1 σ2) : eqR σ σ2 := fun a i h1 h2 h3 => (h' a i h1 h2 h3).trans (h a i h1 h2 h3)
theorem eqR.up {σ σ' : sx_S} (h : eqR σ σ') {b j v : Int} : eqR (sx_up σ b j v) (sx_up σ' b j v) := fun a i h1 h2 h3 => by
  unfold sx_up
  split
  · rfl
  · exact h a i h1 h2 h3
theorem eqR_of {σ σ1 σ' : sx_S} {f : Int → Int} (e : σ1 = sx_mp σ 144 7 f) (h : eqK σ1 σ') : eqR σ σ' := fun a i h1 h2 h3 => by rw [h a i h2 h3, e, mp_a h1]
theorem SCK_mp {σ : sx_S} (h : SCK σ) (f : Int → Int) : SCK (sx_mp σ 144 7 f) := by
  refine ⟨fun j h0 h1 => ?_, ?_⟩
  · rw [mp_a (by decide)]; exact h.1 j h0 h1
  · rw [mp_a (by decide)]; exact h.2
theorem SCK_up {σ : sx_S} (h : SCK σ) {a i v : Int} (h1 : ¬ a = 145) (h2 : ¬ a = 124) : SCK (sx_up σ a i v) := by
  refine ⟨fun j h3 h4 => ?_, ?_⟩
  · rw [up_a (fun z => h1 z.symm)]; exact h.1 j h3 h4
  · rw [up_a (fun z => h2 z.symm)]; exact h.2
