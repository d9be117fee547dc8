/-! AN HOUR, class side (by wip/whole) -/
section SXK9
variable {X : sx_X} {σ σ0 : sx_S} {s p : Int} {Q : sx_R}
theorem eqD.row {σ σ' : sx_S} (h : eqD σ σ') {a : Int} (h1 : ¬ a = 38) (h2 : ¬ a = 39) (h3 : ¬ a = 37) : σ' a = σ a := funext fun i => h a i h1 h2 (fun z => h3 z.1)
theorem eqD_rfl (σ : sx_S) : eqD σ σ := fun _ _ _ _ _ => rfl
theorem eqD_pts : ptL.all (fun q => decide (¬ q.1 = 38 ∧ ¬ q.1 = 39 ∧ ¬ (q.1 = 37 ∧ q.2.1 = 2))) = true := by decide +kernel
theorem eqD.pt {σ σ' : sx_S} (h : eqD σ σ') (hT : PT σ) : PT σ' := hT.fr (fun q hq => by
  have h1 := of_decide_eq_true (List.all_eq_true.mp eqD_pts q hq)
  exact h _ _ h1.1 h1.2.1 h1.2.2)
theorem eqD.trans {σ σ1 σ2 : sx_S} (h : eqD σ σ1) (h' : eqD σ1 σ2) : eqD σ σ2 := fun a i h1 h2 h3 => (h' a i h1 h2 h3).trans (h a i h1 h2 h3)
theorem eqD.up {σ σ' : sx_S} (h : eqD σ σ') {b j v : Int} : eqD (sx_up σ b j v) (sx_up σ' b j v) := fun a i h1 h2 h3 => by
  unfold sx_up
  split
  · rfl
  · exact h a i h1 h2 h3
theorem fLv_bl {o : Option Int} (h : ∀ x, o = some x → pB12 x) (lo df : Int) : (fLv o = -9223372036854775808 ∧ fBl o df lo 99 = df) ∨ (¬ fLv o = -9223372036854775808 ∧ fBl o df lo 99 = fCl lo 99 (fLv o)) := by
  cases o with
  | none => exact Or.inl ⟨rfl, rfl⟩
  | some x =>
    have h1 : -1000000000000 ≤ x ∧ x ≤ 1000000000000 := h x rfl
    exact Or.inr ⟨fun z => by have z1 : x = -9223372036854775808 := z; omega, rfl⟩
theorem fCl_bd {lo v : Int} (h : 0 ≤ lo ∧ lo ≤ 99) : lo ≤ fCl lo 99 v ∧ fCl lo 99 v ≤ 99 := by unfold fCl; repeat (first | omega | split)
theorem fBl_bd {o : Option Int} {lo df : Int} (h : 0 ≤ lo ∧ lo ≤ 99) (hd : 0 ≤ df ∧ df ≤ 99) : 0 ≤ fBl o df lo 99 ∧ fBl o df lo 99 ≤ 99 := by
  cases o with
  | none => exact hd
  | some x => have := fCl_bd (v := x) h; exact ⟨by show 0 ≤ fCl lo 99 x; omega, this.2⟩
theorem c_Sbounded2 {o : Option Int} {lo df : Int} (hb : ∀ x, o = some x → pB12 x) (hlo : 0 ≤ lo ∧ lo ≤ 99) (h : Q (some (.inl (fBl o df lo 99))) shM σ) : sx_Run X 82 [.inr (.inl (fLv o)), .inl lo, .inl df] shM σ Q := by
  rcases fLv_bl hb lo df with ⟨h1, h2⟩ | ⟨h1, h2⟩
  · rw [h2] at h
    exact c_Sbounded hlo (fun _ => h) (fun z => absurd h1 z)
  · rw [h2] at h
    exact c_Sbounded hlo (fun z => absurd z h1) (fun _ => h)
/-- what an hour takes from the open ones: o j the law of mark j -/
def fHr (deep cov : Int → Int) (o : Int → Option Int) : Int → Int := fun j => if 0 < deep j ∧ cov j = 0 then fMax0 (deep j - fBl (o j) 0 0 99) else deep j
end SXK9
