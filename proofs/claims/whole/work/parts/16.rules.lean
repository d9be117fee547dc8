theorem sx_rule2 {X : sx_X} {own i nL : Nat} {cd : List (Nat × List sx_I)} (hi : i < sx_Ms.length) (hcls : (sx_M i).1.cls = sx_rn own) (hcode : sx_okM own (sx_M i) cd = true) (hn : (sx_M i).2.2.1 = nL) {vs : List sx_V} {sh : sx_H} {σ : sx_S} {R' : sx_R} (hlen : (sx_args vs).length ≤ nL) (cuts : List Nat) (fuel : Nat) (K : Nat → Nat → sx_K)
    (h0 : sx_go (sx_Run X) (sx_cd cd) cuts (fun t L st sh σ => ∃ n, K n t L st sh σ) R' fuel 0 (sx_ent vs nL) [] sh σ)
    (hK : ∀ n t L st σ, K n t L st sh σ → sx_go (sx_Run X) (sx_cd cd) cuts (fun t L st sh σ => ∃ n', n' < n ∧ K n' t L st sh σ) R' fuel t L st sh σ) : sx_Run X i vs sh σ R' := by
  subst hn
  exact sx_rule hi hcls hcode hlen cuts fuel K h0 hK
/-- no loop: nothing is cut -/
theorem sx_rule0 {X : sx_X} {own i nL : Nat} {cd : List (Nat × List sx_I)} (hi : i < sx_Ms.length) (hcls : (sx_M i).1.cls = sx_rn own) (hcode : sx_okM own (sx_M i) cd = true) (hn : (sx_M i).2.2.1 = nL) {vs : List sx_V} {sh : sx_H} {σ : sx_S} {R' : sx_R} (hlen : (sx_args vs).length ≤ nL) (fuel : Nat)
    (h0 : sx_go (sx_Run X) (sx_cd cd) [] (fun _ _ _ _ _ => False) R' fuel 0 (sx_ent vs nL) [] sh σ) : sx_Run X i vs sh σ R' := by
  refine sx_rule2 hi hcls hcode hn hlen [] fuel (fun _ _ _ _ _ _ => False) ?_ (fun n t L st σ h => h.elim)
  have e : (fun t L st sh σ => ∃ n : Nat, (fun (_ : Nat) (_ : Nat) (_ : sx_L) (_ : List sx_V) (_ : sx_H) (_ : sx_S) => False) n t L st sh σ) = (fun (_ : Nat) (_ : sx_L) (_ : List sx_V) (_ : sx_H) (_ : sx_S) => False) := by
    funext t L st sh σ
    simp
  rw [e]
  exact h0
