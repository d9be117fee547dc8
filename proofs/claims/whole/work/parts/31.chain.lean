/-! CHAINS: how often, and whereto, one goes on from x by f until there is none (-1) -/
def fTrl (f : Int → Int) : Nat → Int → Int
  | 0, _ => 0
  | n + 1, x => if x = -1 then 0 else 1 + fTrl f n (f x)
def fItr (f : Int → Int) : Nat → Int → Int
  | 0, x => x
  | n + 1, x => if x = -1 then -1 else fItr f n (f x)
theorem fTrl_no (f : Int → Int) : ∀ n : Nat, fTrl f n (-1) = 0
  | 0 => rfl
  | n + 1 => by show (if (-1 : Int) = -1 then (0 : Int) else _) = 0; rw [if_pos rfl]
theorem fItr_no (f : Int → Int) : ∀ n : Nat, fItr f n (-1) = -1
  | 0 => rfl
  | n + 1 => by show (if (-1 : Int) = -1 then (-1 : Int) else _) = -1; rw [if_pos rfl]
theorem fTrl_s {f : Int → Int} {n x : Int} (hn : 0 < n) (hx : ¬ x = -1) : fTrl f n.toNat x = 1 + fTrl f (n - 1).toNat (f x) := by
  rw [show n.toNat = (n - 1).toNat + 1 by omega]
  show (if x = -1 then (0 : Int) else _) = _
  rw [if_neg hx]
theorem fItr_s {f : Int → Int} {n x : Int} (hn : 0 < n) (hx : ¬ x = -1) : fItr f n.toNat x = fItr f (n - 1).toNat (f x) := by
  rw [show n.toNat = (n - 1).toNat + 1 by omega]
  show (if x = -1 then (-1 : Int) else _) = _
  rw [if_neg hx]
theorem fTrl_bd (f : Int → Int) : ∀ (n : Nat) (x : Int), 0 ≤ fTrl f n x ∧ fTrl f n x ≤ n
  | 0, x => ⟨by simp [fTrl], by simp [fTrl]⟩
  | n + 1, x => by
    have := fTrl_bd f n (f x)
    have e : fTrl f (n + 1) x = if x = -1 then 0 else 1 + fTrl f n (f x) := rfl
    rw [e]
    split <;> omega
theorem fTrl_cg {f g : Int → Int} {P : Int → Prop} (h : ∀ x, P x → f x = g x ∧ (f x = -1 ∨ P (f x))) : ∀ (n : Nat) (x : Int), (x = -1 ∨ P x) → fTrl f n x = fTrl g n x
  | 0, _, _ => rfl
  | n + 1, x, hx => by
    show (if x = -1 then (0 : Int) else 1 + fTrl f n (f x)) = (if x = -1 then (0 : Int) else 1 + fTrl g n (g x))
    by_cases e : x = -1
    · rw [if_pos e, if_pos e]
    · obtain ⟨h1, h2⟩ := h x (hx.resolve_left e)
      rw [if_neg e, if_neg e, fTrl_cg h n (f x) h2, h1]
theorem fItr_cg {f g : Int → Int} {P : Int → Prop} (h : ∀ x, P x → f x = g x ∧ (f x = -1 ∨ P (f x))) : ∀ (n : Nat) (x : Int), (x = -1 ∨ P x) → fItr f n x = fItr g n x
  | 0, _, _ => rfl
  | n + 1, x, hx => by
    show (if x = -1 then (-1 : Int) else fItr f n (f x)) = (if x = -1 then (-1 : Int) else fItr g n (g x))
    by_cases e : x = -1
    · rw [if_pos e, if_pos e]
    · obtain ⟨h1, h2⟩ := h x (hx.resolve_left e)
      rw [if_neg e, if_neg e, fItr_cg h n (f x) h2, h1]
/-- covers: the next one is greater, and there are fewer above it -/
theorem fLst_is {deep cov : Int → Int} {x : Int} : ∀ n : Nat, ¬ fLst deep cov x n = -1 → x < fLst deep cov x n ∧ ∃ i : Int, 0 ≤ i ∧ i < n ∧ 0 < deep i ∧ cov i = fLst deep cov x n
  | 0, h => absurd rfl h
  | n + 1, h => by
    have e : fLst deep cov x (n + 1) = if 0 < deep (n : Int) ∧ x < cov (n : Int) ∧ (fLst deep cov x n = -1 ∨ cov (n : Int) < fLst deep cov x n) then cov (n : Int) else fLst deep cov x n := rfl
    by_cases q : 0 < deep (n : Int) ∧ x < cov (n : Int) ∧ (fLst deep cov x n = -1 ∨ cov (n : Int) < fLst deep cov x n)
    · rw [e, if_pos q]
      exact ⟨q.2.1, n, by omega, by omega, q.1, rfl⟩
    · rw [e, if_neg q] at h ⊢
      obtain ⟨h1, i, h2, h3, h4⟩ := fLst_is n h
      exact ⟨h1, i, h2, by omega, h4⟩
theorem fCnt_mono {b b' : Int → Bool} : ∀ n : Nat, (∀ i : Int, 0 ≤ i → i < n → b i = true → b' i = true) → fCnt b n ≤ fCnt b' n
  | 0, _ => by simp [fCnt]
  | n + 1, h => by
    have ih := fCnt_mono n (fun i a c => h i a (by omega))
    have h1 := h n (by omega) (by omega)
    show fCnt b n + (if b (n : Int) = true then 1 else 0) ≤ fCnt b' n + (if b' (n : Int) = true then 1 else 0)
    by_cases q : b (n : Int) = true
    · rw [if_pos q, if_pos (h1 q)]; omega
    · rw [if_neg q]; split <;> omega
theorem fCnt_less {b b' : Int → Bool} {c : Int} (hc : 0 ≤ c) : ∀ n : Nat, c < n → (∀ i : Int, 0 ≤ i → i < n → b i = true → b' i = true) → b c = false → b' c = true → fCnt b n < fCnt b' n
  | 0, h, _, _, _ => by omega
  | n + 1, h, hi, h1, h2 => by
    show fCnt b n + (if b (n : Int) = true then 1 else 0) < fCnt b' n + (if b' (n : Int) = true then 1 else 0)
    by_cases e : (n : Int) = c
    · have ih := fCnt_mono n (fun i a d => hi i a (by omega))
      rw [e, h1, h2]
      simp
      omega
    · have ih := fCnt_less hc n (by omega) (fun i a d => hi i a (by omega)) h1 h2
      have h3 := hi n (by omega) (by omega)
      by_cases q : b (n : Int) = true
      · rw [if_pos q, if_pos (h3 q)]; omega
      · rw [if_neg q]; split <;> omega
def fAbv (deep cov : Int → Int) (x : Int) (n : Nat) : Int := fCnt (fun i => decide (0 < deep i ∧ x < cov i)) n
theorem fAbv_less {deep cov : Int → Int} {x : Int} {n : Nat} (h : ¬ fLst deep cov x n = -1) : fAbv deep cov (fLst deep cov x n) n < fAbv deep cov x n := by
  obtain ⟨h1, i, h2, h3, h4, h5⟩ := fLst_is n h
  unfold fAbv
  refine fCnt_less h2 n h3 (fun j _ _ hj => ?_) ?_ ?_
  · simp only [decide_eq_true_eq] at hj ⊢
    omega
  · rw [h5]; simp
  · rw [h5]; simp; omega
theorem fAbv_bd (deep cov : Int → Int) (x : Int) (n : Nat) : 0 ≤ fAbv deep cov x n ∧ fAbv deep cov x n ≤ n := fCnt_le _ n
