/-! PURE FUNCTIONS that both sides are held against -/
/-- the greatest place below n with a mark that is open and lies in c; -1 -/
def fTop (cell deep cov : Int → Int) (c : Int) : Nat → Int
  | 0 => -1
  | n + 1 => if 0 < deep (n : Int) ∧ cov (n : Int) = 0 ∧ cell (n : Int) = c then (n : Int) else fTop cell deep cov c n
def fCnt (b : Int → Bool) : Nat → Int
  | 0 => 0
  | n + 1 => fCnt b n + (if b (n : Int) = true then 1 else 0)
/-- the least cover above x of those that last, of the first n; -1 -/
def fLst (deep cov : Int → Int) (x : Int) : Nat → Int
  | 0 => -1
  | n + 1 => if 0 < deep (n : Int) ∧ x < cov (n : Int) ∧ (fLst deep cov x n = -1 ∨ cov (n : Int) < fLst deep cov x n) then cov (n : Int) else fLst deep cov x n
theorem toNat_s {i : Int} (h : 0 ≤ i) : (i + 1).toNat = i.toNat + 1 := by omega
theorem fTop_s {cell deep cov : Int → Int} {c i : Int} (h : 0 ≤ i) : fTop cell deep cov c (i + 1).toNat = if 0 < deep i ∧ cov i = 0 ∧ cell i = c then i else fTop cell deep cov c i.toNat := by
  rw [toNat_s h]
  show (if 0 < deep (i.toNat : Int) ∧ cov (i.toNat : Int) = 0 ∧ cell (i.toNat : Int) = c then (i.toNat : Int) else _) = _
  rw [Int.toNat_of_nonneg h]
theorem fCnt_s {b : Int → Bool} {i : Int} (h : 0 ≤ i) : fCnt b (i + 1).toNat = fCnt b i.toNat + (if b i = true then 1 else 0) := by
  rw [toNat_s h]
  show _ + (if b (i.toNat : Int) = true then 1 else 0) = _
  rw [Int.toNat_of_nonneg h]
theorem fCnt_le (b : Int → Bool) : ∀ n : Nat, 0 ≤ fCnt b n ∧ fCnt b n ≤ n
  | 0 => ⟨by simp [fCnt], by simp [fCnt]⟩
  | n + 1 => by
    have := fCnt_le b n
    show 0 ≤ fCnt b n + _ ∧ fCnt b n + _ ≤ _
    split <;> omega
theorem fLst_s {deep cov : Int → Int} {x i : Int} (h : 0 ≤ i) : fLst deep cov x (i + 1).toNat = if 0 < deep i ∧ x < cov i ∧ (fLst deep cov x i.toNat = -1 ∨ cov i < fLst deep cov x i.toNat) then cov i else fLst deep cov x i.toNat := by
  rw [toNat_s h]
  show (if 0 < deep (i.toNat : Int) ∧ x < cov (i.toNat : Int) ∧ (_ ∨ cov (i.toNat : Int) < _) then cov (i.toNat : Int) else _) = _
  rw [Int.toNat_of_nonneg h]
theorem fTop_lt (cell deep cov : Int → Int) (c : Int) : ∀ n : Nat, -1 ≤ fTop cell deep cov c n ∧ fTop cell deep cov c n < n
  | 0 => ⟨by simp [fTop], by simp [fTop]⟩
  | n + 1 => by
    have := fTop_lt cell deep cov c n
    show -1 ≤ (if _ then (n : Int) else fTop cell deep cov c n) ∧ (if _ then (n : Int) else fTop cell deep cov c n) < _
    split <;> omega
/-- what is read is open and lies there -/
theorem fTop_is {cell deep cov : Int → Int} {c : Int} : ∀ n : Nat, 0 ≤ fTop cell deep cov c n → 0 < deep (fTop cell deep cov c n) ∧ cov (fTop cell deep cov c n) = 0 ∧ cell (fTop cell deep cov c n) = c
  | 0, h => by simp [fTop] at h
  | n + 1, h => by
    have e : fTop cell deep cov c (n + 1) = if 0 < deep (n : Int) ∧ cov (n : Int) = 0 ∧ cell (n : Int) = c then (n : Int) else fTop cell deep cov c n := rfl
    by_cases q : 0 < deep (n : Int) ∧ cov (n : Int) = 0 ∧ cell (n : Int) = c
    · rw [e, if_pos q]; exact q
    · rw [e, if_neg q] at h ⊢
      exact fTop_is n h
theorem fTop_cg {cell deep cov cell' deep' cov' : Int → Int} {c : Int} : ∀ {n : Nat}, (∀ i : Int, 0 ≤ i → i < n → cell i = cell' i ∧ deep i = deep' i ∧ cov i = cov' i) → fTop cell deep cov c n = fTop cell' deep' cov' c n
  | 0, _ => rfl
  | n + 1, h => by
    obtain ⟨h1, h2, h3⟩ := h n (by omega) (by omega)
    show (if _ then _ else _) = (if _ then _ else _)
    rw [h1, h2, h3, fTop_cg (n := n) (fun i a b => h i a (by omega))]
theorem fCnt_cg {b b' : Int → Bool} : ∀ {n : Nat}, (∀ i : Int, 0 ≤ i → i < n → b i = b' i) → fCnt b n = fCnt b' n
  | 0, _ => rfl
  | n + 1, h => by
    show fCnt b n + _ = fCnt b' n + _
    rw [h n (by omega) (by omega), fCnt_cg (n := n) (fun i a c => h i a (by omega))]
theorem fLst_cg {deep cov deep' cov' : Int → Int} {x : Int} : ∀ {n : Nat}, (∀ i : Int, 0 ≤ i → i < n → deep i = deep' i ∧ cov i = cov' i) → fLst deep cov x n = fLst deep' cov' x n
  | 0, _ => rfl
  | n + 1, h => by
    obtain ⟨h2, h3⟩ := h n (by omega) (by omega)
    show (if _ then _ else _) = (if _ then _ else _)
    rw [h2, h3, fLst_cg (n := n) (fun i a b => h i a (by omega))]
