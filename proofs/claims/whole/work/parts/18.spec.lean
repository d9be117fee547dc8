/-! PURE FUNCTIONS that both sides are held against -/
/-- the greatest place below n with a mark that is open and lies in c; -1 -/
def fTop (cell deep cov : Int → Int) (c : Int) : Nat → Int
  | 0 => -1
  | n + 1 => if 0 < deep (n : Int) ∧ cov (n : Int) = 0 ∧ cell (n : Int) = c then (n : Int) else fTop cell deep cov c n
def fCnt (b : Int → Bool) : Nat → Int
  | 0 => 0
  | n + 1 => fCnt b n + (if b (n : Int) = true then 1 else 0)
/-- the least cover above x of those that last, of the first n; -1 -/
def fLst (deep cov : Int → Int) (x : Int) : Nat → Int
  | 0 => -1
  | n + 1 => if 0 < deep (n : Int) ∧ x < cov (n : Int) ∧ (fLst deep cov x n = -1 ∨ cov (n : Int) < fLst deep cov x n) then cov (n : Int) else fLst deep cov x n
theorem toNat_s {i : Int} (h : 0 ≤ i) : (i + 1).toNat = i.toNat + 1 := by omega
theorem fTop_s {cell deep cov : Int → Int} {c i : Int} (h : 0 ≤ i) : fTop cell deep cov c (i + 1).toNat = if 0 < deep i ∧ cov i = 0 ∧ cell i = c then i else fTop cell deep cov c i.toNat := by
  rw [toNat_s h]
  show (if 0 < deep (i.toNat : Int) ∧ cov (i.toNat : Int) = 0 ∧ cell (i.toNat : Int) = c then (i.toNat : Int) else _) = _
  rw [Int.toNat_of_nonneg h]
theorem fCnt_s {b : Int → Bool} {i : Int} (h : 0 ≤ i) : fCnt b (i + 1).toNat = fCnt b i.toNat + (if b i = true then 1 else 0) := by
  rw [toNat_s h]
  show _ + (if b (i.toNat : Int) = true then 1 else 0) = _
  rw [Int.toNat_of_nonneg h]
theorem fCnt_le (b : Int → Bool) : ∀ n : Nat, 0 ≤ fCnt b n ∧ fCnt b n ≤ n
  | 0 => ⟨by simp [fCnt], by simp [fCnt]⟩
  | n + 1 => by
    have := fCnt_le b n
    show 0 ≤ fCnt b n + _ ∧ fCnt b n + _ ≤ _
    split <;> omega
theorem fLst_s {deep cov : Int → Int} {x i : Int} (h : 0 ≤ i) : fLst deep cov x (i + 1).toNat = if 0 < deep i ∧ x < cov i ∧ (fLst deep cov x i.toNat = -1 ∨ cov i < fLst deep cov x i.toNat) then cov i else fLst deep cov x i.toNat := by
  rw [toNat_s h]
  show (if 0 < deep (i.toNat : Int) ∧ x < cov (i.toNat : Int) ∧ (_ ∨ cov (i.toNat : Int) < _) then cov (i.toNat : Int) else _) = _
  rw [Int.toNat_of_nonneg h]
theorem fTop_lt (cell deep cov : Int → Int) (c : Int) : ∀ n : Nat, -1 ≤ fTop cell deep cov c n ∧ fTop cell deep cov c n < n
  | 0 => ⟨by simp [fTop], by simp [fTop]⟩
  | n + 1 => by
    have := fTop_lt cell deep cov c n
    show -1 ≤ (if _ then (n : Int) else fTop cell deep cov c n) ∧ (if _ then (n : Int) else fTop cell deep cov c n) < _
    split <;> omega
/-- what is read is open and lies there -/
theorem fTop_is {cell deep cov : Int → Int} {c : Int} : ∀ n : Nat, 0 ≤ fTop cell deep cov c n → 0 < deep (fTop cell deep cov c n) ∧ cov (fTop cell deep cov c n) = 0 ∧ cell (fTop cell deep cov c n) = c
  | 0, h => by simp [fTop] at h
  | n + 1, h => by
    have e : fTop cell deep cov c (n + 1) = if 0 < deep (n : Int) ∧ cov (n : Int) = 0 ∧ cell (n : Int) = c then (n : Int) else fTop cell deep cov c n := rfl
    by_cases q : 0 < deep (n : Int) ∧ cov (n : Int) = 0 ∧ cell (n : Int) = c
    · rw [e, if_pos q]; exact q
    · rw [e, if_neg q] at h ⊢
      exact fTop_is n h
theorem fTop_cg {cell deep cov cell' deep' cov' : Int → Int} {c : Int} : ∀ {n : Nat}, (∀ i : Int, 0 ≤ i → i < n → cell i = cell' i ∧ deep i = deep' i ∧ cov i = cov' i) → fTop cell deep cov c n = fTop cell' deep' cov' c n
  | 0, _ => rfl
  | n + 1, h => by
    obtain ⟨h1, h2, h3⟩ := h n (by omega) (by omega)
    show (if _ then _ else _) = (if _ then _ else _)
    rw [h1, h2, h3, fTop_cg (n := n) (fun i a b => h i a (by omega))]
theorem fCnt_cg {b b' : Int → Bool} : ∀ {n : Nat}, (∀ i : Int, 0 ≤ i → i < n → b i = b' i) → fCnt b n = fCnt b' n
  | 0, _ => rfl
  | n + 1, h => by
    show fCnt b n + _ = fCnt b' n + _
    rw [h n (by omega) (by omega), fCnt_cg (n := n) (fun i a c => h i a (by omega))]
theorem fLst_cg {deep cov deep' cov' : Int → Int} {x : Int} : ∀ {n : Nat}, (∀ i : Int, 0 ≤ i → i < n → deep i = deep' i ∧ cov i = cov' i) → fLst deep cov x n = fLst deep' cov' x n
  | 0, _ => rfl
  | n + 1, h => by
    obtain ⟨h2, h3⟩ := h n (by omega) (by omega)
    show (if _ then _ else _) = (if _ then _ else _)
    rw [h2, h3, fLst_cg (n := n) (fun i a b => h i a (by omega))]
/-- the first place below n where row has x; -1 -/
def fFind (row : Int → Int) (x : Int) : Nat → Int
  | 0 => -1
  | n + 1 => if fFind row x n = -1 then (if row (n : Int) = x then (n : Int) else -1) else fFind row x n
theorem fFind_s {row : Int → Int} {x i : Int} (h : 0 ≤ i) : fFind row x (i + 1).toNat = if fFind row x i.toNat = -1 then (if row i = x then i else -1) else fFind row x i.toNat := by
  rw [toNat_s h]
  show (if _ then (if row (i.toNat : Int) = x then (i.toNat : Int) else -1) else _) = _
  rw [Int.toNat_of_nonneg h]
theorem fFind_lt (row : Int → Int) (x : Int) : ∀ n : Nat, -1 ≤ fFind row x n ∧ fFind row x n < n
  | 0 => ⟨by simp [fFind], by simp [fFind]⟩
  | n + 1 => by
    have := fFind_lt row x n
    show -1 ≤ (if _ then (if _ then (n : Int) else -1) else fFind row x n) ∧ (if _ then (if _ then (n : Int) else -1) else fFind row x n) < _
    split
    · split <;> omega
    · omega
/-- once found it stays -/
theorem fFind_keep {row : Int → Int} {x : Int} {m : Nat} (hm : fFind row x m ≠ -1) : ∀ n : Nat, m ≤ n → fFind row x n = fFind row x m := by
  intro n h
  induction n with
  | zero => rw [show m = 0 by omega]
  | succ n ih =>
    by_cases e : m = n + 1
    · rw [e]
    · have h1 := ih (by omega)
      show (if fFind row x n = -1 then _ else _) = _
      rw [h1, if_neg hm]
theorem fFind_hit {row : Int → Int} {x i : Int} {n : Nat} (h0 : 0 ≤ i) (hn : i < n) (hi : fFind row x i.toNat = -1) (hx : row i = x) : fFind row x n = i := by
  have h1 : fFind row x (i + 1).toNat = i := by rw [fFind_s h0, if_pos hi, if_pos hx]
  rw [fFind_keep (m := (i + 1).toNat) (by rw [h1]; omega) n (by omega), h1]
theorem fFind_cg {row row' : Int → Int} {x : Int} : ∀ {n : Nat}, (∀ i : Int, 0 ≤ i → i < n → row i = row' i) → fFind row x n = fFind row' x n
  | 0, _ => rfl
  | n + 1, h => by
    show (if _ then (if row (n : Int) = x then _ else _) else _) = (if _ then (if row' (n : Int) = x then _ else _) else _)
    rw [h n (by omega) (by omega), fFind_cg (n := n) (fun i a c => h i a (by omega))]
/-- the field's size -/
def PD (σ : sx_S) (p : Int) : Prop := 1 ≤ σ p 0 ∧ σ p 0 ≤ 8 ∧ 1 ≤ σ p 1 ∧ σ p 1 ≤ 6
theorem mul_bd {x y a b : Int} (h0 : 0 ≤ x) (hx : x ≤ a) (h1 : 0 ≤ y) (hy : y ≤ b) : 0 ≤ x * y ∧ x * y ≤ a * b := ⟨Int.mul_nonneg h0 h1, Int.mul_le_mul hx hy h1 (by omega)⟩
theorem wh_bd {w h : Int} (a : 1 ≤ w ∧ w ≤ 8 ∧ 1 ≤ h ∧ h ≤ 6) : 1 ≤ w * h ∧ w * h ≤ 48 := by
  have h1 := mul_bd (x := w) (y := h) (a := 8) (b := 6) (by omega) (by omega) (by omega) (by omega)
  have h2 : 1 * 1 ≤ w * h := Int.mul_le_mul a.1 a.2.2.1 (by omega) (by omega)
  omega
theorem PD.mul {σ : sx_S} {p : Int} (h : PD σ p) : 1 ≤ σ p 0 * σ p 1 ∧ σ p 0 * σ p 1 ≤ 48 := wh_bd h
/-- column and row -/
theorem tm_bd {c w : Int} (h0 : 0 ≤ c) (hw : 0 < w) : 0 ≤ c.tmod w ∧ c.tmod w < w ∧ 0 ≤ c.tdiv w ∧ c.tdiv w ≤ c := by
  refine ⟨Int.tmod_nonneg w h0, Int.tmod_lt_of_pos c hw, Int.tdiv_nonneg h0 (by omega), ?_⟩
  have := Int.tdiv_le_self w h0
  omega
theorem td_bd {c w h : Int} (h0 : 0 ≤ c) (hw : 0 < w) (hc : c < w * h) : c.tdiv w < h := by
  rw [Int.tdiv_eq_ediv_of_nonneg h0]
  exact Int.ediv_lt_of_lt_mul hw (by rw [Int.mul_comm]; exact hc)
def fDx (way : Int) : Int := if way = 1 then 1 else if way = 3 then -1 else 0
def fDy (way : Int) : Int := if way = 2 then 1 else if way = 0 then -1 else 0
/-- the cell beside c by a way; -1 -/
def fBes (w h c way : Int) : Int := if 0 ≤ c.tmod w + fDx way ∧ c.tmod w + fDx way < w ∧ 0 ≤ c.tdiv w + fDy way ∧ c.tdiv w + fDy way < h then (c.tdiv w + fDy way) * w + (c.tmod w + fDx way) else -1
theorem yx_bd {w h x y : Int} (hx : 0 ≤ x ∧ x < w) (hy : 0 ≤ y ∧ y < h) : 0 ≤ y * w + x ∧ y * w + x < w * h ∧ 0 ≤ y * w := by
  have h1 : 0 ≤ y * w := Int.mul_nonneg hy.1 (by omega)
  have h2 : y * w ≤ (h - 1) * w := Int.mul_le_mul_of_nonneg_right (by omega) (by omega)
  have h3 : (h - 1) * w = w * h - w := by rw [Int.sub_mul, Int.mul_comm h w, Int.one_mul]
  omega
theorem fBes_bd (w h c way : Int) : -1 ≤ fBes w h c way ∧ (fBes w h c way = -1 ∨ 0 ≤ fBes w h c way) ∧ fBes w h c way < (if 0 ≤ fBes w h c way then w * h else 0) := by
  unfold fBes
  by_cases q : 0 ≤ c.tmod w + fDx way ∧ c.tmod w + fDx way < w ∧ 0 ≤ c.tdiv w + fDy way ∧ c.tdiv w + fDy way < h
  · rw [if_pos q]
    have := yx_bd (w := w) (h := h) ⟨q.1, q.2.1⟩ ⟨q.2.2.1, q.2.2.2⟩
    rw [if_pos this.1]
    omega
  · rw [if_neg q]; simp
def fAbs (x : Int) : Int := if 0 < x then x else -x
/-- how far two cells are apart -/
def fFar (w a b : Int) : Int := fAbs (a.tmod w - b.tmod w) + fAbs (a.tdiv w - b.tdiv w)
theorem fFar_bd {w a b : Int} (ha : 0 ≤ a ∧ a < 48) (hb : 0 ≤ b ∧ b < 48) (hw : 1 ≤ w ∧ w ≤ 8) : 0 ≤ fFar w a b ∧ fFar w a b ≤ 55 := by
  have h1 := tm_bd ha.1 (show 0 < w by omega)
  have h2 := tm_bd hb.1 (show 0 < w by omega)
  unfold fFar fAbs
  split <;> split <;> omega
/-- 100 to the n -/
def fPow : Nat → Int
  | 0 => 1
  | n + 1 => fPow n * 100
theorem fPow_s {i : Int} (h : 0 ≤ i) : fPow (i + 1).toNat = fPow i.toNat * 100 := by rw [toNat_s h]; rfl
theorem fPow_4 {i : Int} (h0 : 0 ≤ i) (h4 : i ≤ 4) : 1 ≤ fPow i.toNat ∧ fPow i.toNat ≤ 100000000 := by
  have : i = 0 ∨ i = 1 ∨ i = 2 ∨ i = 3 ∨ i = 4 := by omega
  rcases this with rfl | rfl | rfl | rfl | rfl <;> decide
theorem fPow_3 {i : Int} (h0 : 0 ≤ i) (h4 : i < 4) : fPow i.toNat ≤ 1000000 := by
  have : i = 0 ∨ i = 1 ∨ i = 2 ∨ i = 3 := by omega
  rcases this with rfl | rfl | rfl | rfl <;> decide
def fOdd (row : Int → Int) (h : Int) : Int := if 0 ≤ h ∧ h < 24 then 100 - row h else 100
/-- that it stays dry n hours from h on, of 100 to the n -/
def fDry (row : Int → Int) (h : Int) : Nat → Int
  | 0 => 1
  | n + 1 => fDry row h n * fOdd row (h + n)
theorem fDry_s {row : Int → Int} {h i : Int} (h0 : 0 ≤ i) : fDry row h (i + 1).toNat = fDry row h i.toNat * fOdd row (h + i) := by
  rw [toNat_s h0]
  show _ * fOdd row (h + (i.toNat : Int)) = _
  rw [Int.toNat_of_nonneg h0]
theorem fOdd_bd {row : Int → Int} (hr : ∀ i : Int, 0 ≤ i → i < 24 → 0 ≤ row i ∧ row i ≤ 100) (h : Int) : 0 ≤ fOdd row h ∧ fOdd row h ≤ 100 := by
  unfold fOdd
  split
  · rename_i q
    have := hr h q.1 q.2
    omega
  · omega
theorem fDry_bd {row : Int → Int} (hr : ∀ i : Int, 0 ≤ i → i < 24 → 0 ≤ row i ∧ row i ≤ 100) (h : Int) : ∀ n : Nat, 0 ≤ fDry row h n ∧ fDry row h n ≤ fPow n
  | 0 => ⟨by simp [fDry], by simp [fDry, fPow]⟩
  | n + 1 => by
    have h1 := fDry_bd hr h n
    have h2 := fOdd_bd hr (h + n)
    exact mul_bd h1.1 h1.2 h2.1 h2.2
theorem r32_yw {y w h : Int} (h0 : 0 ≤ y) (h1 : y < h) (hw : w * h ≤ 48) (h2 : 1 ≤ w) : sx_r32 (y * w) := by
  have := yx_bd (w := w) (h := h) (x := 0) (y := y) ⟨by omega, by omega⟩ ⟨h0, h1⟩
  exact ⟨by omega, by omega⟩
theorem r32_yx {y w h x : Int} (h0 : 0 ≤ y) (h1 : y < h) (hw : w * h ≤ 48) (h2 : 0 ≤ x) (h3 : x < w) : sx_r32 (y * w + x) := by
  have := yx_bd (w := w) (h := h) (x := x) (y := y) ⟨by omega, by omega⟩ ⟨h0, h1⟩
  exact ⟨by omega, by omega⟩
theorem r32_wy {y w h : Int} (h0 : 0 ≤ y) (h1 : y < h) (hw : w * h ≤ 48) (h2 : 1 ≤ w) : sx_r32 (w * y) := by rw [Int.mul_comm]; exact r32_yw h0 h1 hw h2
theorem r32_wyx {y w h x : Int} (h0 : 0 ≤ y) (h1 : y < h) (hw : w * h ≤ 48) (h2 : 0 ≤ x) (h3 : x < w) : sx_r32 (w * y + x) := by rw [Int.mul_comm]; exact r32_yx h0 h1 hw h2 h3
theorem q_to {Q : sx_R} {sh : sx_H} {σ : sx_S} {x y : Int} (h : Q (some (.inl x)) sh σ) (e : x = y) : Q (some (.inl y)) sh σ := e ▸ h
theorem q_toJ {Q : sx_R} {sh : sx_H} {σ : sx_S} {x y : Int} (h : Q (some (.inr (.inl x))) sh σ) (e : x = y) : Q (some (.inr (.inl y))) sh σ := e ▸ h
def fCov (row : Int → Int) (h : Int) (k : Nat) : Int := fPow k - fDry row h k
theorem fCov_bd {row : Int → Int} (hr : ∀ i : Int, 0 ≤ i → i < 24 → 0 ≤ row i ∧ row i ≤ 100) (h : Int) {k : Int} (h0 : 0 ≤ k) (h4 : k ≤ 4) : 0 ≤ fCov row h k.toNat ∧ fCov row h k.toNat ≤ 100000000 := by
  have h1 := fDry_bd hr h k.toNat
  have h2 := fPow_4 h0 h4
  unfold fCov
  omega
def fGain (row : Int → Int) (own other : Int) : Int := if other < own then (fCov row own 2).tdiv 2 else fCov row own 2
theorem tdiv2_bd {x : Int} (h : 0 ≤ x) : 0 ≤ x.tdiv 2 ∧ x.tdiv 2 ≤ x := ⟨Int.tdiv_nonneg h (by omega), by have := Int.tdiv_le_self 2 h; omega⟩
/-- a rest of two who wait: no other hour of n from h on is better for either -/
def fRst (row : Int → Int) (a b h : Int) : Nat → Bool
  | 0 => true
  | n + 1 => fRst row a b h n && (decide (fGain row (h + n) b ≤ fGain row a b) && decide (fGain row (h + n) a ≤ fGain row b a))
theorem fRst_s {row : Int → Int} {a b h i : Int} (h0 : 0 ≤ i) : fRst row a b h (i + 1).toNat = (fRst row a b h i.toNat && (decide (fGain row (h + i) b ≤ fGain row a b) && decide (fGain row (h + i) a ≤ fGain row b a))) := by
  rw [toNat_s h0]
  show (_ && (decide (fGain row (h + (i.toNat : Int)) b ≤ _) && decide (fGain row (h + (i.toNat : Int)) a ≤ _))) = _
  rw [Int.toNat_of_nonneg h0]
theorem fRst_no {row : Int → Int} {a b h : Int} {m : Nat} (hm : fRst row a b h m = false) : ∀ n : Nat, m ≤ n → fRst row a b h n = false := by
  intro n hn
  induction n with
  | zero => rw [show 0 = m by omega]; exact hm
  | succ n ih =>
    by_cases e : m = n + 1
    · rw [← e]; exact hm
    · show (fRst row a b h n && _) = false
      rw [ih (by omega)]
      rfl
theorem fDry_cg {row row' : Int → Int} (hr : ∀ i : Int, 0 ≤ i → i < 24 → row i = row' i) (h : Int) : ∀ n : Nat, fDry row h n = fDry row' h n
  | 0 => rfl
  | n + 1 => by
    show fDry row h n * fOdd row (h + n) = fDry row' h n * fOdd row' (h + n)
    rw [fDry_cg hr h n]
    unfold fOdd
    by_cases q : 0 ≤ h + (n : Int) ∧ h + (n : Int) < 24
    · rw [if_pos q, if_pos q, hr _ q.1 q.2]
    · rw [if_neg q, if_neg q]
/-- the greatest common divisor -/
def fGcd (a b : Int) : Int := ((Nat.gcd a.toNat b.toNat : Nat) : Int)
theorem fGcd_s {a b : Int} (ha : 0 ≤ a) (hb : 0 < b) : fGcd a b = fGcd b (a.tmod b) := by
  unfold fGcd
  rw [Int.tmod_eq_emod_of_nonneg ha]
  have : (a % b).toNat = a.toNat % b.toNat := Int.toNat_emod ha (by omega)
  rw [this, Nat.gcd_comm, Nat.gcd_rec, Nat.gcd_comm]
theorem fGcd_0 {a : Int} (ha : 0 ≤ a) : fGcd a 0 = a := by
  unfold fGcd
  simp [Int.toNat_of_nonneg ha]
theorem fGcd_pos {a b : Int} (hb : 0 < b) : 1 ≤ fGcd a b := by
  unfold fGcd
  have : 0 < Nat.gcd a.toNat b.toNat := Nat.gcd_pos_of_pos_right _ (by omega)
  omega
/-- half the product falls away at each turn -/
theorem euc_half {a b : Int} (hb : 0 < b) (hab : b ≤ a) : 2 * (b * a.tmod b) ≤ a * b := by
  have h1 : a.tmod b = a % b := Int.tmod_eq_emod_of_nonneg (by omega)
  have h2 := Int.emod_nonneg a (show b ≠ 0 by omega)
  have h3 := Int.emod_lt_of_pos a hb
  have h4 := Int.emod_add_mul_ediv a b
  have h5 : 1 ≤ a / b := by
    have := Int.ediv_le_ediv hb hab
    rw [Int.ediv_self (by omega)] at this
    exact this
  have h6 : b * 1 ≤ b * (a / b) := Int.mul_le_mul_of_nonneg_left h5 (by omega)
  have h7 : 2 * a.tmod b ≤ a := by rw [h1]; omega
  have h8 : b * (2 * a.tmod b) ≤ b * a := Int.mul_le_mul_of_nonneg_left h7 (by omega)
  rw [Int.mul_comm a b, show 2 * (b * a.tmod b) = b * (2 * a.tmod b) by rw [← Int.mul_assoc, Int.mul_comm 2 b, Int.mul_assoc]]
  exact h8
/-- the first of f 0, f 1 .. below n that isn't -1; -1 -/
def fSe (f : Int → Int) : Nat → Int
  | 0 => -1
  | n + 1 => if fSe f n = -1 then f (n : Int) else fSe f n
theorem fSe_s {f : Int → Int} {i : Int} (h : 0 ≤ i) : fSe f (i + 1).toNat = if fSe f i.toNat = -1 then f i else fSe f i.toNat := by
  rw [toNat_s h]
  show (if _ then f (i.toNat : Int) else _) = _
  rw [Int.toNat_of_nonneg h]
theorem fSe_keep {f : Int → Int} {m : Nat} (hm : fSe f m ≠ -1) : ∀ n : Nat, m ≤ n → fSe f n = fSe f m := by
  intro n h
  induction n with
  | zero => rw [show m = 0 by omega]
  | succ n ih =>
    by_cases e : m = n + 1
    · rw [e]
    · have h1 := ih (by omega)
      show (if fSe f n = -1 then _ else _) = _
      rw [h1, if_neg hm]
theorem fSe_hit {f : Int → Int} {i : Int} {n : Nat} (h0 : 0 ≤ i) (hn : i < n) (hi : fSe f i.toNat = -1) (hx : f i ≠ -1) : fSe f n = f i := by
  have h1 : fSe f (i + 1).toNat = f i := by rw [fSe_s h0, if_pos hi]
  rw [fSe_keep (m := (i + 1).toNat) (by rw [h1]; exact hx) n (by omega), h1]
theorem fSe_no {f : Int → Int} {i : Int} (h0 : 0 ≤ i) (hi : fSe f i.toNat = -1) (hx : f i = -1) : fSe f (i + 1).toNat = -1 := by rw [fSe_s h0, if_pos hi, hx]
theorem fSe_cg {f f' : Int → Int} : ∀ {n : Nat}, (∀ i : Int, 0 ≤ i → i < n → f i = f' i) → fSe f n = fSe f' n
  | 0, _ => rfl
  | n + 1, h => by
    show (if _ then _ else _) = (if _ then _ else _)
    rw [h n (by omega) (by omega), fSe_cg (n := n) (fun i a c => h i a (by omega))]
/-- rests of two who wait: how many in one's row, in all rows; which one -/
def fIn (row : Int → Int) (h : Int) (n : Nat) (a : Int) (m : Nat) : Int := fCnt (fun j => fRst row a (h + j) h n) m
def fOut (row : Int → Int) (h : Int) (n : Nat) : Nat → Int
  | 0 => 0
  | m + 1 => fOut row h n m + fIn row h n (h + m) n
theorem fOut_s {row : Int → Int} {h : Int} {n : Nat} {i : Int} (h0 : 0 ≤ i) : fOut row h n (i + 1).toNat = fOut row h n i.toNat + fIn row h n (h + i) n := by
  rw [toNat_s h0]
  show _ + fIn row h n (h + (i.toNat : Int)) n = _
  rw [Int.toNat_of_nonneg h0]
theorem fIn_s {row : Int → Int} {h : Int} {n : Nat} {a i : Int} (h0 : 0 ≤ i) : fIn row h n a (i + 1).toNat = fIn row h n a i.toNat + (if fRst row a (h + i) h n = true then 1 else 0) := fCnt_s h0
theorem fIn_bd (row : Int → Int) (h : Int) (n : Nat) (a : Int) (m : Nat) : 0 ≤ fIn row h n a m ∧ fIn row h n a m ≤ m := fCnt_le _ m
theorem fOut_bd (row : Int → Int) (h : Int) {n : Nat} (hn : n ≤ 6) : ∀ m : Nat, 0 ≤ fOut row h n m ∧ fOut row h n m ≤ 6 * m
  | 0 => ⟨by simp [fOut], by simp [fOut]⟩
  | m + 1 => by
    have h1 := fOut_bd row h hn m
    have h2 := fIn_bd row h n (h + m) n
    show 0 ≤ fOut row h n m + _ ∧ fOut row h n m + _ ≤ _
    omega
def fKi (row : Int → Int) (h : Int) (n : Nat) (k a : Int) : Int → Int := fun j => if fRst row a (h + j) h n = true ∧ fOut row h n (a - h).toNat + fIn row h n a j.toNat = k then 100 * a + (h + j) else -1
def fKo (row : Int → Int) (h : Int) (n : Nat) (k : Int) : Int → Int := fun i => fSe (fKi row h n k (h + i)) n
def fBst (row : Int → Int) (k : Nat) (a : Int) : Nat → Int
  | 0 => a
  | n + 1 => if fCov row (fBst row k a n) k < fCov row (a + 1 + n) k then a + 1 + n else fBst row k a n
theorem fBst_s {row : Int → Int} {k : Nat} {a i : Int} (h0 : 0 ≤ i) : fBst row k a (i + 1).toNat = if fCov row (fBst row k a i.toNat) k < fCov row (a + 1 + i) k then a + 1 + i else fBst row k a i.toNat := by
  rw [toNat_s h0]
  show (if _ < fCov row (a + 1 + (i.toNat : Int)) k then a + 1 + (i.toNat : Int) else _) = _
  rw [Int.toNat_of_nonneg h0]
theorem fBst_bd (row : Int → Int) (k : Nat) (a : Int) : ∀ n : Nat, a ≤ fBst row k a n ∧ fBst row k a n ≤ a + n
  | 0 => ⟨by simp [fBst], by simp [fBst]⟩
  | n + 1 => by
    have h1 := fBst_bd row k a n
    have e : fBst row k a (n + 1) = if fCov row (fBst row k a n) k < fCov row (a + 1 + n) k then a + 1 + n else fBst row k a n := rfl
    rw [e]
    split <;> omega
/-- the answers -/
def aCovered (row : Int → Int) (h k what : Int) : Int := if 0 ≤ h ∧ h < 24 ∧ 1 ≤ k ∧ k ≤ 4 ∧ 0 ≤ what ∧ what ≤ 1 then (if what = 0 then fCov row h k.toNat else fPow k.toNat).tdiv (fGcd (fCov row h k.toNat) (fPow k.toNat)) else -1
def aBest (row : Int → Int) (a b k : Int) : Int := if 0 ≤ a ∧ a ≤ b ∧ b < 24 ∧ 1 ≤ k ∧ k ≤ 4 then fBst row k.toNat a (b - a).toNat else -1
def aRests (row : Int → Int) (h n : Int) : Int := if 0 ≤ h ∧ h < 24 ∧ 1 ≤ n ∧ n ≤ 6 ∧ h + n ≤ 24 then fOut row h n.toNat n.toNat else -1
def aRest (row : Int → Int) (h n k : Int) : Int := if 0 ≤ h ∧ h < 24 ∧ 1 ≤ n ∧ n ≤ 6 ∧ h + n ≤ 24 ∧ 0 ≤ k then (if fSe (fKo row h n.toNat k) n.toNat = -1 then -2 else fSe (fKo row h n.toNat k) n.toNat) else -1
theorem tdg_bd {x g : Int} (h : 0 ≤ x) (hg : 1 ≤ g) : 0 ≤ x.tdiv g ∧ x.tdiv g ≤ x := ⟨Int.tdiv_nonneg h (by omega), by have := Int.tdiv_le_self g h; omega⟩
/-- the first n places of a row written anew -/
def sx_mp (σ : sx_S) (a n : Int) (f : Int → Int) : sx_S := fun a' i => if a' = a ∧ 0 ≤ i ∧ i < n then f i else σ a' i
theorem mp_a {σ : sx_S} {a n b j : Int} {f : Int → Int} (h : ¬ b = a) : sx_mp σ a n f b j = σ b j := by unfold sx_mp; rw [if_neg (fun z => h z.1)]
theorem mp_ge {σ : sx_S} {a n j : Int} {f : Int → Int} (h : n ≤ j) : sx_mp σ a n f a j = σ a j := by unfold sx_mp; rw [if_neg (fun z => by omega)]
theorem mp_in {σ : sx_S} {a n j : Int} {f : Int → Int} (h0 : 0 ≤ j) (h : j < n) : sx_mp σ a n f a j = f j := by unfold sx_mp; rw [if_pos ⟨rfl, h0, h⟩]
theorem mp_0 (σ : sx_S) (a : Int) (f : Int → Int) : sx_mp σ a 0 f = σ := by
  funext a' i
  unfold sx_mp
  rw [if_neg (by omega)]
theorem mp_s {σ : sx_S} {a i v : Int} {f : Int → Int} (h : 0 ≤ i) (hv : v = f i) : sx_up (sx_mp σ a i f) a i v = sx_mp σ a (i + 1) f := by
  funext a' j
  unfold sx_up sx_mp
  by_cases e : a' = a
  · by_cases e2 : j = i
    · rw [if_pos ⟨e, e2⟩, if_pos ⟨e, by omega, by omega⟩, e2, hv]
    · rw [if_neg (fun z => e2 z.2)]
      by_cases e3 : 0 ≤ j ∧ j < i
      · rw [if_pos ⟨e, e3⟩, if_pos ⟨e, by omega, by omega⟩]
      · rw [if_neg (fun z => e3 z.2), if_neg (fun z => e3 ⟨by omega, by omega⟩)]
  · rw [if_neg (fun z => e z.1), if_neg (fun z => e z.1), if_neg (fun z => e z.1)]
theorem mp_n {σ : sx_S} {a i : Int} {f : Int → Int} (h : 0 ≤ i) (hv : σ a i = f i) : sx_mp σ a i f = sx_mp σ a (i + 1) f := by
  funext a' j
  unfold sx_mp
  by_cases e : a' = a
  · by_cases e2 : j = i
    · rw [if_neg (by omega), if_pos ⟨e, by omega, by omega⟩, e, e2, hv]
    · by_cases e3 : 0 ≤ j ∧ j < i
      · rw [if_pos ⟨e, e3⟩, if_pos ⟨e, by omega, by omega⟩]
      · rw [if_neg (fun z => e3 z.2), if_neg (fun z => e3 ⟨by omega, by omega⟩)]
  · rw [if_neg (fun z => e z.1), if_neg (fun z => e z.1)]
theorem cp_a {σ : sx_S} {a i b j n d k : Int} (h : ¬ d = b) : sx_cp σ a i b j n d k = σ d k := by unfold sx_cp; rw [if_neg (fun z => h z.1)]
theorem cp_in {σ : sx_S} {a b n k : Int} (h0 : 0 ≤ k) (h1 : k < n) : sx_cp σ a 0 b 0 n b k = σ a k := by
  unfold sx_cp
  rw [if_pos ⟨rfl, h0, by omega⟩, show 0 + (k - 0) = k by omega]
theorem cp_out {σ : sx_S} {a i b j n k : Int} (h : k < j ∨ j + n ≤ k) : sx_cp σ a i b j n b k = σ b k := by unfold sx_cp; rw [if_neg (by omega)]
def fMax0 (x : Int) : Int := if 0 < x then x else 0
theorem fMax0_bd (x : Int) : 0 ≤ fMax0 x ∧ x ≤ fMax0 x ∧ (fMax0 x = 0 ∨ fMax0 x = x) := by unfold fMax0; split <;> omega
