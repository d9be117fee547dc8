/-! THE TOKENS OF A TEXT (by wip/whole) -/
section SXO7
variable {tx : Int → Int} {n9 : Int}
theorem i32_nat {x : Int} (h : 0 ≤ x ∧ x < 2147483648) : (Int32.ofInt x).toBitVec.toNat = x.toNat := by
  show (BitVec.ofInt 32 x).toNat = _
  rw [BitVec.toNat_ofInt]
  congr 1
  omega
theorem bv_int {b : BitVec 32} {x : Int} (h : 0 ≤ x ∧ x < 2147483648) (e : b.toNat = x.toNat) : (Int32.ofBitVec b).toInt = x := by
  show b.toInt = x
  rw [BitVec.toInt_eq_toNat_of_lt (by omega), e]
  omega
theorem or_add {x y q : Int} (m : Nat) (hy : 0 ≤ y ∧ y < 2 ^ m) (hq : 0 ≤ q) (hx : x = 2 ^ m * q) (hs : x + y < 2147483648) : sx_or x y = x + y := by
  have h2 : (0 : Int) ≤ 2 ^ m := Int.pow_nonneg (by decide)
  have hx0 : 0 ≤ x := by rw [hx]; exact Int.mul_nonneg h2 hq
  refine bv_int ⟨by omega, by omega⟩ ?_
  show ((Int32.ofInt x).toBitVec ||| (Int32.ofInt y).toBitVec).toNat = _
  rw [BitVec.toNat_or, i32_nat ⟨hx0, by omega⟩, i32_nat ⟨hy.1, by omega⟩]
  obtain ⟨a, rfl⟩ := Int.eq_ofNat_of_zero_le hq
  obtain ⟨b, rfl⟩ := Int.eq_ofNat_of_zero_le hy.1
  have hb : b < 2 ^ m := by have := hy.2; exact_mod_cast this
  have e1 : x = ((2 ^ m * a : Nat) : Int) := by rw [hx]; simp
  rw [e1]
  have e2 : (((2 ^ m * a : Nat) : Int) + (b : Int)).toNat = 2 ^ m * a + b := by omega
  rw [e2, Int.toNat_natCast, Int.toNat_natCast, Nat.two_pow_add_eq_or_of_lt hb]
theorem shl_mul {x : Int} (k : Nat) (hk : k ≤ 25) (hx : 0 ≤ x ∧ x < 2147483648) (hs0 : x * 2 ^ k < 2147483648) : sx_shl x (k : Int) = x * 2 ^ k := by
  have h2 : (0 : Int) ≤ 2 ^ k := Int.pow_nonneg (by decide)
  refine bv_int ⟨Int.mul_nonneg hx.1 h2, hs0⟩ ?_
  have hs : ∀ j : Fin 26, ((Int32.ofInt (j.val : Int) &&& 31).toBitVec.smod 32#32).toNat = j.val := by decide +kernel
  have h1 := hs ⟨k, by omega⟩
  show ((Int32.ofInt x).toBitVec <<< ((Int32.ofInt (k : Int) &&& 31).toBitVec.smod 32#32).toNat).toNat = _
  rw [h1, BitVec.toNat_shiftLeft, i32_nat hx, Nat.shiftLeft_eq]
  obtain ⟨a, rfl⟩ := Int.eq_ofNat_of_zero_le hx.1
  have e1 : ((a : Int) * 2 ^ k) = ((a * 2 ^ k : Nat) : Int) := by simp
  have hlt : a * 2 ^ k < 2147483648 := by rw [e1] at hs0; omega
  rw [e1]
  simp only [Int.toNat_natCast]
  exact Nat.mod_eq_of_lt (by omega)
theorem shr_and {x : Int} (k : Nat) (hk : k ≤ 25) (hx : 0 ≤ x ∧ x < 2147483648) : sx_and (sx_shr x (k : Int)) 31 = x / 2 ^ k % 32 := by
  have hs : ∀ j : Fin 26, ((Int32.ofInt (j.val : Int) &&& 31).toBitVec.smod 32#32).toNat = j.val := by decide +kernel
  have h1 := hs ⟨k, by omega⟩
  have hm : (Int32.ofInt x).toBitVec.msb = false := by
    rw [BitVec.msb_eq_toInt, Int32.toInt_toBitVec, Int32.toInt_ofInt_of_le (by omega) (by omega)]
    exact decide_eq_false (by omega)
  have hm5 : (0 : Int) ≤ x / 2 ^ k % 32 ∧ x / 2 ^ k % 32 < 2147483648 := by omega
  refine bv_int hm5 ?_
  show ((Int32.ofInt (sx_shr x k)).toBitVec &&& 31#32).toNat = _
  have e0 : (Int32.ofInt (sx_shr x k)).toBitVec = (Int32.ofInt x).toBitVec >>> k := by
    unfold sx_shr
    rw [Int32.ofInt_toInt]
    show (Int32.ofInt x).toBitVec.sshiftRight ((Int32.ofInt (k : Int) &&& 31).toBitVec.smod 32#32).toNat = _
    rw [h1, BitVec.sshiftRight_eq_of_msb_false hm]
  rw [e0, BitVec.toNat_and, BitVec.toNat_ushiftRight, i32_nat hx, Nat.shiftRight_eq_div_pow]
  obtain ⟨a, rfl⟩ := Int.eq_ofNat_of_zero_le hx.1
  have e2 : ((a : Int) / 2 ^ k % 32) = ((a / 2 ^ k % 32 : Nat) : Int) := by simp
  rw [e2, Int.toNat_natCast, Int.toNat_natCast]
  show _ &&& 31 = _
  exact Nat.and_two_pow_sub_one_eq_mod _ 5
/-- from i on as long as q holds -/
def fRn (q : Int → Prop) [DecidablePred q] : Nat → Int → Int
  | 0, i => i
  | k + 1, i => if q i then fRn q k (i + 1) else i
theorem fRn_of {q : Int → Prop} [DecidablePred q] : ∀ (k : Nat) {i e : Int}, i ≤ e → (e - i).toNat < k → (∀ j : Int, i ≤ j → j < e → q j) → ¬ q e → fRn q k i = e
  | 0, i, e, _, h, _, _ => by omega
  | k + 1, i, e, h0, h, ha, hn => by
    show (if q i then fRn q k (i + 1) else i) = e
    by_cases e9 : i = e
    · rw [e9, if_neg hn]
    · rw [if_pos (ha i (by omega) (by omega))]
      exact fRn_of k (by omega) (by omega) (fun j y0 y1 => ha j (by omega) y1) hn
theorem fRn_bd {q : Int → Prop} [DecidablePred q] (hq : ∀ j : Int, n9 ≤ j → ¬ q j) : ∀ (k : Nat) {i : Int}, i ≤ n9 → i ≤ fRn q k i ∧ fRn q k i ≤ n9
  | 0, i, h => ⟨Int.le_refl _, h⟩
  | k + 1, i, h => by
    show i ≤ (if q i then fRn q k (i + 1) else i) ∧ (if q i then fRn q k (i + 1) else i) ≤ n9
    by_cases e9 : q i
    · rw [if_pos e9]
      have h1 := hq i
      have h2 : i < n9 := by
        by_cases e8 : n9 ≤ i
        · exact absurd e9 (h1 e8)
        · omega
      have h3 := fRn_bd hq k (i := i + 1) (by omega)
      omega
    · rw [if_neg e9]; omega
theorem fRn_ex {q : Int → Prop} [DecidablePred q] (hq : ∀ j : Int, n9 ≤ j → ¬ q j) : ∀ (k : Nat) {i : Int}, i ≤ n9 → (n9 - i).toNat < k → ∃ e : Int, i ≤ e ∧ e ≤ n9 ∧ (∀ j : Int, i ≤ j → j < e → q j) ∧ ¬ q e
  | 0, i, _, h => by omega
  | k + 1, i, h0, h => by
    by_cases e9 : q i
    · have h2 : i < n9 := by
        by_cases e8 : n9 ≤ i
        · exact absurd e9 (hq i e8)
        · omega
      obtain ⟨e, a1, a2, a3, a4⟩ := fRn_ex hq k (i := i + 1) (by omega) (by omega)
      refine ⟨e, by omega, a2, fun j y0 y1 => ?_, a4⟩
      by_cases e7 : j = i
      · rw [e7]; exact e9
      · exact a3 j (by omega) y1
    · exact ⟨i, by omega, h0, fun j y0 y1 => by omega, e9⟩
abbrev pSpc (x : Int) : Prop := x = 10 ∨ x = 32
def fD (tx : Int → Int) (a b j : Int) : Int := if a + j < b then tx (a + j) - 96 else 0
def fPk (tx : Int → Int) (a b : Int) : Int := 33554432 * fD tx a b 0 + 1048576 * fD tx a b 1 + 32768 * fD tx a b 2 + 1024 * fD tx a b 3 + 32 * fD tx a b 4 + fD tx a b 5
def wdL : List Int := [210940032, 690131968, 305299456, 202978304, 773205170, 102354944, 642945024, 404455424, 202511360, 641190048, 139640832, 777297172, 236244992, 202964992, 41058304, 652729344, 527892480, 522190848, 48365568, 486146048]
def fWt (L : Int) : Int := ((wdL.findIdx fun y => y == L : Nat) : Int)
abbrev fTwo (a b : Int) : Prop := (a = 60 ∧ (b = 61 ∨ b = 62)) ∨ (a = 62 ∧ b = 61)
def fSg (a b : Int) : Int := if a = 59 then 22 else if a = 40 then 23 else if a = 41 then 24 else if a = 60 then (if b = 61 then 26 else if b = 62 then 28 else 25) else if a = 61 then 27 else if a = 62 then (if b = 61 then 29 else 30) else if a = 43 then 31 else if a = 45 then 32 else if a = 42 then 33 else if a = 47 then 34 else 35
def kS (tx : Int → Int) (n9 i : Int) : Int := fRn (fun j => pSpc (fTx tx n9 j)) 701 i
def kEl (tx : Int → Int) (n9 s : Int) : Int := fRn (fun j => pLet (fTx tx n9 j)) 701 s
def kEd (tx : Int → Int) (n9 s : Int) : Int := fRn (fun j => pDig (fTx tx n9 j)) 701 s
/-- where the token behind i ends -/
def kE (tx : Int → Int) (n9 i : Int) : Int :=
  if n9 ≤ kS tx n9 i then kS tx n9 i else if pLet (fTx tx n9 (kS tx n9 i)) then kEl tx n9 (kS tx n9 i) else if pDig (fTx tx n9 (kS tx n9 i)) then kEd tx n9 (kS tx n9 i)
  else if fTwo (fTx tx n9 (kS tx n9 i)) (fTx tx n9 (kS tx n9 i + 1)) then kS tx n9 i + 2 else kS tx n9 i + 1
/-- its kind -/
def kT (tx : Int → Int) (n9 i : Int) : Int :=
  if n9 ≤ kS tx n9 i then 36 else if pLet (fTx tx n9 (kS tx n9 i)) then (if 6 < kEl tx n9 (kS tx n9 i) - kS tx n9 i then 35 else fWt (fPk tx (kS tx n9 i) (kEl tx n9 (kS tx n9 i)))) else if pDig (fTx tx n9 (kS tx n9 i)) then 21
  else fSg (fTx tx n9 (kS tx n9 i)) (fTx tx n9 (kS tx n9 i + 1))
/-- its letters, its number -/
def kV (tx : Int → Int) (n9 i : Int) : Int :=
  if pLet (fTx tx n9 (kS tx n9 i)) then fPk tx (kS tx n9 i) (kEl tx n9 (kS tx n9 i)) else if fNuc tx (kS tx n9 i) (kEd tx n9 (kS tx n9 i) - kS tx n9 i).toNat ≤ 99999 then fNuc tx (kS tx n9 i) (kEd tx n9 (kS tx n9 i) - kS tx n9 i).toNat else 100000
theorem fTx_n {j : Int} (h : n9 ≤ j) : fTx tx n9 j = 0 := if_neg (by omega)
theorem fTx_p {j : Int} (h : j < n9) : fTx tx n9 j = tx j := if_pos h
theorem qS_n (j : Int) (h : n9 ≤ j) : ¬ pSpc (fTx tx n9 j) := by rw [fTx_n h]; decide
theorem qL_n (j : Int) (h : n9 ≤ j) : ¬ pLet (fTx tx n9 j) := by rw [fTx_n h]; decide
theorem qD_n (j : Int) (h : n9 ≤ j) : ¬ pDig (fTx tx n9 j) := by rw [fTx_n h]; decide
theorem kS_of {i e : Int} (hn : n9 ≤ 700) (hi : 0 ≤ i) (h0 : i ≤ e) (h1 : e ≤ n9) (ha : ∀ j : Int, i ≤ j → j < e → pSpc (fTx tx n9 j)) (hx : ¬ pSpc (fTx tx n9 e)) : kS tx n9 i = e := fRn_of 701 h0 (by omega) ha hx
theorem kEl_of {i e : Int} (hn : n9 ≤ 700) (hi : 0 ≤ i) (h0 : i ≤ e) (h1 : e ≤ n9) (ha : ∀ j : Int, i ≤ j → j < e → pLet (fTx tx n9 j)) (hx : ¬ pLet (fTx tx n9 e)) : kEl tx n9 i = e := fRn_of 701 h0 (by omega) ha hx
theorem kEd_of {i e : Int} (hn : n9 ≤ 700) (hi : 0 ≤ i) (h0 : i ≤ e) (h1 : e ≤ n9) (ha : ∀ j : Int, i ≤ j → j < e → pDig (fTx tx n9 j)) (hx : ¬ pDig (fTx tx n9 e)) : kEd tx n9 i = e := fRn_of 701 h0 (by omega) ha hx
theorem kS_bd {i : Int} (h : i ≤ n9) : i ≤ kS tx n9 i ∧ kS tx n9 i ≤ n9 := fRn_bd qS_n 701 h
theorem kEl_bd {i : Int} (h : i ≤ n9) : i ≤ kEl tx n9 i ∧ kEl tx n9 i ≤ n9 := fRn_bd qL_n 701 h
theorem kEd_bd {i : Int} (h : i ≤ n9) : i ≤ kEd tx n9 i ∧ kEd tx n9 i ≤ n9 := fRn_bd qD_n 701 h
theorem kEl_gt {i : Int} (h : pLet (fTx tx n9 i)) : i < kEl tx n9 i := by
  have hi : i < n9 := by
    by_cases e8 : n9 ≤ i
    · exact absurd h (qL_n i e8)
    · omega
  show i < (if pLet (fTx tx n9 i) then fRn (fun j => pLet (fTx tx n9 j)) 700 (i + 1) else i)
  rw [if_pos h]
  have := fRn_bd (q := fun j => pLet (fTx tx n9 j)) qL_n 700 (i := i + 1) (by omega)
  omega
theorem kEd_gt {i : Int} (h : pDig (fTx tx n9 i)) : i < kEd tx n9 i := by
  have hi : i < n9 := by
    by_cases e8 : n9 ≤ i
    · exact absurd h (qD_n i e8)
    · omega
  show i < (if pDig (fTx tx n9 i) then fRn (fun j => pDig (fTx tx n9 j)) 700 (i + 1) else i)
  rw [if_pos h]
  have := fRn_bd (q := fun j => pDig (fTx tx n9 j)) qD_n 700 (i := i + 1) (by omega)
  omega
theorem fTwo_n {s : Int} (h : s < n9) (h2 : fTwo (fTx tx n9 s) (fTx tx n9 (s + 1))) : s + 1 < n9 := by
  by_cases e8 : n9 ≤ s + 1
  · rw [fTx_n e8] at h2; unfold fTwo at h2; omega
  · omega
theorem fWt_bd (L : Int) : 0 ≤ fWt L ∧ fWt L ≤ 20 := by
  unfold fWt
  have h : (wdL.findIdx fun y => y == L) ≤ wdL.length := List.findIdx_le_length
  have h2 : wdL.length = 20 := rfl
  omega
theorem fSg_bd (a b : Int) : 22 ≤ fSg a b ∧ fSg a b ≤ 35 := by
  unfold fSg
  repeat' split
  all_goals omega
theorem kT_bd (i : Int) : 0 ≤ kT tx n9 i ∧ kT tx n9 i ≤ 36 := by
  unfold kT
  have h1 := fWt_bd (fPk tx (kS tx n9 i) (kEl tx n9 (kS tx n9 i)))
  have h2 := fSg_bd (fTx tx n9 (kS tx n9 i)) (fTx tx n9 (kS tx n9 i + 1))
  repeat' split
  all_goals omega
theorem kE_bd {i : Int} (h : i ≤ n9) : i ≤ kE tx n9 i ∧ kE tx n9 i ≤ n9 ∧ (¬ kT tx n9 i = 36 → i < kE tx n9 i ∧ kS tx n9 i < kE tx n9 i) ∧ (kT tx n9 i = 36 → kS tx n9 i = n9 ∧ kE tx n9 i = n9) := by
  have h1 := kS_bd (tx := tx) h
  have h2 := kEl_bd (tx := tx) h1.2
  have h3 := kEd_bd (tx := tx) h1.2
  have h4 := kEl_gt (tx := tx) (n9 := n9) (i := kS tx n9 i)
  have h5 := kEd_gt (tx := tx) (n9 := n9) (i := kS tx n9 i)
  have h6 := fWt_bd (fPk tx (kS tx n9 i) (kEl tx n9 (kS tx n9 i)))
  have h7 := fSg_bd (fTx tx n9 (kS tx n9 i)) (fTx tx n9 (kS tx n9 i + 1))
  have h8 := fTwo_n (tx := tx) (n9 := n9) (s := kS tx n9 i)
  unfold kE kT
  by_cases g1 : n9 ≤ kS tx n9 i
  · rw [if_pos g1, if_pos g1]; omega
  · rw [if_neg g1, if_neg g1]
    by_cases g2 : pLet (fTx tx n9 (kS tx n9 i))
    · rw [if_pos g2, if_pos g2]
      have h4 := h4 g2
      split <;> omega
    · rw [if_neg g2, if_neg g2]
      by_cases g3 : pDig (fTx tx n9 (kS tx n9 i))
      · rw [if_pos g3, if_pos g3]
        have h5 := h5 g3
        omega
      · rw [if_neg g3, if_neg g3]
        by_cases g4 : fTwo (fTx tx n9 (kS tx n9 i)) (fTx tx n9 (kS tx n9 i + 1))
        · rw [if_pos g4]
          have h8 := h8 (by omega) g4
          omega
        · rw [if_neg g4]; omega
theorem fD_bd {a b : Int} (h : ∀ j : Int, a ≤ j → j < b → pLet (tx j)) {j : Int} (hj : 0 ≤ j) : 0 ≤ fD tx a b j ∧ fD tx a b j ≤ 26 := by
  unfold fD
  split
  · have := h (a + j) (by omega) (by omega)
    omega
  · omega
theorem fD_lt {a b j : Int} (h : a + j < b) : fD tx a b j = tx (a + j) - 96 := if_pos h
theorem fD_ge {a b j : Int} (h : b ≤ a + j) : fD tx a b j = 0 := if_neg (by omega)
theorem fPk_bd {a b : Int} (h : ∀ j : Int, a ≤ j → j < b → pLet (tx j)) : 0 ≤ fPk tx a b ∧ fPk tx a b < 1073741824 := by
  have d0 := fD_bd h (j := 0) (by omega)
  have d1 := fD_bd h (j := 1) (by omega)
  have d2 := fD_bd h (j := 2) (by omega)
  have d3 := fD_bd h (j := 3) (by omega)
  have d4 := fD_bd h (j := 4) (by omega)
  have d5 := fD_bd h (j := 5) (by omega)
  unfold fPk
  omega
theorem fPk_6 {a e : Int} (h : 6 ≤ e - a) : fPk tx a (e + 1) = fPk tx a e := by
  unfold fPk
  rw [fD_lt (b := e + 1) (j := 0) (by omega), fD_lt (b := e + 1) (j := 1) (by omega), fD_lt (b := e + 1) (j := 2) (by omega), fD_lt (b := e + 1) (j := 3) (by omega), fD_lt (b := e + 1) (j := 4) (by omega), fD_lt (b := e + 1) (j := 5) (by omega), fD_lt (b := e) (j := 0) (by omega), fD_lt (b := e) (j := 1) (by omega), fD_lt (b := e) (j := 2) (by omega), fD_lt (b := e) (j := 3) (by omega), fD_lt (b := e) (j := 4) (by omega), fD_lt (b := e) (j := 5) (by omega)]
theorem fPk_0 {a : Int} : fPk tx a a = 0 := by
  unfold fPk
  rw [fD_ge (j := 0) (by omega), fD_ge (j := 1) (by omega), fD_ge (j := 2) (by omega), fD_ge (j := 3) (by omega), fD_ge (j := 4) (by omega), fD_ge (j := 5) (by omega)]
  rfl
theorem fPk_s {a e : Int} (h0 : a ≤ e) (h5 : e - a < 6) (h : ∀ j : Int, a ≤ j → j < e + 1 → pLet (tx j)) : sx_or (fPk tx a e) (sx_shl (tx e - 97 + 1) (25 - 5 * (e - a))) = fPk tx a (e + 1) := by
  have hv := h e h0 (by omega)
  have hb := fPk_bd (tx := tx) (a := a) (b := e + 1) (fun j y0 y1 => h j y0 y1)
  have hd : ∀ j : Int, 0 ≤ j → 0 ≤ fD tx a e j ∧ fD tx a e j ≤ 26 := fun j hj => fD_bd (fun j y0 y1 => h j y0 (by omega)) hj
  have d0 := hd 0 (by omega)
  have d1 := hd 1 (by omega)
  have d2 := hd 2 (by omega)
  have d3 := hd 3 (by omega)
  have d4 := hd 4 (by omega)
  have d5 := hd 5 (by omega)
  have hc : e = a ∨ e = a + 1 ∨ e = a + 2 ∨ e = a + 3 ∨ e = a + 4 ∨ e = a + 5 := by omega
  unfold fPk at hb ⊢
  rcases hc with hc | hc
  · skip
    rw [fD_ge (b := e) (j := 0) (by omega), fD_ge (b := e) (j := 1) (by omega), fD_ge (b := e) (j := 2) (by omega), fD_ge (b := e) (j := 3) (by omega), fD_ge (b := e) (j := 4) (by omega), fD_ge (b := e) (j := 5) (by omega)]
    rw [fD_ge (b := e + 1) (j := 1) (by omega), fD_ge (b := e + 1) (j := 2) (by omega), fD_ge (b := e + 1) (j := 3) (by omega), fD_ge (b := e + 1) (j := 4) (by omega), fD_ge (b := e + 1) (j := 5) (by omega)] at hb
    rw [show (25 - 5 * (e - a) : Int) = ((25 : Nat) : Int) by omega, shl_mul 25 (by omega) (by omega) (by omega)]
    rw [or_add 30 (q := (0)) (by omega) (by omega) (by omega) (by omega)]
    rw [fD_lt (b := e + 1) (j := 0) (by omega), fD_ge (b := e + 1) (j := 1) (by omega), fD_ge (b := e + 1) (j := 2) (by omega), fD_ge (b := e + 1) (j := 3) (by omega), fD_ge (b := e + 1) (j := 4) (by omega), fD_ge (b := e + 1) (j := 5) (by omega)]
    have ee : tx (a + 0) = tx e := by rw [show a + 0 = e by omega]
    omega
  rcases hc with hc | hc
  · skip
    rw [fD_ge (b := e) (j := 1) (by omega), fD_ge (b := e) (j := 2) (by omega), fD_ge (b := e) (j := 3) (by omega), fD_ge (b := e) (j := 4) (by omega), fD_ge (b := e) (j := 5) (by omega)]
    rw [fD_ge (b := e + 1) (j := 2) (by omega), fD_ge (b := e + 1) (j := 3) (by omega), fD_ge (b := e + 1) (j := 4) (by omega), fD_ge (b := e + 1) (j := 5) (by omega)] at hb
    rw [show (25 - 5 * (e - a) : Int) = ((20 : Nat) : Int) by omega, shl_mul 20 (by omega) (by omega) (by omega)]
    rw [or_add 25 (q := (1 * fD tx a e 0)) (by omega) (by omega) (by omega) (by omega)]
    rw [fD_lt (b := e + 1) (j := 0) (by omega), fD_lt (b := e + 1) (j := 1) (by omega), fD_ge (b := e + 1) (j := 2) (by omega), fD_ge (b := e + 1) (j := 3) (by omega), fD_ge (b := e + 1) (j := 4) (by omega), fD_ge (b := e + 1) (j := 5) (by omega), fD_lt (b := e) (j := 0) (by omega)]
    have ee : tx (a + 1) = tx e := by rw [show a + 1 = e by omega]
    omega
  rcases hc with hc | hc
  · skip
    rw [fD_ge (b := e) (j := 2) (by omega), fD_ge (b := e) (j := 3) (by omega), fD_ge (b := e) (j := 4) (by omega), fD_ge (b := e) (j := 5) (by omega)]
    rw [fD_ge (b := e + 1) (j := 3) (by omega), fD_ge (b := e + 1) (j := 4) (by omega), fD_ge (b := e + 1) (j := 5) (by omega)] at hb
    rw [show (25 - 5 * (e - a) : Int) = ((15 : Nat) : Int) by omega, shl_mul 15 (by omega) (by omega) (by omega)]
    rw [or_add 20 (q := (32 * fD tx a e 0 + 1 * fD tx a e 1)) (by omega) (by omega) (by omega) (by omega)]
    rw [fD_lt (b := e + 1) (j := 0) (by omega), fD_lt (b := e + 1) (j := 1) (by omega), fD_lt (b := e + 1) (j := 2) (by omega), fD_ge (b := e + 1) (j := 3) (by omega), fD_ge (b := e + 1) (j := 4) (by omega), fD_ge (b := e + 1) (j := 5) (by omega), fD_lt (b := e) (j := 0) (by omega), fD_lt (b := e) (j := 1) (by omega)]
    have ee : tx (a + 2) = tx e := by rw [show a + 2 = e by omega]
    omega
  rcases hc with hc | hc
  · skip
    rw [fD_ge (b := e) (j := 3) (by omega), fD_ge (b := e) (j := 4) (by omega), fD_ge (b := e) (j := 5) (by omega)]
    rw [fD_ge (b := e + 1) (j := 4) (by omega), fD_ge (b := e + 1) (j := 5) (by omega)] at hb
    rw [show (25 - 5 * (e - a) : Int) = ((10 : Nat) : Int) by omega, shl_mul 10 (by omega) (by omega) (by omega)]
    rw [or_add 15 (q := (1024 * fD tx a e 0 + 32 * fD tx a e 1 + 1 * fD tx a e 2)) (by omega) (by omega) (by omega) (by omega)]
    rw [fD_lt (b := e + 1) (j := 0) (by omega), fD_lt (b := e + 1) (j := 1) (by omega), fD_lt (b := e + 1) (j := 2) (by omega), fD_lt (b := e + 1) (j := 3) (by omega), fD_ge (b := e + 1) (j := 4) (by omega), fD_ge (b := e + 1) (j := 5) (by omega), fD_lt (b := e) (j := 0) (by omega), fD_lt (b := e) (j := 1) (by omega), fD_lt (b := e) (j := 2) (by omega)]
    have ee : tx (a + 3) = tx e := by rw [show a + 3 = e by omega]
    omega
  rcases hc with hc | hc
  · skip
    rw [fD_ge (b := e) (j := 4) (by omega), fD_ge (b := e) (j := 5) (by omega)]
    rw [fD_ge (b := e + 1) (j := 5) (by omega)] at hb
    rw [show (25 - 5 * (e - a) : Int) = ((5 : Nat) : Int) by omega, shl_mul 5 (by omega) (by omega) (by omega)]
    rw [or_add 10 (q := (32768 * fD tx a e 0 + 1024 * fD tx a e 1 + 32 * fD tx a e 2 + 1 * fD tx a e 3)) (by omega) (by omega) (by omega) (by omega)]
    rw [fD_lt (b := e + 1) (j := 0) (by omega), fD_lt (b := e + 1) (j := 1) (by omega), fD_lt (b := e + 1) (j := 2) (by omega), fD_lt (b := e + 1) (j := 3) (by omega), fD_lt (b := e + 1) (j := 4) (by omega), fD_ge (b := e + 1) (j := 5) (by omega), fD_lt (b := e) (j := 0) (by omega), fD_lt (b := e) (j := 1) (by omega), fD_lt (b := e) (j := 2) (by omega), fD_lt (b := e) (j := 3) (by omega)]
    have ee : tx (a + 4) = tx e := by rw [show a + 4 = e by omega]
    omega
  · skip
    rw [fD_ge (b := e) (j := 5) (by omega)]
    rw [show (1 : Int) = 1 from rfl] at hb
    rw [show (25 - 5 * (e - a) : Int) = ((0 : Nat) : Int) by omega, shl_mul 0 (by omega) (by omega) (by omega)]
    rw [or_add 5 (q := (1048576 * fD tx a e 0 + 32768 * fD tx a e 1 + 1024 * fD tx a e 2 + 32 * fD tx a e 3 + 1 * fD tx a e 4)) (by omega) (by omega) (by omega) (by omega)]
    rw [fD_lt (b := e + 1) (j := 0) (by omega), fD_lt (b := e + 1) (j := 1) (by omega), fD_lt (b := e + 1) (j := 2) (by omega), fD_lt (b := e + 1) (j := 3) (by omega), fD_lt (b := e + 1) (j := 4) (by omega), fD_lt (b := e + 1) (j := 5) (by omega), fD_lt (b := e) (j := 0) (by omega), fD_lt (b := e) (j := 1) (by omega), fD_lt (b := e) (j := 2) (by omega), fD_lt (b := e) (j := 3) (by omega), fD_lt (b := e) (j := 4) (by omega)]
    have ee : tx (a + 5) = tx e := by rw [show a + 5 = e by omega]
    omega
def wrL : List Int := [102, 105, 101, 108, 100, 32, 116, 114, 101, 101, 32, 105, 99, 101, 32, 102, 97, 114, 109, 32, 119, 97, 108, 107, 101, 114, 32, 99, 97, 115, 116, 32, 115, 101, 101, 100, 32, 108, 97, 119, 32, 100, 101, 101, 112, 32, 102, 97, 100, 101, 32, 115, 99, 111, 114, 101, 32, 97, 110, 100, 32, 111, 114, 32, 110, 111, 116, 32, 119, 101, 105, 103, 104, 116, 32, 103, 97, 105, 116, 32, 102, 97, 114, 32, 97, 103, 101, 32, 115, 110, 111, 119, 32, 111, 119, 110, 32]
def fmL : List Int := [0, 6, 11, 15, 20, 27, 32, 37, 41, 46, 51, 57, 61, 64, 68, 75, 80, 84, 88, 93, 97]
def lnL : List Int := [5, 4, 3, 4, 6, 4, 4, 3, 4, 4, 5, 3, 2, 3, 6, 4, 3, 3, 4, 3, 0]
def icL : List Int := [0, 1, 2, 3, 4, 5, 6, 7, 10, 8, 9, 18, 17, 19, 11, 12, 13, 14, 15, 16]
def fRw (j : Int) : Int := wrL.getD j.toNat 0
def fFm (k : Int) : Int := fmL.getD k.toNat 0
def fLn (k : Int) : Int := lnL.getD k.toNat 0
/-- the class's number of the reference's word k, and back -/
def fIc (k : Int) : Int := icL.getD k.toNat 0
def fIr (k : Int) : Int := if k < 8 then k else if k = 8 then 9 else if k = 9 then 10 else if k = 10 then 8 else if k = 17 then 12 else if k = 18 then 11 else if k = 19 then 13 else k + 3
theorem wr_t : ∀ k : Fin 20, ∀ m : Fin 7, (m.val : Int) ≤ fLn k.val → (fRw (fFm k.val + m.val) = 32 ↔ (m.val : Int) = fLn k.val) := by decide +kernel
theorem wr_s : ∀ k : Fin 20, 0 ≤ fFm k.val ∧ fFm k.val + fLn k.val < 97 ∧ fFm (k.val + 1 : Nat) = fFm k.val + (fLn k.val + 1) ∧ 2 ≤ fLn k.val ∧ fLn k.val ≤ 6 := by decide +kernel
def pMt (tx : Int → Int) (a b k : Int) : Prop := fLn k = b - a ∧ ∀ j : Int, 0 ≤ j → j < fLn k → fRw (fFm k + j) = tx (a + j)
theorem fIr_ic : ∀ k : Fin 20, fIr (fIc k.val) = k.val := by decide +kernel
theorem wd_hit {a b k : Int} (hk : 0 ≤ k ∧ k < 20) (h : pMt tx a b k) : fWt (fPk tx a b) = fIc k := by
  obtain ⟨h1, h2⟩ := h
  have hc : k = 0 ∨ k = 1 ∨ k = 2 ∨ k = 3 ∨ k = 4 ∨ k = 5 ∨ k = 6 ∨ k = 7 ∨ k = 8 ∨ k = 9 ∨ k = 10 ∨ k = 11 ∨ k = 12 ∨ k = 13 ∨ k = 14 ∨ k = 15 ∨ k = 16 ∨ k = 17 ∨ k = 18 ∨ k = 19 := by omega
  rcases hc with hc | hc
  · subst hc
    have e9 : b = a + 5 := by have e8 : fLn 0 = 5 := rfl; omega
    have c0 : 102 = tx (a + 0) := h2 0 (by decide) (by decide)
    have c1 : 105 = tx (a + 1) := h2 1 (by decide) (by decide)
    have c2 : 101 = tx (a + 2) := h2 2 (by decide) (by decide)
    have c3 : 108 = tx (a + 3) := h2 3 (by decide) (by decide)
    have c4 : 100 = tx (a + 4) := h2 4 (by decide) (by decide)
    have e7 : fPk tx a b = 210940032 := by
      unfold fPk
      rw [fD_lt (j := 0) (by omega), fD_lt (j := 1) (by omega), fD_lt (j := 2) (by omega), fD_lt (j := 3) (by omega), fD_lt (j := 4) (by omega), fD_ge (j := 5) (by omega)]
      omega
    rw [e7]; decide +kernel
  rcases hc with hc | hc
  · subst hc
    have e9 : b = a + 4 := by have e8 : fLn 1 = 4 := rfl; omega
    have c0 : 116 = tx (a + 0) := h2 0 (by decide) (by decide)
    have c1 : 114 = tx (a + 1) := h2 1 (by decide) (by decide)
    have c2 : 101 = tx (a + 2) := h2 2 (by decide) (by decide)
    have c3 : 101 = tx (a + 3) := h2 3 (by decide) (by decide)
    have e7 : fPk tx a b = 690131968 := by
      unfold fPk
      rw [fD_lt (j := 0) (by omega), fD_lt (j := 1) (by omega), fD_lt (j := 2) (by omega), fD_lt (j := 3) (by omega), fD_ge (j := 4) (by omega), fD_ge (j := 5) (by omega)]
      omega
    rw [e7]; decide +kernel
  rcases hc with hc | hc
  · subst hc
    have e9 : b = a + 3 := by have e8 : fLn 2 = 3 := rfl; omega
    have c0 : 105 = tx (a + 0) := h2 0 (by decide) (by decide)
    have c1 : 99 = tx (a + 1) := h2 1 (by decide) (by decide)
    have c2 : 101 = tx (a + 2) := h2 2 (by decide) (by decide)
    have e7 : fPk tx a b = 305299456 := by
      unfold fPk
      rw [fD_lt (j := 0) (by omega), fD_lt (j := 1) (by omega), fD_lt (j := 2) (by omega), fD_ge (j := 3) (by omega), fD_ge (j := 4) (by omega), fD_ge (j := 5) (by omega)]
      omega
    rw [e7]; decide +kernel
  rcases hc with hc | hc
  · subst hc
    have e9 : b = a + 4 := by have e8 : fLn 3 = 4 := rfl; omega
    have c0 : 102 = tx (a + 0) := h2 0 (by decide) (by decide)
    have c1 : 97 = tx (a + 1) := h2 1 (by decide) (by decide)
    have c2 : 114 = tx (a + 2) := h2 2 (by decide) (by decide)
    have c3 : 109 = tx (a + 3) := h2 3 (by decide) (by decide)
    have e7 : fPk tx a b = 202978304 := by
      unfold fPk
      rw [fD_lt (j := 0) (by omega), fD_lt (j := 1) (by omega), fD_lt (j := 2) (by omega), fD_lt (j := 3) (by omega), fD_ge (j := 4) (by omega), fD_ge (j := 5) (by omega)]
      omega
    rw [e7]; decide +kernel
  rcases hc with hc | hc
  · subst hc
    have e9 : b = a + 6 := by have e8 : fLn 4 = 6 := rfl; omega
    have c0 : 119 = tx (a + 0) := h2 0 (by decide) (by decide)
    have c1 : 97 = tx (a + 1) := h2 1 (by decide) (by decide)
    have c2 : 108 = tx (a + 2) := h2 2 (by decide) (by decide)
    have c3 : 107 = tx (a + 3) := h2 3 (by decide) (by decide)
    have c4 : 101 = tx (a + 4) := h2 4 (by decide) (by decide)
    have c5 : 114 = tx (a + 5) := h2 5 (by decide) (by decide)
    have e7 : fPk tx a b = 773205170 := by
      unfold fPk
      rw [fD_lt (j := 0) (by omega), fD_lt (j := 1) (by omega), fD_lt (j := 2) (by omega), fD_lt (j := 3) (by omega), fD_lt (j := 4) (by omega), fD_lt (j := 5) (by omega)]
      omega
    rw [e7]; decide +kernel
  rcases hc with hc | hc
  · subst hc
    have e9 : b = a + 4 := by have e8 : fLn 5 = 4 := rfl; omega
    have c0 : 99 = tx (a + 0) := h2 0 (by decide) (by decide)
    have c1 : 97 = tx (a + 1) := h2 1 (by decide) (by decide)
    have c2 : 115 = tx (a + 2) := h2 2 (by decide) (by decide)
    have c3 : 116 = tx (a + 3) := h2 3 (by decide) (by decide)
    have e7 : fPk tx a b = 102354944 := by
      unfold fPk
      rw [fD_lt (j := 0) (by omega), fD_lt (j := 1) (by omega), fD_lt (j := 2) (by omega), fD_lt (j := 3) (by omega), fD_ge (j := 4) (by omega), fD_ge (j := 5) (by omega)]
      omega
    rw [e7]; decide +kernel
  rcases hc with hc | hc
  · subst hc
    have e9 : b = a + 4 := by have e8 : fLn 6 = 4 := rfl; omega
    have c0 : 115 = tx (a + 0) := h2 0 (by decide) (by decide)
    have c1 : 101 = tx (a + 1) := h2 1 (by decide) (by decide)
    have c2 : 101 = tx (a + 2) := h2 2 (by decide) (by decide)
    have c3 : 100 = tx (a + 3) := h2 3 (by decide) (by decide)
    have e7 : fPk tx a b = 642945024 := by
      unfold fPk
      rw [fD_lt (j := 0) (by omega), fD_lt (j := 1) (by omega), fD_lt (j := 2) (by omega), fD_lt (j := 3) (by omega), fD_ge (j := 4) (by omega), fD_ge (j := 5) (by omega)]
      omega
    rw [e7]; decide +kernel
  rcases hc with hc | hc
  · subst hc
    have e9 : b = a + 3 := by have e8 : fLn 7 = 3 := rfl; omega
    have c0 : 108 = tx (a + 0) := h2 0 (by decide) (by decide)
    have c1 : 97 = tx (a + 1) := h2 1 (by decide) (by decide)
    have c2 : 119 = tx (a + 2) := h2 2 (by decide) (by decide)
    have e7 : fPk tx a b = 404455424 := by
      unfold fPk
      rw [fD_lt (j := 0) (by omega), fD_lt (j := 1) (by omega), fD_lt (j := 2) (by omega), fD_ge (j := 3) (by omega), fD_ge (j := 4) (by omega), fD_ge (j := 5) (by omega)]
      omega
    rw [e7]; decide +kernel
  rcases hc with hc | hc
  · subst hc
    have e9 : b = a + 4 := by have e8 : fLn 8 = 4 := rfl; omega
    have c0 : 100 = tx (a + 0) := h2 0 (by decide) (by decide)
    have c1 : 101 = tx (a + 1) := h2 1 (by decide) (by decide)
    have c2 : 101 = tx (a + 2) := h2 2 (by decide) (by decide)
    have c3 : 112 = tx (a + 3) := h2 3 (by decide) (by decide)
    have e7 : fPk tx a b = 139640832 := by
      unfold fPk
      rw [fD_lt (j := 0) (by omega), fD_lt (j := 1) (by omega), fD_lt (j := 2) (by omega), fD_lt (j := 3) (by omega), fD_ge (j := 4) (by omega), fD_ge (j := 5) (by omega)]
      omega
    rw [e7]; decide +kernel
  rcases hc with hc | hc
  · subst hc
    have e9 : b = a + 4 := by have e8 : fLn 9 = 4 := rfl; omega
    have c0 : 102 = tx (a + 0) := h2 0 (by decide) (by decide)
    have c1 : 97 = tx (a + 1) := h2 1 (by decide) (by decide)
    have c2 : 100 = tx (a + 2) := h2 2 (by decide) (by decide)
    have c3 : 101 = tx (a + 3) := h2 3 (by decide) (by decide)
    have e7 : fPk tx a b = 202511360 := by
      unfold fPk
      rw [fD_lt (j := 0) (by omega), fD_lt (j := 1) (by omega), fD_lt (j := 2) (by omega), fD_lt (j := 3) (by omega), fD_ge (j := 4) (by omega), fD_ge (j := 5) (by omega)]
      omega
    rw [e7]; decide +kernel
  rcases hc with hc | hc
  · subst hc
    have e9 : b = a + 5 := by have e8 : fLn 10 = 5 := rfl; omega
    have c0 : 115 = tx (a + 0) := h2 0 (by decide) (by decide)
    have c1 : 99 = tx (a + 1) := h2 1 (by decide) (by decide)
    have c2 : 111 = tx (a + 2) := h2 2 (by decide) (by decide)
    have c3 : 114 = tx (a + 3) := h2 3 (by decide) (by decide)
    have c4 : 101 = tx (a + 4) := h2 4 (by decide) (by decide)
    have e7 : fPk tx a b = 641190048 := by
      unfold fPk
      rw [fD_lt (j := 0) (by omega), fD_lt (j := 1) (by omega), fD_lt (j := 2) (by omega), fD_lt (j := 3) (by omega), fD_lt (j := 4) (by omega), fD_ge (j := 5) (by omega)]
      omega
    rw [e7]; decide +kernel
  rcases hc with hc | hc
  · subst hc
    have e9 : b = a + 3 := by have e8 : fLn 11 = 3 := rfl; omega
    have c0 : 97 = tx (a + 0) := h2 0 (by decide) (by decide)
    have c1 : 110 = tx (a + 1) := h2 1 (by decide) (by decide)
    have c2 : 100 = tx (a + 2) := h2 2 (by decide) (by decide)
    have e7 : fPk tx a b = 48365568 := by
      unfold fPk
      rw [fD_lt (j := 0) (by omega), fD_lt (j := 1) (by omega), fD_lt (j := 2) (by omega), fD_ge (j := 3) (by omega), fD_ge (j := 4) (by omega), fD_ge (j := 5) (by omega)]
      omega
    rw [e7]; decide +kernel
  rcases hc with hc | hc
  · subst hc
    have e9 : b = a + 2 := by have e8 : fLn 12 = 2 := rfl; omega
    have c0 : 111 = tx (a + 0) := h2 0 (by decide) (by decide)
    have c1 : 114 = tx (a + 1) := h2 1 (by decide) (by decide)
    have e7 : fPk tx a b = 522190848 := by
      unfold fPk
      rw [fD_lt (j := 0) (by omega), fD_lt (j := 1) (by omega), fD_ge (j := 2) (by omega), fD_ge (j := 3) (by omega), fD_ge (j := 4) (by omega), fD_ge (j := 5) (by omega)]
      omega
    rw [e7]; decide +kernel
  rcases hc with hc | hc
  · subst hc
    have e9 : b = a + 3 := by have e8 : fLn 13 = 3 := rfl; omega
    have c0 : 110 = tx (a + 0) := h2 0 (by decide) (by decide)
    have c1 : 111 = tx (a + 1) := h2 1 (by decide) (by decide)
    have c2 : 116 = tx (a + 2) := h2 2 (by decide) (by decide)
    have e7 : fPk tx a b = 486146048 := by
      unfold fPk
      rw [fD_lt (j := 0) (by omega), fD_lt (j := 1) (by omega), fD_lt (j := 2) (by omega), fD_ge (j := 3) (by omega), fD_ge (j := 4) (by omega), fD_ge (j := 5) (by omega)]
      omega
    rw [e7]; decide +kernel
  rcases hc with hc | hc
  · subst hc
    have e9 : b = a + 6 := by have e8 : fLn 14 = 6 := rfl; omega
    have c0 : 119 = tx (a + 0) := h2 0 (by decide) (by decide)
    have c1 : 101 = tx (a + 1) := h2 1 (by decide) (by decide)
    have c2 : 105 = tx (a + 2) := h2 2 (by decide) (by decide)
    have c3 : 103 = tx (a + 3) := h2 3 (by decide) (by decide)
    have c4 : 104 = tx (a + 4) := h2 4 (by decide) (by decide)
    have c5 : 116 = tx (a + 5) := h2 5 (by decide) (by decide)
    have e7 : fPk tx a b = 777297172 := by
      unfold fPk
      rw [fD_lt (j := 0) (by omega), fD_lt (j := 1) (by omega), fD_lt (j := 2) (by omega), fD_lt (j := 3) (by omega), fD_lt (j := 4) (by omega), fD_lt (j := 5) (by omega)]
      omega
    rw [e7]; decide +kernel
  rcases hc with hc | hc
  · subst hc
    have e9 : b = a + 4 := by have e8 : fLn 15 = 4 := rfl; omega
    have c0 : 103 = tx (a + 0) := h2 0 (by decide) (by decide)
    have c1 : 97 = tx (a + 1) := h2 1 (by decide) (by decide)
    have c2 : 105 = tx (a + 2) := h2 2 (by decide) (by decide)
    have c3 : 116 = tx (a + 3) := h2 3 (by decide) (by decide)
    have e7 : fPk tx a b = 236244992 := by
      unfold fPk
      rw [fD_lt (j := 0) (by omega), fD_lt (j := 1) (by omega), fD_lt (j := 2) (by omega), fD_lt (j := 3) (by omega), fD_ge (j := 4) (by omega), fD_ge (j := 5) (by omega)]
      omega
    rw [e7]; decide +kernel
  rcases hc with hc | hc
  · subst hc
    have e9 : b = a + 3 := by have e8 : fLn 16 = 3 := rfl; omega
    have c0 : 102 = tx (a + 0) := h2 0 (by decide) (by decide)
    have c1 : 97 = tx (a + 1) := h2 1 (by decide) (by decide)
    have c2 : 114 = tx (a + 2) := h2 2 (by decide) (by decide)
    have e7 : fPk tx a b = 202964992 := by
      unfold fPk
      rw [fD_lt (j := 0) (by omega), fD_lt (j := 1) (by omega), fD_lt (j := 2) (by omega), fD_ge (j := 3) (by omega), fD_ge (j := 4) (by omega), fD_ge (j := 5) (by omega)]
      omega
    rw [e7]; decide +kernel
  rcases hc with hc | hc
  · subst hc
    have e9 : b = a + 3 := by have e8 : fLn 17 = 3 := rfl; omega
    have c0 : 97 = tx (a + 0) := h2 0 (by decide) (by decide)
    have c1 : 103 = tx (a + 1) := h2 1 (by decide) (by decide)
    have c2 : 101 = tx (a + 2) := h2 2 (by decide) (by decide)
    have e7 : fPk tx a b = 41058304 := by
      unfold fPk
      rw [fD_lt (j := 0) (by omega), fD_lt (j := 1) (by omega), fD_lt (j := 2) (by omega), fD_ge (j := 3) (by omega), fD_ge (j := 4) (by omega), fD_ge (j := 5) (by omega)]
      omega
    rw [e7]; decide +kernel
  rcases hc with hc | hc
  · subst hc
    have e9 : b = a + 4 := by have e8 : fLn 18 = 4 := rfl; omega
    have c0 : 115 = tx (a + 0) := h2 0 (by decide) (by decide)
    have c1 : 110 = tx (a + 1) := h2 1 (by decide) (by decide)
    have c2 : 111 = tx (a + 2) := h2 2 (by decide) (by decide)
    have c3 : 119 = tx (a + 3) := h2 3 (by decide) (by decide)
    have e7 : fPk tx a b = 652729344 := by
      unfold fPk
      rw [fD_lt (j := 0) (by omega), fD_lt (j := 1) (by omega), fD_lt (j := 2) (by omega), fD_lt (j := 3) (by omega), fD_ge (j := 4) (by omega), fD_ge (j := 5) (by omega)]
      omega
    rw [e7]; decide +kernel
  · subst hc
    have e9 : b = a + 3 := by have e8 : fLn 19 = 3 := rfl; omega
    have c0 : 111 = tx (a + 0) := h2 0 (by decide) (by decide)
    have c1 : 119 = tx (a + 1) := h2 1 (by decide) (by decide)
    have c2 : 110 = tx (a + 2) := h2 2 (by decide) (by decide)
    have e7 : fPk tx a b = 527892480 := by
      unfold fPk
      rw [fD_lt (j := 0) (by omega), fD_lt (j := 1) (by omega), fD_lt (j := 2) (by omega), fD_ge (j := 3) (by omega), fD_ge (j := 4) (by omega), fD_ge (j := 5) (by omega)]
      omega
    rw [e7]; decide +kernel
theorem wt_mem {L c : Int} (hc : c < 20) (h : fWt L = c) (h0 : 0 ≤ c) : wdL.getD c.toNat 0 = L := by
  unfold fWt at h
  have h2 : wdL.length = 20 := rfl
  have h3 : (wdL.findIdx fun y => y == L) < wdL.length := by omega
  have h4 := List.findIdx_getElem (w := h3) (p := fun y => y == L)
  have h5 : c.toNat = wdL.findIdx fun y => y == L := by omega
  rw [h5, List.getD_eq_getElem?_getD, List.getElem?_eq_getElem h3]
  exact eq_of_beq h4
theorem wd_miss {a b : Int} (hab : a < b ∧ b ≤ a + 6) (hl : ∀ j : Int, a ≤ j → j < b → pLet (tx j)) (h : ∀ k : Int, 0 ≤ k → k < 20 → ¬ pMt tx a b k) : fWt (fPk tx a b) = 20 := by
  have hb := fWt_bd (fPk tx a b)
  apply Classical.byContradiction
  intro h9
  have hm := wt_mem (L := fPk tx a b) (c := fWt (fPk tx a b)) (by omega) rfl hb.1
  have hd : ∀ j : Int, 0 ≤ j → (a + j < b ∧ 1 ≤ fD tx a b j ∧ fD tx a b j ≤ 26 ∧ fD tx a b j = tx (a + j) - 96) ∨ (b ≤ a + j ∧ fD tx a b j = 0) := fun j hj => by
    by_cases e8 : a + j < b
    · have := hl (a + j) (by omega) e8
      rw [fD_lt e8]; left; omega
    · right; rw [fD_ge (by omega)]; omega
  have d0 := hd 0 (by omega)
  have d1 := hd 1 (by omega)
  have d2 := hd 2 (by omega)
  have d3 := hd 3 (by omega)
  have d4 := hd 4 (by omega)
  have d5 := hd 5 (by omega)
  generalize fWt (fPk tx a b) = c at hm hb h9
  unfold fPk at hm
  have b0 : 0 ≤ fD tx a b 0 ∧ fD tx a b 0 ≤ 26 := by omega
  have b1 : 0 ≤ fD tx a b 1 ∧ fD tx a b 1 ≤ 26 := by omega
  have b2 : 0 ≤ fD tx a b 2 ∧ fD tx a b 2 ≤ 26 := by omega
  have b3 : 0 ≤ fD tx a b 3 ∧ fD tx a b 3 ≤ 26 := by omega
  have b4 : 0 ≤ fD tx a b 4 ∧ fD tx a b 4 ≤ 26 := by omega
  have b5 : 0 ≤ fD tx a b 5 ∧ fD tx a b 5 ≤ 26 := by omega
  have hdg : ∀ v w0 w1 w2 w3 w4 w5 : Int, v = 33554432 * w0 + 1048576 * w1 + 32768 * w2 + 1024 * w3 + 32 * w4 + w5 → (0 ≤ w0 ∧ w0 ≤ 26) → (0 ≤ w1 ∧ w1 ≤ 26) → (0 ≤ w2 ∧ w2 ≤ 26) → (0 ≤ w3 ∧ w3 ≤ 26) → (0 ≤ w4 ∧ w4 ≤ 26) → (0 ≤ w5 ∧ w5 ≤ 26) → w0 = v / 33554432 ∧ w1 = v / 1048576 % 32 ∧ w2 = v / 32768 % 32 ∧ w3 = v / 1024 % 32 ∧ w4 = v / 32 % 32 ∧ w5 = v % 32 := by
    intro v w0 w1 w2 w3 w4 w5 hv a0 a1 a2 a3 a4 a5
    refine ⟨by omega, by omega, by omega, by omega, by omega, by omega⟩
  have hdx := hdg _ _ _ _ _ _ _ hm b0 b1 b2 b3 b4 b5
  clear hdg hm hd
  have hc : c = 0 ∨ c = 1 ∨ c = 2 ∨ c = 3 ∨ c = 4 ∨ c = 5 ∨ c = 6 ∨ c = 7 ∨ c = 8 ∨ c = 9 ∨ c = 10 ∨ c = 11 ∨ c = 12 ∨ c = 13 ∨ c = 14 ∨ c = 15 ∨ c = 16 ∨ c = 17 ∨ c = 18 ∨ c = 19 := by omega
  rcases hc with hc | hc
  · subst hc
    have e7 : wdL.getD (0 : Int).toNat 0 = 210940032 := rfl
    rw [e7] at hdx
    obtain ⟨x0, x1, x2, x3, x4, x5⟩ := hdx
    have y0 : fD tx a b 0 = 6 := by omega
    have y1 : fD tx a b 1 = 9 := by omega
    have y2 : fD tx a b 2 = 5 := by omega
    have y3 : fD tx a b 3 = 12 := by omega
    have y4 : fD tx a b 4 = 4 := by omega
    have y5 : fD tx a b 5 = 0 := by omega
    have e9 : b = a + 5 := by omega
    refine h 0 (by decide) (by decide) ⟨by show (5 : Int) = b - a; omega, fun j j0 j1 => ?_⟩
    have j1 : j < 5 := j1
    have hj : j = 0 ∨ j = 1 ∨ j = 2 ∨ j = 3 ∨ j = 4 := by omega
    rcases hj with rfl | rfl | rfl | rfl | rfl
    · show (102 : Int) = tx (a + 0); omega
    · show (105 : Int) = tx (a + 1); omega
    · show (101 : Int) = tx (a + 2); omega
    · show (108 : Int) = tx (a + 3); omega
    · show (100 : Int) = tx (a + 4); omega
  rcases hc with hc | hc
  · subst hc
    have e7 : wdL.getD (1 : Int).toNat 0 = 690131968 := rfl
    rw [e7] at hdx
    obtain ⟨x0, x1, x2, x3, x4, x5⟩ := hdx
    have y0 : fD tx a b 0 = 20 := by omega
    have y1 : fD tx a b 1 = 18 := by omega
    have y2 : fD tx a b 2 = 5 := by omega
    have y3 : fD tx a b 3 = 5 := by omega
    have y4 : fD tx a b 4 = 0 := by omega
    have y5 : fD tx a b 5 = 0 := by omega
    have e9 : b = a + 4 := by omega
    refine h 1 (by decide) (by decide) ⟨by show (4 : Int) = b - a; omega, fun j j0 j1 => ?_⟩
    have j1 : j < 4 := j1
    have hj : j = 0 ∨ j = 1 ∨ j = 2 ∨ j = 3 := by omega
    rcases hj with rfl | rfl | rfl | rfl
    · show (116 : Int) = tx (a + 0); omega
    · show (114 : Int) = tx (a + 1); omega
    · show (101 : Int) = tx (a + 2); omega
    · show (101 : Int) = tx (a + 3); omega
  rcases hc with hc | hc
  · subst hc
    have e7 : wdL.getD (2 : Int).toNat 0 = 305299456 := rfl
    rw [e7] at hdx
    obtain ⟨x0, x1, x2, x3, x4, x5⟩ := hdx
    have y0 : fD tx a b 0 = 9 := by omega
    have y1 : fD tx a b 1 = 3 := by omega
    have y2 : fD tx a b 2 = 5 := by omega
    have y3 : fD tx a b 3 = 0 := by omega
    have y4 : fD tx a b 4 = 0 := by omega
    have y5 : fD tx a b 5 = 0 := by omega
    have e9 : b = a + 3 := by omega
    refine h 2 (by decide) (by decide) ⟨by show (3 : Int) = b - a; omega, fun j j0 j1 => ?_⟩
    have j1 : j < 3 := j1
    have hj : j = 0 ∨ j = 1 ∨ j = 2 := by omega
    rcases hj with rfl | rfl | rfl
    · show (105 : Int) = tx (a + 0); omega
    · show (99 : Int) = tx (a + 1); omega
    · show (101 : Int) = tx (a + 2); omega
  rcases hc with hc | hc
  · subst hc
    have e7 : wdL.getD (3 : Int).toNat 0 = 202978304 := rfl
    rw [e7] at hdx
    obtain ⟨x0, x1, x2, x3, x4, x5⟩ := hdx
    have y0 : fD tx a b 0 = 6 := by omega
    have y1 : fD tx a b 1 = 1 := by omega
    have y2 : fD tx a b 2 = 18 := by omega
    have y3 : fD tx a b 3 = 13 := by omega
    have y4 : fD tx a b 4 = 0 := by omega
    have y5 : fD tx a b 5 = 0 := by omega
    have e9 : b = a + 4 := by omega
    refine h 3 (by decide) (by decide) ⟨by show (4 : Int) = b - a; omega, fun j j0 j1 => ?_⟩
    have j1 : j < 4 := j1
    have hj : j = 0 ∨ j = 1 ∨ j = 2 ∨ j = 3 := by omega
    rcases hj with rfl | rfl | rfl | rfl
    · show (102 : Int) = tx (a + 0); omega
    · show (97 : Int) = tx (a + 1); omega
    · show (114 : Int) = tx (a + 2); omega
    · show (109 : Int) = tx (a + 3); omega
  rcases hc with hc | hc
  · subst hc
    have e7 : wdL.getD (4 : Int).toNat 0 = 773205170 := rfl
    rw [e7] at hdx
    obtain ⟨x0, x1, x2, x3, x4, x5⟩ := hdx
    have y0 : fD tx a b 0 = 23 := by omega
    have y1 : fD tx a b 1 = 1 := by omega
    have y2 : fD tx a b 2 = 12 := by omega
    have y3 : fD tx a b 3 = 11 := by omega
    have y4 : fD tx a b 4 = 5 := by omega
    have y5 : fD tx a b 5 = 18 := by omega
    have e9 : b = a + 6 := by omega
    refine h 4 (by decide) (by decide) ⟨by show (6 : Int) = b - a; omega, fun j j0 j1 => ?_⟩
    have j1 : j < 6 := j1
    have hj : j = 0 ∨ j = 1 ∨ j = 2 ∨ j = 3 ∨ j = 4 ∨ j = 5 := by omega
    rcases hj with rfl | rfl | rfl | rfl | rfl | rfl
    · show (119 : Int) = tx (a + 0); omega
    · show (97 : Int) = tx (a + 1); omega
    · show (108 : Int) = tx (a + 2); omega
    · show (107 : Int) = tx (a + 3); omega
    · show (101 : Int) = tx (a + 4); omega
    · show (114 : Int) = tx (a + 5); omega
  rcases hc with hc | hc
  · subst hc
    have e7 : wdL.getD (5 : Int).toNat 0 = 102354944 := rfl
    rw [e7] at hdx
    obtain ⟨x0, x1, x2, x3, x4, x5⟩ := hdx
    have y0 : fD tx a b 0 = 3 := by omega
    have y1 : fD tx a b 1 = 1 := by omega
    have y2 : fD tx a b 2 = 19 := by omega
    have y3 : fD tx a b 3 = 20 := by omega
    have y4 : fD tx a b 4 = 0 := by omega
    have y5 : fD tx a b 5 = 0 := by omega
    have e9 : b = a + 4 := by omega
    refine h 5 (by decide) (by decide) ⟨by show (4 : Int) = b - a; omega, fun j j0 j1 => ?_⟩
    have j1 : j < 4 := j1
    have hj : j = 0 ∨ j = 1 ∨ j = 2 ∨ j = 3 := by omega
    rcases hj with rfl | rfl | rfl | rfl
    · show (99 : Int) = tx (a + 0); omega
    · show (97 : Int) = tx (a + 1); omega
    · show (115 : Int) = tx (a + 2); omega
    · show (116 : Int) = tx (a + 3); omega
  rcases hc with hc | hc
  · subst hc
    have e7 : wdL.getD (6 : Int).toNat 0 = 642945024 := rfl
    rw [e7] at hdx
    obtain ⟨x0, x1, x2, x3, x4, x5⟩ := hdx
    have y0 : fD tx a b 0 = 19 := by omega
    have y1 : fD tx a b 1 = 5 := by omega
    have y2 : fD tx a b 2 = 5 := by omega
    have y3 : fD tx a b 3 = 4 := by omega
    have y4 : fD tx a b 4 = 0 := by omega
    have y5 : fD tx a b 5 = 0 := by omega
    have e9 : b = a + 4 := by omega
    refine h 6 (by decide) (by decide) ⟨by show (4 : Int) = b - a; omega, fun j j0 j1 => ?_⟩
    have j1 : j < 4 := j1
    have hj : j = 0 ∨ j = 1 ∨ j = 2 ∨ j = 3 := by omega
    rcases hj with rfl | rfl | rfl | rfl
    · show (115 : Int) = tx (a + 0); omega
    · show (101 : Int) = tx (a + 1); omega
    · show (101 : Int) = tx (a + 2); omega
    · show (100 : Int) = tx (a + 3); omega
  rcases hc with hc | hc
  · subst hc
    have e7 : wdL.getD (7 : Int).toNat 0 = 404455424 := rfl
    rw [e7] at hdx
    obtain ⟨x0, x1, x2, x3, x4, x5⟩ := hdx
    have y0 : fD tx a b 0 = 12 := by omega
    have y1 : fD tx a b 1 = 1 := by omega
    have y2 : fD tx a b 2 = 23 := by omega
    have y3 : fD tx a b 3 = 0 := by omega
    have y4 : fD tx a b 4 = 0 := by omega
    have y5 : fD tx a b 5 = 0 := by omega
    have e9 : b = a + 3 := by omega
    refine h 7 (by decide) (by decide) ⟨by show (3 : Int) = b - a; omega, fun j j0 j1 => ?_⟩
    have j1 : j < 3 := j1
    have hj : j = 0 ∨ j = 1 ∨ j = 2 := by omega
    rcases hj with rfl | rfl | rfl
    · show (108 : Int) = tx (a + 0); omega
    · show (97 : Int) = tx (a + 1); omega
    · show (119 : Int) = tx (a + 2); omega
  rcases hc with hc | hc
  · subst hc
    have e7 : wdL.getD (8 : Int).toNat 0 = 202511360 := rfl
    rw [e7] at hdx
    obtain ⟨x0, x1, x2, x3, x4, x5⟩ := hdx
    have y0 : fD tx a b 0 = 6 := by omega
    have y1 : fD tx a b 1 = 1 := by omega
    have y2 : fD tx a b 2 = 4 := by omega
    have y3 : fD tx a b 3 = 5 := by omega
    have y4 : fD tx a b 4 = 0 := by omega
    have y5 : fD tx a b 5 = 0 := by omega
    have e9 : b = a + 4 := by omega
    refine h 9 (by decide) (by decide) ⟨by show (4 : Int) = b - a; omega, fun j j0 j1 => ?_⟩
    have j1 : j < 4 := j1
    have hj : j = 0 ∨ j = 1 ∨ j = 2 ∨ j = 3 := by omega
    rcases hj with rfl | rfl | rfl | rfl
    · show (102 : Int) = tx (a + 0); omega
    · show (97 : Int) = tx (a + 1); omega
    · show (100 : Int) = tx (a + 2); omega
    · show (101 : Int) = tx (a + 3); omega
  rcases hc with hc | hc
  · subst hc
    have e7 : wdL.getD (9 : Int).toNat 0 = 641190048 := rfl
    rw [e7] at hdx
    obtain ⟨x0, x1, x2, x3, x4, x5⟩ := hdx
    have y0 : fD tx a b 0 = 19 := by omega
    have y1 : fD tx a b 1 = 3 := by omega
    have y2 : fD tx a b 2 = 15 := by omega
    have y3 : fD tx a b 3 = 18 := by omega
    have y4 : fD tx a b 4 = 5 := by omega
    have y5 : fD tx a b 5 = 0 := by omega
    have e9 : b = a + 5 := by omega
    refine h 10 (by decide) (by decide) ⟨by show (5 : Int) = b - a; omega, fun j j0 j1 => ?_⟩
    have j1 : j < 5 := j1
    have hj : j = 0 ∨ j = 1 ∨ j = 2 ∨ j = 3 ∨ j = 4 := by omega
    rcases hj with rfl | rfl | rfl | rfl | rfl
    · show (115 : Int) = tx (a + 0); omega
    · show (99 : Int) = tx (a + 1); omega
    · show (111 : Int) = tx (a + 2); omega
    · show (114 : Int) = tx (a + 3); omega
    · show (101 : Int) = tx (a + 4); omega
  rcases hc with hc | hc
  · subst hc
    have e7 : wdL.getD (10 : Int).toNat 0 = 139640832 := rfl
    rw [e7] at hdx
    obtain ⟨x0, x1, x2, x3, x4, x5⟩ := hdx
    have y0 : fD tx a b 0 = 4 := by omega
    have y1 : fD tx a b 1 = 5 := by omega
    have y2 : fD tx a b 2 = 5 := by omega
    have y3 : fD tx a b 3 = 16 := by omega
    have y4 : fD tx a b 4 = 0 := by omega
    have y5 : fD tx a b 5 = 0 := by omega
    have e9 : b = a + 4 := by omega
    refine h 8 (by decide) (by decide) ⟨by show (4 : Int) = b - a; omega, fun j j0 j1 => ?_⟩
    have j1 : j < 4 := j1
    have hj : j = 0 ∨ j = 1 ∨ j = 2 ∨ j = 3 := by omega
    rcases hj with rfl | rfl | rfl | rfl
    · show (100 : Int) = tx (a + 0); omega
    · show (101 : Int) = tx (a + 1); omega
    · show (101 : Int) = tx (a + 2); omega
    · show (112 : Int) = tx (a + 3); omega
  rcases hc with hc | hc
  · subst hc
    have e7 : wdL.getD (11 : Int).toNat 0 = 777297172 := rfl
    rw [e7] at hdx
    obtain ⟨x0, x1, x2, x3, x4, x5⟩ := hdx
    have y0 : fD tx a b 0 = 23 := by omega
    have y1 : fD tx a b 1 = 5 := by omega
    have y2 : fD tx a b 2 = 9 := by omega
    have y3 : fD tx a b 3 = 7 := by omega
    have y4 : fD tx a b 4 = 8 := by omega
    have y5 : fD tx a b 5 = 20 := by omega
    have e9 : b = a + 6 := by omega
    refine h 14 (by decide) (by decide) ⟨by show (6 : Int) = b - a; omega, fun j j0 j1 => ?_⟩
    have j1 : j < 6 := j1
    have hj : j = 0 ∨ j = 1 ∨ j = 2 ∨ j = 3 ∨ j = 4 ∨ j = 5 := by omega
    rcases hj with rfl | rfl | rfl | rfl | rfl | rfl
    · show (119 : Int) = tx (a + 0); omega
    · show (101 : Int) = tx (a + 1); omega
    · show (105 : Int) = tx (a + 2); omega
    · show (103 : Int) = tx (a + 3); omega
    · show (104 : Int) = tx (a + 4); omega
    · show (116 : Int) = tx (a + 5); omega
  rcases hc with hc | hc
  · subst hc
    have e7 : wdL.getD (12 : Int).toNat 0 = 236244992 := rfl
    rw [e7] at hdx
    obtain ⟨x0, x1, x2, x3, x4, x5⟩ := hdx
    have y0 : fD tx a b 0 = 7 := by omega
    have y1 : fD tx a b 1 = 1 := by omega
    have y2 : fD tx a b 2 = 9 := by omega
    have y3 : fD tx a b 3 = 20 := by omega
    have y4 : fD tx a b 4 = 0 := by omega
    have y5 : fD tx a b 5 = 0 := by omega
    have e9 : b = a + 4 := by omega
    refine h 15 (by decide) (by decide) ⟨by show (4 : Int) = b - a; omega, fun j j0 j1 => ?_⟩
    have j1 : j < 4 := j1
    have hj : j = 0 ∨ j = 1 ∨ j = 2 ∨ j = 3 := by omega
    rcases hj with rfl | rfl | rfl | rfl
    · show (103 : Int) = tx (a + 0); omega
    · show (97 : Int) = tx (a + 1); omega
    · show (105 : Int) = tx (a + 2); omega
    · show (116 : Int) = tx (a + 3); omega
  rcases hc with hc | hc
  · subst hc
    have e7 : wdL.getD (13 : Int).toNat 0 = 202964992 := rfl
    rw [e7] at hdx
    obtain ⟨x0, x1, x2, x3, x4, x5⟩ := hdx
    have y0 : fD tx a b 0 = 6 := by omega
    have y1 : fD tx a b 1 = 1 := by omega
    have y2 : fD tx a b 2 = 18 := by omega
    have y3 : fD tx a b 3 = 0 := by omega
    have y4 : fD tx a b 4 = 0 := by omega
    have y5 : fD tx a b 5 = 0 := by omega
    have e9 : b = a + 3 := by omega
    refine h 16 (by decide) (by decide) ⟨by show (3 : Int) = b - a; omega, fun j j0 j1 => ?_⟩
    have j1 : j < 3 := j1
    have hj : j = 0 ∨ j = 1 ∨ j = 2 := by omega
    rcases hj with rfl | rfl | rfl
    · show (102 : Int) = tx (a + 0); omega
    · show (97 : Int) = tx (a + 1); omega
    · show (114 : Int) = tx (a + 2); omega
  rcases hc with hc | hc
  · subst hc
    have e7 : wdL.getD (14 : Int).toNat 0 = 41058304 := rfl
    rw [e7] at hdx
    obtain ⟨x0, x1, x2, x3, x4, x5⟩ := hdx
    have y0 : fD tx a b 0 = 1 := by omega
    have y1 : fD tx a b 1 = 7 := by omega
    have y2 : fD tx a b 2 = 5 := by omega
    have y3 : fD tx a b 3 = 0 := by omega
    have y4 : fD tx a b 4 = 0 := by omega
    have y5 : fD tx a b 5 = 0 := by omega
    have e9 : b = a + 3 := by omega
    refine h 17 (by decide) (by decide) ⟨by show (3 : Int) = b - a; omega, fun j j0 j1 => ?_⟩
    have j1 : j < 3 := j1
    have hj : j = 0 ∨ j = 1 ∨ j = 2 := by omega
    rcases hj with rfl | rfl | rfl
    · show (97 : Int) = tx (a + 0); omega
    · show (103 : Int) = tx (a + 1); omega
    · show (101 : Int) = tx (a + 2); omega
  rcases hc with hc | hc
  · subst hc
    have e7 : wdL.getD (15 : Int).toNat 0 = 652729344 := rfl
    rw [e7] at hdx
    obtain ⟨x0, x1, x2, x3, x4, x5⟩ := hdx
    have y0 : fD tx a b 0 = 19 := by omega
    have y1 : fD tx a b 1 = 14 := by omega
    have y2 : fD tx a b 2 = 15 := by omega
    have y3 : fD tx a b 3 = 23 := by omega
    have y4 : fD tx a b 4 = 0 := by omega
    have y5 : fD tx a b 5 = 0 := by omega
    have e9 : b = a + 4 := by omega
    refine h 18 (by decide) (by decide) ⟨by show (4 : Int) = b - a; omega, fun j j0 j1 => ?_⟩
    have j1 : j < 4 := j1
    have hj : j = 0 ∨ j = 1 ∨ j = 2 ∨ j = 3 := by omega
    rcases hj with rfl | rfl | rfl | rfl
    · show (115 : Int) = tx (a + 0); omega
    · show (110 : Int) = tx (a + 1); omega
    · show (111 : Int) = tx (a + 2); omega
    · show (119 : Int) = tx (a + 3); omega
  rcases hc with hc | hc
  · subst hc
    have e7 : wdL.getD (16 : Int).toNat 0 = 527892480 := rfl
    rw [e7] at hdx
    obtain ⟨x0, x1, x2, x3, x4, x5⟩ := hdx
    have y0 : fD tx a b 0 = 15 := by omega
    have y1 : fD tx a b 1 = 23 := by omega
    have y2 : fD tx a b 2 = 14 := by omega
    have y3 : fD tx a b 3 = 0 := by omega
    have y4 : fD tx a b 4 = 0 := by omega
    have y5 : fD tx a b 5 = 0 := by omega
    have e9 : b = a + 3 := by omega
    refine h 19 (by decide) (by decide) ⟨by show (3 : Int) = b - a; omega, fun j j0 j1 => ?_⟩
    have j1 : j < 3 := j1
    have hj : j = 0 ∨ j = 1 ∨ j = 2 := by omega
    rcases hj with rfl | rfl | rfl
    · show (111 : Int) = tx (a + 0); omega
    · show (119 : Int) = tx (a + 1); omega
    · show (110 : Int) = tx (a + 2); omega
  rcases hc with hc | hc
  · subst hc
    have e7 : wdL.getD (17 : Int).toNat 0 = 522190848 := rfl
    rw [e7] at hdx
    obtain ⟨x0, x1, x2, x3, x4, x5⟩ := hdx
    have y0 : fD tx a b 0 = 15 := by omega
    have y1 : fD tx a b 1 = 18 := by omega
    have y2 : fD tx a b 2 = 0 := by omega
    have y3 : fD tx a b 3 = 0 := by omega
    have y4 : fD tx a b 4 = 0 := by omega
    have y5 : fD tx a b 5 = 0 := by omega
    have e9 : b = a + 2 := by omega
    refine h 12 (by decide) (by decide) ⟨by show (2 : Int) = b - a; omega, fun j j0 j1 => ?_⟩
    have j1 : j < 2 := j1
    have hj : j = 0 ∨ j = 1 := by omega
    rcases hj with rfl | rfl
    · show (111 : Int) = tx (a + 0); omega
    · show (114 : Int) = tx (a + 1); omega
  rcases hc with hc | hc
  · subst hc
    have e7 : wdL.getD (18 : Int).toNat 0 = 48365568 := rfl
    rw [e7] at hdx
    obtain ⟨x0, x1, x2, x3, x4, x5⟩ := hdx
    have y0 : fD tx a b 0 = 1 := by omega
    have y1 : fD tx a b 1 = 14 := by omega
    have y2 : fD tx a b 2 = 4 := by omega
    have y3 : fD tx a b 3 = 0 := by omega
    have y4 : fD tx a b 4 = 0 := by omega
    have y5 : fD tx a b 5 = 0 := by omega
    have e9 : b = a + 3 := by omega
    refine h 11 (by decide) (by decide) ⟨by show (3 : Int) = b - a; omega, fun j j0 j1 => ?_⟩
    have j1 : j < 3 := j1
    have hj : j = 0 ∨ j = 1 ∨ j = 2 := by omega
    rcases hj with rfl | rfl | rfl
    · show (97 : Int) = tx (a + 0); omega
    · show (110 : Int) = tx (a + 1); omega
    · show (100 : Int) = tx (a + 2); omega
  · subst hc
    have e7 : wdL.getD (19 : Int).toNat 0 = 486146048 := rfl
    rw [e7] at hdx
    obtain ⟨x0, x1, x2, x3, x4, x5⟩ := hdx
    have y0 : fD tx a b 0 = 14 := by omega
    have y1 : fD tx a b 1 = 15 := by omega
    have y2 : fD tx a b 2 = 20 := by omega
    have y3 : fD tx a b 3 = 0 := by omega
    have y4 : fD tx a b 4 = 0 := by omega
    have y5 : fD tx a b 5 = 0 := by omega
    have e9 : b = a + 3 := by omega
    refine h 13 (by decide) (by decide) ⟨by show (3 : Int) = b - a; omega, fun j j0 j1 => ?_⟩
    have j1 : j < 3 := j1
    have hj : j = 0 ∨ j = 1 ∨ j = 2 := by omega
    rcases hj with rfl | rfl | rfl
    · show (110 : Int) = tx (a + 0); omega
    · show (111 : Int) = tx (a + 1); omega
    · show (116 : Int) = tx (a + 2); omega
end SXO7
