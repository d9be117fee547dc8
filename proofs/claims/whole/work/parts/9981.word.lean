/-! THE SEARCH OF A WORD: what it comes to (by wip/whole) -/
section SXT1
variable {L c : Int}
/-- the class's words, six places each -/
def wcL : List Int := [102, 105, 101, 108, 100, 32, 116, 114, 101, 101, 32, 32, 105, 99, 101, 32, 32, 32, 102, 97, 114, 109, 32, 32, 119, 97, 108, 107, 101, 114, 99, 97, 115, 116, 32, 32, 115, 101, 101, 100, 32, 32, 108, 97, 119, 32, 32, 32, 102, 97, 100, 101, 32, 32, 115, 99, 111, 114, 101, 32, 100, 101, 101, 112, 32, 32, 119, 101, 105, 103, 104, 116, 103, 97, 105, 116, 32, 32, 102, 97, 114, 32, 32, 32, 97, 103, 101, 32, 32, 32, 115, 110, 111, 119, 32, 32, 111, 119, 110, 32, 32, 32, 111, 114, 32, 32, 32, 32, 97, 110, 100, 32, 32, 32, 110, 111, 116, 32, 32, 32]
def fWc (j : Int) : Int := wcL.getD j.toNat 0
/-- letter i of the packed letters L, as the search reads it -/
def fChr (L i : Int) : Int := if L / 2 ^ (25 - 5 * i).toNat % 32 = 0 then 32 else 96 + L / 2 ^ (25 - 5 * i).toNat % 32
def pSame (L c : Int) : Prop := ∀ i : Int, 0 ≤ i → i < 6 → fWc (6 * c + i) = fChr L i
theorem same_w : ∀ c : Fin 20, ∀ i : Fin 6, fWc (6 * (c.val : Int) + i.val) = fChr (wdL.getD c.val 0) i.val := by decide +kernel
theorem wc_bd : ∀ c : Fin 20, ∀ i : Fin 6, fWc (6 * (c.val : Int) + i.val) = 32 ∨ (97 ≤ fWc (6 * (c.val : Int) + i.val) ∧ fWc (6 * (c.val : Int) + i.val) ≤ 122) := by decide +kernel
theorem wd_bd : ∀ c : Fin 20, 0 ≤ wdL.getD c.val 0 ∧ wdL.getD c.val 0 < 1073741824 := by decide +kernel
theorem dig_6 {M : Int} (h : 0 ≤ L ∧ L < 1073741824) (h' : 0 ≤ M ∧ M < 1073741824) (e : ∀ i : Int, 0 ≤ i → i < 6 → L / 2 ^ (25 - 5 * i).toNat % 32 = M / 2 ^ (25 - 5 * i).toNat % 32) : L = M := by
  have e0 : L / 33554432 % 32 = M / 33554432 % 32 := e 0 (by decide) (by decide)
  have e1 : L / 1048576 % 32 = M / 1048576 % 32 := e 1 (by decide) (by decide)
  have e2 : L / 32768 % 32 = M / 32768 % 32 := e 2 (by decide) (by decide)
  have e3 : L / 1024 % 32 = M / 1024 % 32 := e 3 (by decide) (by decide)
  have e4 : L / 32 % 32 = M / 32 % 32 := e 4 (by decide) (by decide)
  have e5 : L / 1 % 32 = M / 1 % 32 := e 5 (by decide) (by decide)
  omega
theorem fChr_inj {M i : Int} (e : fChr L i = fChr M i) : L / 2 ^ (25 - 5 * i).toNat % 32 = M / 2 ^ (25 - 5 * i).toNat % 32 := by
  unfold fChr at e
  have ha : 0 ≤ L / 2 ^ (25 - 5 * i).toNat % 32 := Int.emod_nonneg _ (by decide)
  have hb : 0 ≤ M / 2 ^ (25 - 5 * i).toNat % 32 := Int.emod_nonneg _ (by decide)
  generalize L / 2 ^ (25 - 5 * i).toNat % 32 = a at *
  generalize M / 2 ^ (25 - 5 * i).toNat % 32 = b at *
  split at e <;> split at e <;> omega
theorem same_iff (h : 0 ≤ L ∧ L < 1073741824) (hc : 0 ≤ c ∧ c < 20) : pSame L c ↔ L = wdL.getD c.toNat 0 := by
  have hs : ∀ i : Int, 0 ≤ i → i < 6 → fWc (6 * c + i) = fChr (wdL.getD c.toNat 0) i := fun i i0 i1 => by
    have h1 := same_w ⟨c.toNat, by omega⟩ ⟨i.toNat, by omega⟩
    have e1 : (((⟨c.toNat, by omega⟩ : Fin 20).val : Nat) : Int) = c := by show ((c.toNat : Nat) : Int) = c; omega
    have e2 : (((⟨i.toNat, by omega⟩ : Fin 6).val : Nat) : Int) = i := by show ((i.toNat : Nat) : Int) = i; omega
    rw [e1, e2] at h1
    exact h1
  constructor
  · intro hp
    exact dig_6 h (wd_bd ⟨c.toNat, by omega⟩) (fun i i0 i1 => fChr_inj ((hp i i0 i1).symm.trans (hs i i0 i1)))
  · intro e i i0 i1
    rw [hs i i0 i1, ← e]
theorem wt_first (h : 0 ≤ L ∧ L < 1073741824) (hc : 0 ≤ c ∧ c < 20) (hp : pSame L c) (hn : ∀ d : Int, 0 ≤ d → d < c → ¬ pSame L d) : fWt L = c := by
  have hb := fWt_bd L
  have e := (same_iff h hc).mp hp
  by_cases h1 : fWt L < 20
  · have h2 := wt_mem h1 rfl hb.1
    by_cases h3 : fWt L < c
    · exact absurd ((same_iff h ⟨hb.1, h1⟩).mpr h2.symm) (hn _ hb.1 h3)
    · have hd : ∀ a b : Fin 20, wdL.getD a.val 0 = wdL.getD b.val 0 → a = b := by decide +kernel
      have h4 := hd ⟨(fWt L).toNat, by omega⟩ ⟨c.toNat, by omega⟩ (h2.trans e)
      have h5 := congrArg Fin.val h4
      have h6 : (fWt L).toNat = c.toNat := h5
      omega
  · exfalso
    have h2 : wdL.findIdx (fun y => y == L) < wdL.length := List.findIdx_lt_length_of_exists ⟨L, by
      rw [e, List.getD_eq_getElem?_getD, List.getElem?_eq_getElem (show c.toNat < wdL.length by show c.toNat < 20; omega)]
      exact List.getElem_mem _, by simp⟩
    have h3 : wdL.length = 20 := rfl
    unfold fWt at h1
    omega
theorem wt_none (h : 0 ≤ L ∧ L < 1073741824) (hn : ∀ d : Int, 0 ≤ d → d < 20 → ¬ pSame L d) : fWt L = 20 := by
  have hb := fWt_bd L
  by_cases h1 : fWt L < 20
  · exact absurd ((same_iff h ⟨hb.1, h1⟩).mpr (wt_mem h1 rfl hb.1).symm) (hn _ hb.1 h1)
  · omega
end SXT1
