/-! THE TOKENS: reference side (by wip/whole) -/
section SXO9
variable {X : sx_X} {Q : sx_R} {σ σ0 σ' σ1 σ2 : sx_S} {tx : Int → Int} {n9 : Int}
def rWd (σ : sx_S) : Prop := ∀ j : Int, 0 ≤ j → j < 97 → σ 126 j = fRw j
theorem wr_tI {k m : Int} (hk : 0 ≤ k ∧ k < 20) (hm : 0 ≤ m ∧ m ≤ fLn k) : (fRw (fFm k + m) = 32 ↔ m = fLn k) := by
  have h1 := (wr_s ⟨k.toNat, by omega⟩)
  have ek : ((⟨k.toNat, by omega⟩ : Fin 20).val : Int) = k := by show ((k.toNat : Nat) : Int) = k; omega
  rw [ek] at h1
  have h2 := wr_t ⟨k.toNat, by omega⟩ ⟨m.toNat, by omega⟩
  have em : ((⟨m.toNat, by omega⟩ : Fin 7).val : Int) = m := by show ((m.toNat : Nat) : Int) = m; omega
  rw [ek, em] at h2
  exact h2 hm.2
theorem wr_sI {k : Int} (hk : 0 ≤ k ∧ k < 20) : 0 ≤ fFm k ∧ fFm k + fLn k < 97 ∧ fFm (k + 1) = fFm k + (fLn k + 1) ∧ 2 ≤ fLn k ∧ fLn k ≤ 6 := by
  have h1 := (wr_s ⟨k.toNat, by omega⟩)
  have ek : ((⟨k.toNat, by omega⟩ : Fin 20).val : Int) = k := by show ((k.toNat : Nat) : Int) = k; omega
  have ek1 : (((⟨k.toNat, by omega⟩ : Fin 20).val + 1 : Nat) : Int) = k + 1 := by show ((k.toNat + 1 : Nat) : Int) = k + 1; omega
  rw [ek, ek1] at h1
  exact h1
def fPr (tx : Int → Int) (a b : Int) : Nat → Int
  | 0 => 0
  | k + 1 => 32 * fPr tx a b k + fD tx a b k
theorem fPr_6 {a b : Int} : fPr tx a b 6 = fPk tx a b := by
  show 32 * (32 * (32 * (32 * (32 * (32 * 0 + fD tx a b 0) + fD tx a b 1) + fD tx a b 2) + fD tx a b 3) + fD tx a b 4) + fD tx a b 5 = fPk tx a b
  unfold fPk
  omega
theorem fPr_bd {a b : Int} (h : ∀ j : Int, a ≤ j → j < b → pLet (tx j)) : ∀ k : Nat, 0 ≤ fPr tx a b k ∧ fPr tx a b k < 32 ^ k
  | 0 => by show (0 : Int) ≤ 0 ∧ (0 : Int) < 1; decide
  | k + 1 => by
    have h1 := fPr_bd h k
    have h2 := fD_bd h (j := (k : Int)) (by omega)
    show 0 ≤ 32 * fPr tx a b k + fD tx a b k ∧ 32 * fPr tx a b k + fD tx a b k < 32 ^ k * 32
    omega
theorem fPr_s {a b : Int} (h : ∀ j : Int, a ≤ j → j < b → pLet (tx j)) {k d : Int} (hk : a ≤ k ∧ k < a + 6) (hd : d = fD tx a b (k - a)) : sx_or (sx_shl (fPr tx a b (k - a).toNat) 5) d = fPr tx a b (k + 1 - a).toNat := by
  rw [show (k + 1 - a).toNat = (k - a).toNat + 1 by omega]
  show _ = 32 * fPr tx a b (k - a).toNat + fD tx a b (((k - a).toNat : Nat) : Int)
  rw [show (((k - a).toNat : Nat) : Int) = k - a by omega]
  have h1 := fPr_bd h (k - a).toNat
  have h2 := fD_bd h (j := k - a) (by omega)
  have h3 : (32 : Int) ^ (k - a).toNat ≤ 33554432 := by
    have hc : (k - a).toNat = 0 ∨ (k - a).toNat = 1 ∨ (k - a).toNat = 2 ∨ (k - a).toNat = 3 ∨ (k - a).toNat = 4 ∨ (k - a).toNat = 5 := by omega
    rcases hc with hc | hc | hc | hc | hc | hc <;> rw [hc] <;> decide
  rw [hd, show (5 : Int) = ((5 : Nat) : Int) from rfl, shl_mul 5 (by omega) (by omega) (by omega), or_add 5 (q := fPr tx a b (k - a).toNat) (by omega) h1.1 (by omega) (by omega)]
  omega
def pKz (t k w v : Int) : Prop := (0 ≤ t ∧ t ≤ 19 ∧ k = 1 ∧ ((t < 8 ∧ w = t) ∨ (t = 8 ∧ w = 9) ∨ (t = 9 ∧ w = 10) ∨ (t = 10 ∧ w = 8) ∨ (t = 17 ∧ w = 12) ∨ (t = 18 ∧ w = 11) ∨ (t = 19 ∧ w = 13) ∨ (11 ≤ t ∧ t ≤ 16 ∧ w = t + 3))) ∨ (t = 20 ∧ k = 2 ∧ w = v) ∨ (t = 21 ∧ k = 3 ∧ ((w = v ∧ v ≤ 99999) ∨ (99999 < w ∧ v = 100000))) ∨ (t = 22 ∧ k = 4 ∧ w = 59) ∨ (t = 23 ∧ k = 4 ∧ w = 40) ∨ (t = 24 ∧ k = 4 ∧ w = 41) ∨ (25 ≤ t ∧ t ≤ 30 ∧ k = 5 ∧ w = t - 25) ∨ (t = 31 ∧ k = 4 ∧ w = 43) ∨ (t = 32 ∧ k = 4 ∧ w = 45) ∨ (t = 33 ∧ k = 4 ∧ w = 42) ∨ (t = 34 ∧ k = 4 ∧ w = 47) ∨ (t = 35 ∧ (k = 6 ∨ (k = 4 ∧ w = 37))) ∨ (t = 36 ∧ k = 0)
def pSt (a b k w : Int) : Prop := (a = 60 ∧ b = 61 ∧ k = 5 ∧ w = 1) ∨ (a = 60 ∧ b = 62 ∧ k = 5 ∧ w = 3) ∨ (a = 60 ∧ ¬ b = 61 ∧ ¬ b = 62 ∧ k = 5 ∧ w = 0) ∨ (a = 61 ∧ k = 5 ∧ w = 2) ∨ (a = 62 ∧ b = 61 ∧ k = 5 ∧ w = 4) ∨ (a = 62 ∧ ¬ b = 61 ∧ k = 5 ∧ w = 5) ∨ ((a = 59 ∨ a = 40 ∨ a = 41 ∨ a = 43 ∨ a = 45 ∨ a = 42 ∨ a = 47 ∨ a = 37) ∧ k = 4 ∧ w = a) ∨ (¬ (a = 60 ∨ a = 61 ∨ a = 62 ∨ a = 59 ∨ a = 40 ∨ a = 41 ∨ a = 43 ∨ a = 45 ∨ a = 42 ∨ a = 47 ∨ a = 37) ∧ k = 6)
theorem pKz_sg {a b k w v : Int} (h : pSt a b k w) : pKz (fSg a b) k w v := by
  rcases h with ⟨rfl, rfl, rfl, rfl⟩ | ⟨rfl, rfl, rfl, rfl⟩ | ⟨rfl, h1, h2, rfl, rfl⟩ | ⟨rfl, rfl, rfl⟩ | ⟨rfl, rfl, rfl, rfl⟩ | ⟨rfl, h1, rfl, rfl⟩ | ⟨ha, rfl, rfl⟩ | ⟨ha, rfl⟩
  · rw [fSg_v (t := 26) (Or.inr (Or.inr (Or.inr (Or.inl ⟨rfl, rfl, rfl⟩))))]; exact Or.inr (Or.inr (Or.inr (Or.inr (Or.inr (Or.inr (Or.inl ⟨by decide, by decide, rfl, rfl⟩))))))
  · rw [fSg_v (t := 28) (Or.inr (Or.inr (Or.inr (Or.inr (Or.inl ⟨rfl, rfl, rfl⟩)))))]; exact Or.inr (Or.inr (Or.inr (Or.inr (Or.inr (Or.inr (Or.inl ⟨by decide, by decide, rfl, rfl⟩))))))
  · rw [fSg_v (t := 25) (Or.inr (Or.inr (Or.inr (Or.inr (Or.inr (Or.inl ⟨rfl, h1, h2, rfl⟩))))))]; exact Or.inr (Or.inr (Or.inr (Or.inr (Or.inr (Or.inr (Or.inl ⟨by decide, by decide, rfl, rfl⟩))))))
  · rw [fSg_v (t := 27) (Or.inr (Or.inr (Or.inr (Or.inr (Or.inr (Or.inr (Or.inl ⟨rfl, rfl⟩)))))))]; exact Or.inr (Or.inr (Or.inr (Or.inr (Or.inr (Or.inr (Or.inl ⟨by decide, by decide, rfl, rfl⟩))))))
  · rw [fSg_v (t := 29) (Or.inr (Or.inr (Or.inr (Or.inr (Or.inr (Or.inr (Or.inr (Or.inl ⟨rfl, rfl, rfl⟩))))))))]; exact Or.inr (Or.inr (Or.inr (Or.inr (Or.inr (Or.inr (Or.inl ⟨by decide, by decide, rfl, rfl⟩))))))
  · rw [fSg_v (t := 30) (Or.inr (Or.inr (Or.inr (Or.inr (Or.inr (Or.inr (Or.inr (Or.inr (Or.inl ⟨rfl, h1, rfl⟩)))))))))]; exact Or.inr (Or.inr (Or.inr (Or.inr (Or.inr (Or.inr (Or.inl ⟨by decide, by decide, rfl, rfl⟩))))))
  · rcases ha with rfl | rfl | rfl | rfl | rfl | rfl | rfl | rfl
    · rw [fSg_v (t := 22) (Or.inl ⟨rfl, rfl⟩)]; exact Or.inr (Or.inr (Or.inr (Or.inl ⟨rfl, rfl, rfl⟩)))
    · rw [fSg_v (t := 23) (Or.inr (Or.inl ⟨rfl, rfl⟩))]; exact Or.inr (Or.inr (Or.inr (Or.inr (Or.inl ⟨rfl, rfl, rfl⟩))))
    · rw [fSg_v (t := 24) (Or.inr (Or.inr (Or.inl ⟨rfl, rfl⟩)))]; exact Or.inr (Or.inr (Or.inr (Or.inr (Or.inr (Or.inl ⟨rfl, rfl, rfl⟩)))))
    · rw [fSg_v (t := 31) (Or.inr (Or.inr (Or.inr (Or.inr (Or.inr (Or.inr (Or.inr (Or.inr (Or.inr (Or.inl ⟨rfl, rfl⟩))))))))))]; exact Or.inr (Or.inr (Or.inr (Or.inr (Or.inr (Or.inr (Or.inr (Or.inl ⟨rfl, rfl, rfl⟩)))))))
    · rw [fSg_v (t := 32) (Or.inr (Or.inr (Or.inr (Or.inr (Or.inr (Or.inr (Or.inr (Or.inr (Or.inr (Or.inr (Or.inl ⟨rfl, rfl⟩)))))))))))]; exact Or.inr (Or.inr (Or.inr (Or.inr (Or.inr (Or.inr (Or.inr (Or.inr (Or.inl ⟨rfl, rfl, rfl⟩))))))))
    · rw [fSg_v (t := 33) (Or.inr (Or.inr (Or.inr (Or.inr (Or.inr (Or.inr (Or.inr (Or.inr (Or.inr (Or.inr (Or.inr (Or.inl ⟨rfl, rfl⟩))))))))))))]; exact Or.inr (Or.inr (Or.inr (Or.inr (Or.inr (Or.inr (Or.inr (Or.inr (Or.inr (Or.inl ⟨rfl, rfl, rfl⟩)))))))))
    · rw [fSg_v (t := 34) (Or.inr (Or.inr (Or.inr (Or.inr (Or.inr (Or.inr (Or.inr (Or.inr (Or.inr (Or.inr (Or.inr (Or.inr (Or.inl ⟨rfl, rfl⟩)))))))))))))]; exact Or.inr (Or.inr (Or.inr (Or.inr (Or.inr (Or.inr (Or.inr (Or.inr (Or.inr (Or.inr (Or.inl ⟨rfl, rfl, rfl⟩))))))))))
    · rw [fSg_v (t := 35) (Or.inr (Or.inr (Or.inr (Or.inr (Or.inr (Or.inr (Or.inr (Or.inr (Or.inr (Or.inr (Or.inr (Or.inr (Or.inr (⟨by decide, rfl⟩))))))))))))))]; exact Or.inr (Or.inr (Or.inr (Or.inr (Or.inr (Or.inr (Or.inr (Or.inr (Or.inr (Or.inr (Or.inr (Or.inl ⟨rfl, Or.inr ⟨rfl, rfl⟩⟩)))))))))))
  · rw [fSg_v (t := 35) (Or.inr (Or.inr (Or.inr (Or.inr (Or.inr (Or.inr (Or.inr (Or.inr (Or.inr (Or.inr (Or.inr (Or.inr (Or.inr (⟨fun z => ha (by omega), rfl⟩))))))))))))))]; exact Or.inr (Or.inr (Or.inr (Or.inr (Or.inr (Or.inr (Or.inr (Or.inr (Or.inr (Or.inr (Or.inr (Or.inl ⟨rfl, Or.inl rfl⟩)))))))))))
theorem pKz_key0 : ∀ k : Fin 20, 0 ≤ fIc k.val ∧ fIc k.val ≤ 19 ∧ (1 : Int) = 1 ∧ ((fIc k.val < 8 ∧ (k.val : Int) = fIc k.val) ∨ (fIc k.val = 8 ∧ (k.val : Int) = 9) ∨ (fIc k.val = 9 ∧ (k.val : Int) = 10) ∨ (fIc k.val = 10 ∧ (k.val : Int) = 8) ∨ (fIc k.val = 17 ∧ (k.val : Int) = 12) ∨ (fIc k.val = 18 ∧ (k.val : Int) = 11) ∨ (fIc k.val = 19 ∧ (k.val : Int) = 13) ∨ (11 ≤ fIc k.val ∧ fIc k.val ≤ 16 ∧ (k.val : Int) = fIc k.val + 3)) := by decide +kernel
theorem pKz_key {k v : Int} (hk : 0 ≤ k ∧ k < 20) : pKz (fIc k) 1 k v := by
  have h := pKz_key0 ⟨k.toNat, by omega⟩
  have ek : ((⟨k.toNat, by omega⟩ : Fin 20).val : Int) = k := by show ((k.toNat : Nat) : Int) = k; omega
  rw [ek] at h
  exact Or.inl h
/-- the reference stands at the token behind i -/
def rTk (σ : sx_S) (tx : Int → Int) (n9 i : Int) : Prop := σ 124 7 = kE tx n9 i ∧ σ 124 10 = kS tx n9 i ∧ pKz (kT tx n9 i) (σ 124 8) (σ 124 9) (kV tx n9 i)
theorem rTk_of {i : Int} (h : rTk σ tx n9 i) (e : ∀ j : Int, 7 ≤ j → j ≤ 10 → σ' 124 j = σ 124 j) : rTk σ' tx n9 i := by
  unfold rTk
  rw [e 7 (by decide) (by decide), e 8 (by decide) (by decide), e 9 (by decide) (by decide), e 10 (by decide) (by decide)]
  exact h
/-- the value of the first k digits, as the reference has it -/
def fNur (tx : Int → Int) (i : Int) : Nat → Int
  | 0 => 0
  | k + 1 => if fNur tx i k ≤ 99999 then 10 * fNur tx i k + (tx (i + k) - 48) else fNur tx i k
theorem fNur_s {i e : Int} (h : i ≤ e) : fNur tx i (e + 1 - i).toNat = if fNur tx i (e - i).toNat ≤ 99999 then 10 * fNur tx i (e - i).toNat + (tx e - 48) else fNur tx i (e - i).toNat := by
  rw [show (e + 1 - i).toNat = (e - i).toNat + 1 by omega]
  show (if fNur tx i (e - i).toNat ≤ 99999 then 10 * fNur tx i (e - i).toNat + (tx (i + ((e - i).toNat : Nat)) - 48) else _) = _
  rw [show i + (((e - i).toNat : Nat) : Int) = e by omega]
theorem fNu_rel {i : Int} : ∀ k : Nat, (∀ j : Int, i ≤ j → j < i + k → pDig (tx j)) → (0 ≤ fNur tx i k ∧ fNur tx i k ≤ 1000000) ∧ ((fNur tx i k = fNuc tx i k ∧ fNuc tx i k ≤ 99999) ∨ (99999 < fNur tx i k ∧ 99999 < fNuc tx i k))
  | 0, _ => by show ((0 : Int) ≤ 0 ∧ (0 : Int) ≤ 1000000) ∧ (((0 : Int) = 0 ∧ (0 : Int) ≤ 99999) ∨ _); exact ⟨by decide, Or.inl (by decide)⟩
  | k + 1, h => by
    have h1 := fNu_rel k (fun j y0 y1 => h j y0 (by omega))
    have h2 := h (i + k) (by omega) (by omega)
    have e1 : fNur tx i (k + 1) = if fNur tx i k ≤ 99999 then 10 * fNur tx i k + (tx (i + k) - 48) else fNur tx i k := rfl
    have e2 : fNuc tx i (k + 1) = if 10 * fNuc tx i k + (tx (i + k) - 48) < 1000000 then 10 * fNuc tx i k + (tx (i + k) - 48) else 1000000 := rfl
    rw [e1, e2]
    split <;> split <;> omega
abbrev FRt (a i : Int) : Prop := a = 124 ∧ 7 ≤ i ∧ i ≤ 10
theorem FRt_pts : ptL.all (fun q => decide (¬ FRt q.1 q.2.1)) = true := by decide +kernel
theorem fr.ptrt {σ σ' : sx_S} (h : fr FRt σ σ') (hT : PT σ) : PT σ' := hT.fr (fun q hq => h _ _ (of_decide_eq_true (List.all_eq_true.mp FRt_pts q hq)))
theorem rTk_end {i e : Int} (hs : kS tx n9 i = e) (h : n9 ≤ e) (h7 : σ 124 7 = e) (h8 : σ 124 8 = 0) (h10 : σ 124 10 = e) : rTk σ tx n9 i := by
  obtain ⟨t1, t2⟩ := tk_end hs h
  refine ⟨h7.trans t1.symm, h10.trans hs.symm, ?_⟩
  rw [t2, h8]; exact Or.inr (Or.inr (Or.inr (Or.inr (Or.inr (Or.inr (Or.inr (Or.inr (Or.inr (Or.inr (Or.inr (Or.inr (⟨rfl, rfl⟩))))))))))))
theorem rTk_hit {i e b k : Int} (hs : kS tx n9 i = e) (h : e < n9) (hl : pLet (fTx tx n9 e)) (hb : kEl tx n9 e = b) (hk : 0 ≤ k ∧ k < 20) (hm : pMt tx e b k) (h7 : σ 124 7 = b) (h8 : σ 124 8 = 1) (h9 : σ 124 9 = k) (h10 : σ 124 10 = e) : rTk σ tx n9 i := by
  obtain ⟨t1, t2, t3⟩ := tk_let hs h hl
  have ws := wr_sI hk
  have h1 := hm.1
  refine ⟨h7.trans (t1.trans hb).symm, h10.trans hs.symm, ?_⟩
  rw [t2, h8, h9, hb, if_neg (by omega), wd_hit hk hm]
  exact pKz_key hk
theorem rTk_bad {i e b : Int} (hs : kS tx n9 i = e) (h : e < n9) (hl : pLet (fTx tx n9 e)) (hb : kEl tx n9 e = b) (h6 : 6 < b - e) (h7 : σ 124 7 = b) (h8 : σ 124 8 = 6) (h10 : σ 124 10 = e) : rTk σ tx n9 i := by
  obtain ⟨t1, t2, t3⟩ := tk_let hs h hl
  refine ⟨h7.trans (t1.trans hb).symm, h10.trans hs.symm, ?_⟩
  rw [t2, h8, hb, if_pos h6]
  exact Or.inr (Or.inr (Or.inr (Or.inr (Or.inr (Or.inr (Or.inr (Or.inr (Or.inr (Or.inr (Or.inr (Or.inl ⟨rfl, Or.inl rfl⟩)))))))))))
theorem rTk_nam {i e b : Int} (hs : kS tx n9 i = e) (h : e < n9) (hl : pLet (fTx tx n9 e)) (hb : kEl tx n9 e = b) (h6 : b - e ≤ 6) (hall : ∀ j : Int, e ≤ j → j < b → pLet (tx j)) (hm : ∀ k : Int, 0 ≤ k → k < 20 → ¬ pMt tx e b k) (h7 : σ 124 7 = b) (h8 : σ 124 8 = 2) (h9 : σ 124 9 = fPk tx e b) (h10 : σ 124 10 = e) : rTk σ tx n9 i := by
  obtain ⟨t1, t2, t3⟩ := tk_let hs h hl
  have hg := kEl_gt hl
  refine ⟨h7.trans (t1.trans hb).symm, h10.trans hs.symm, ?_⟩
  rw [t2, t3, h8, h9, hb, if_neg (by omega), wd_miss (by omega) hall hm]
  exact Or.inr (Or.inl ⟨rfl, rfl, rfl⟩)
theorem rTk_dig {i e b : Int} (hs : kS tx n9 i = e) (h : e < n9) (hl : ¬ pLet (fTx tx n9 e)) (hd : pDig (fTx tx n9 e)) (hb : kEd tx n9 e = b) (heb : e ≤ b) (hall : ∀ j : Int, e ≤ j → j < b → pDig (tx j)) (h7 : σ 124 7 = b) (h8 : σ 124 8 = 3) (h9 : σ 124 9 = fNur tx e (b - e).toNat) (h10 : σ 124 10 = e) : rTk σ tx n9 i := by
  obtain ⟨t1, t2, t3⟩ := tk_dig hs h hl hd
  have hr := (fNu_rel (tx := tx) (i := e) (b - e).toNat (fun j y0 y1 => hall j y0 (by omega))).2
  refine ⟨h7.trans (t1.trans hb).symm, h10.trans hs.symm, ?_⟩
  rw [t2, t3, h8, h9, hb]
  refine Or.inr (Or.inr (Or.inl ⟨rfl, rfl, ?_⟩))
  split <;> omega
theorem rTk_sgn {i e : Int} (hs : kS tx n9 i = e) (h : e < n9) (hl : ¬ pLet (fTx tx n9 e)) (hd : ¬ pDig (fTx tx n9 e)) (h7 : σ 124 7 = (if fTwo (fTx tx n9 e) (fTx tx n9 (e + 1)) then e + 2 else e + 1)) (hk : pSt (fTx tx n9 e) (fTx tx n9 (e + 1)) (σ 124 8) (σ 124 9)) (h10 : σ 124 10 = e) : rTk σ tx n9 i := by
  obtain ⟨t1, t2⟩ := tk_sgn hs h hl hd
  exact ⟨h7.trans t1.symm, h10.trans hs.symm, by rw [t2]; exact pKz_sg hk⟩
set_option maxRecDepth 20000 in
theorem c_Rword (hT : PT σ) (hx : rLx σ tx n9) (hwd : rWd σ) {a b : Int} (hab : 0 ≤ a ∧ a ≤ b ∧ b ≤ n9) (h1 : ∀ k : Int, 0 ≤ k → k < 20 → pMt tx a b k → Q (some (.inl k)) shM σ) (h0 : (∀ k : Int, 0 ≤ k → k < 20 → ¬ pMt tx a b k) → Q (some (.inl (-1))) shM σ) : sx_Run X 180 [.inr (.inr 124), .inl a, .inl b] shM σ Q := by
  obtain ⟨x0, x1, x2, x3⟩ := hx
  have w0 := pt_124_3 hT
  have l20 : fFm 20 = 97 := rfl
  refine sx_rule2 (own := 12) (cd := kX12_wordAt) (nL := 8) (by decide +kernel) (by decide +kernel) kX12_wordAt_ok (by decide +kernel) (Nat.le_of_ble_eq_true rfl) [5, 18, 57] 40 (fun n t L st _ σ' => (t = 5 ∧ ∃ k f : Int, ∃ w5 : Option sx_V, ∃ w6 : Option sx_V, ∃ w7 : Option sx_V, st = [] ∧ L = [some (.inr (.inr (124))), some (.inl (a)), some (.inl (b)), some (.inl (k)), some (.inl (f)), w5, w6, w7] ∧ (σ = σ' ∧ 0 ≤ k ∧ k ≤ 20 ∧ f = fFm k ∧ (∀ y : Int, 0 ≤ y → y < k → ¬ pMt tx a b y)) ∧ n = ((20 - k) * 100 + 50).toNat) ∨ (t = 18 ∧ ∃ k f m9 : Int, ∃ w6 : Option sx_V, ∃ w7 : Option sx_V, st = [] ∧ L = [some (.inr (.inr (124))), some (.inl (a)), some (.inl (b)), some (.inl (k)), some (.inl (f)), some (.inl (m9)), w6, w7] ∧ (σ = σ' ∧ 0 ≤ k ∧ k < 20 ∧ f = fFm k ∧ (∀ y : Int, 0 ≤ y → y < k → ¬ pMt tx a b y) ∧ 0 ≤ m9 ∧ m9 ≤ fLn k) ∧ n = ((20 - k) * 100 + 40 - m9).toNat) ∨ (t = 57 ∧ ∃ k f m9 s y : Int, st = [] ∧ L = [some (.inr (.inr (124))), some (.inl (a)), some (.inl (b)), some (.inl (k)), some (.inl (f)), some (.inl (m9)), some (.inl (s)), some (.inl (y))] ∧ (σ = σ' ∧ 0 ≤ k ∧ k < 20 ∧ f = fFm k ∧ (∀ y : Int, 0 ≤ y → y < k → ¬ pMt tx a b y) ∧ m9 = fLn k ∧ ((s = 1 ∧ m9 = b - a ∧ ∀ j : Int, 0 ≤ j → j < y → fRw (f + j) = tx (a + j)) ∨ (s = 0 ∧ ¬ pMt tx a b k)) ∧ 0 ≤ y ∧ y ≤ m9) ∧ n = ((20 - k) * 100 + 20 - y).toNat)) ?_ ?_
  · skip
    conv => whnf
    refine ⟨_, Or.inl ⟨rfl, _, _, _, _, _, rfl, rfl, ?_, rfl⟩⟩
    exact ⟨rfl, by decide, by decide, rfl, fun y y0 y1 => by omega⟩
  · intro n t L st σ' hk
    rcases hk with hk | hk | hk
    · obtain ⟨rfl, k, f, w5, w6, w7, rfl, rfl, hc, rfl⟩ := hk
      obtain ⟨rfl, hk0, hk1, hf, hno⟩ := hc
      conv => whnf
      refine ⟨(by first | assumption | rfl), ?_⟩
      try simp (disch := omega) only [Int.cast_ofNat_Int, up_s, up_a, up_i, mp_a, mp_ge]
      try simp only [w0]
      try simp only [x0]
      try simp only [lk_126]
      try simp only [lk_125]
      conv => whnf
      refine ⟨by first | decide | (simp only [sx_cc]; decide), ?_⟩
      try simp (disch := omega) only [Int.cast_ofNat_Int, up_s, up_a, up_i, mp_a, mp_ge]
      try simp only [w0]
      try simp only [x0]
      try simp only [lk_126]
      try simp only [lk_125]
      conv => whnf
      refine ⟨fun g => ?_, fun g => ?_⟩
      · simp only [sx_cc, Classical.not_not] at g
        have ek : k = 20 := by
          by_cases e9 : k < 20
          · have := wr_sI ⟨hk0, e9⟩; omega
          · omega
        skip
        conv => whnf
        refine ⟨fun q9 => by first | (simp at q9; done) | omega, ?_⟩
        first | (refine h1 k hk0 hk1 ?_; rcases hs with ⟨_, hs1, hs2⟩ | ⟨hs, _⟩; (exact ⟨by omega, fun j j0 j1 => by rw [← hf]; exact hs2 j j0 (by omega)⟩); omega) | (rw [ek] at hno; exact h0 hno)
      · simp only [sx_cc, Classical.not_not] at g
        have hk2 : k < 20 := by
          by_cases e9 : k = 20
          · rw [e9] at hf; omega
          · omega
        skip
        conv => whnf
        refine ⟨_, ?_, Or.inr (Or.inl ⟨rfl, _, _, _, _, _, rfl, rfl, ?_, rfl⟩)⟩
        · omega
        · exact ⟨rfl, hk0, hk2, hf, hno, by decide, by have := wr_sI ⟨hk0, hk2⟩; omega⟩
    · obtain ⟨rfl, k, f, m9, w6, w7, rfl, rfl, hc, rfl⟩ := hk
      obtain ⟨rfl, hk0, hk1, hf, hno, hn⟩ := hc
      have ws := wr_sI ⟨hk0, hk1⟩
      conv => whnf
      refine ⟨(by first | assumption | rfl), ?_⟩
      try simp (disch := omega) only [Int.cast_ofNat_Int, up_s, up_a, up_i, mp_a, mp_ge]
      try simp only [w0]
      try simp only [x0]
      try simp only [lk_126]
      try simp only [lk_125]
      conv => whnf
      refine ⟨⟨by omega, by omega⟩, ?_⟩
      conv => whnf
      refine ⟨sx_ixI (by first | assumption | rfl) (by omega) (by omega), ?_⟩
      try simp (disch := omega) only [Int.cast_ofNat_Int, up_s, up_a, up_i, mp_a, mp_ge]
      try simp only [w0]
      try simp only [x0]
      try simp only [lk_126]
      try simp only [lk_125]
      conv => whnf
      refine ⟨fun g => ?_, fun g => ?_⟩
      · simp only [sx_cc, Classical.not_not] at g
        rw [hwd (f + m9) (by omega) (by omega), hf, wr_tI ⟨hk0, hk1⟩ hn] at g
        have g9 := g
        conv => whnf
        refine ⟨⟨by omega, by omega⟩, ?_⟩
        conv => whnf
        refine ⟨fun g => ?_, fun g => ?_⟩
        · simp only [sx_cc, Classical.not_not] at g
          conv => whnf
          refine ⟨_, ?_, Or.inr (Or.inr (⟨rfl, _, _, _, _, _, rfl, rfl, ?_, rfl⟩))⟩
          · omega
          · refine ⟨rfl, hk0, hk1, hf, hno, g9, ?_, by decide, by omega⟩
            first | exact Or.inl ⟨rfl, by omega, fun j j0 j1 => by omega⟩ | exact Or.inr ⟨rfl, fun z9 => by have := z9.1; omega⟩
        · simp only [sx_cc, Classical.not_not] at g
          conv => whnf
          refine ⟨_, ?_, Or.inr (Or.inr (⟨rfl, _, _, _, _, _, rfl, rfl, ?_, rfl⟩))⟩
          · omega
          · refine ⟨rfl, hk0, hk1, hf, hno, g9, ?_, by decide, by omega⟩
            first | exact Or.inl ⟨rfl, by omega, fun j j0 j1 => by omega⟩ | exact Or.inr ⟨rfl, fun z9 => by have := z9.1; omega⟩
      · simp only [sx_cc, Classical.not_not] at g
        rw [hwd (f + m9) (by omega) (by omega), hf, wr_tI ⟨hk0, hk1⟩ hn] at g
        have g9 := g
        conv => whnf
        refine ⟨⟨by omega, by omega⟩, ?_⟩
        conv => whnf
        refine ⟨_, ?_, Or.inr (Or.inl ⟨rfl, _, _, _, _, _, rfl, rfl, ?_, rfl⟩)⟩
        · omega
        · exact ⟨rfl, hk0, hk1, hf, hno, by omega, by omega⟩
    · obtain ⟨rfl, k, f, m9, s, y, rfl, rfl, hc, rfl⟩ := hk
      obtain ⟨rfl, hk0, hk1, hf, hno, hn, hs, hy⟩ := hc
      have ws := wr_sI ⟨hk0, hk1⟩
      conv => whnf
      refine ⟨fun g => ?_, fun g => ?_⟩
      · simp only [sx_cc, Classical.not_not] at g
        conv => whnf
        refine ⟨fun g => ?_, fun g => ?_⟩
        · simp only [sx_cc, Classical.not_not] at g
          conv => whnf
          refine ⟨⟨by omega, by omega⟩, ?_⟩
          conv => whnf
          refine ⟨⟨by omega, by omega⟩, ?_⟩
          conv => whnf
          refine ⟨⟨by omega, by omega⟩, ?_⟩
          conv => whnf
          refine ⟨_, ?_, Or.inl ⟨rfl, _, _, _, _, _, rfl, rfl, ?_, rfl⟩⟩
          · omega
          · refine ⟨rfl, by omega, by omega, by rw [(wr_sI ⟨hk0, hk1⟩).2.2.1]; omega, fun z z0 z1 => ?_⟩
            by_cases e9 : z = k
            · rw [e9]
              rcases hs with ⟨hs0, _, _⟩ | ⟨_, hs⟩
              · omega
              · exact hs
            · exact hno z z0 (by omega)
        · simp only [sx_cc, Classical.not_not] at g
          conv => whnf
          refine ⟨fun q9 => by first | (simp at q9; done) | omega, ?_⟩
          first | (refine h1 k hk0 hk1 ?_; rcases hs with ⟨_, hs1, hs2⟩ | ⟨hs, _⟩; (exact ⟨by omega, fun j j0 j1 => by rw [← hf]; exact hs2 j j0 (by omega)⟩); omega) | (rw [ek] at hno; exact h0 hno)
      · simp only [sx_cc, Classical.not_not] at g
        conv => whnf
        refine ⟨fun g => ?_, fun g => ?_⟩
        · simp only [sx_cc, Classical.not_not] at g
          conv => whnf
          refine ⟨fun g => ?_, fun g => ?_⟩
          · simp only [sx_cc, Classical.not_not] at g
            conv => whnf
            refine ⟨⟨by omega, by omega⟩, ?_⟩
            conv => whnf
            refine ⟨⟨by omega, by omega⟩, ?_⟩
            conv => whnf
            refine ⟨⟨by omega, by omega⟩, ?_⟩
            conv => whnf
            refine ⟨_, ?_, Or.inl ⟨rfl, _, _, _, _, _, rfl, rfl, ?_, rfl⟩⟩
            · omega
            · refine ⟨rfl, by omega, by omega, by rw [(wr_sI ⟨hk0, hk1⟩).2.2.1]; omega, fun z z0 z1 => ?_⟩
              by_cases e9 : z = k
              · rw [e9]
                rcases hs with ⟨hs0, _, _⟩ | ⟨_, hs⟩
                · omega
                · exact hs
              · exact hno z z0 (by omega)
          · simp only [sx_cc, Classical.not_not] at g
            conv => whnf
            refine ⟨fun q9 => by first | (simp at q9; done) | omega, ?_⟩
            first | (refine h1 k hk0 hk1 ?_; rcases hs with ⟨_, hs1, hs2⟩ | ⟨hs, _⟩; (exact ⟨by omega, fun j j0 j1 => by rw [← hf]; exact hs2 j j0 (by omega)⟩); omega) | (rw [ek] at hno; exact h0 hno)
        · simp only [sx_cc, Classical.not_not] at g
          conv => whnf
          refine ⟨(by first | assumption | rfl), ?_⟩
          try simp (disch := omega) only [Int.cast_ofNat_Int, up_s, up_a, up_i, mp_a, mp_ge]
          try simp only [w0]
          try simp only [x0]
          try simp only [lk_126]
          try simp only [lk_125]
          conv => whnf
          refine ⟨⟨by omega, by omega⟩, ?_⟩
          conv => whnf
          refine ⟨sx_ixI (by first | assumption | rfl) (by omega) (by omega), ?_⟩
          try simp (disch := omega) only [Int.cast_ofNat_Int, up_s, up_a, up_i, mp_a, mp_ge]
          try simp only [w0]
          try simp only [x0]
          try simp only [lk_126]
          try simp only [lk_125]
          conv => whnf
          refine ⟨(by first | assumption | rfl), ?_⟩
          try simp (disch := omega) only [Int.cast_ofNat_Int, up_s, up_a, up_i, mp_a, mp_ge]
          try simp only [w0]
          try simp only [x0]
          try simp only [lk_126]
          try simp only [lk_125]
          conv => whnf
          refine ⟨⟨by omega, by omega⟩, ?_⟩
          conv => whnf
          refine ⟨sx_ixI (by first | assumption | rfl) (by omega) (by omega), ?_⟩
          try simp (disch := omega) only [Int.cast_ofNat_Int, up_s, up_a, up_i, mp_a, mp_ge]
          try simp only [w0]
          try simp only [x0]
          try simp only [lk_126]
          try simp only [lk_125]
          conv => whnf
          refine ⟨fun g => ?_, fun g => ?_⟩
          · simp only [sx_cc, Classical.not_not] at g
            rw [hwd (f + y) (by omega) (by omega), x3 (a + y) (by omega) (by omega)] at g
            conv => whnf
            refine ⟨⟨by omega, by omega⟩, ?_⟩
            conv => whnf
            refine ⟨_, ?_, Or.inr (Or.inr (⟨rfl, _, _, _, _, _, rfl, rfl, ?_, rfl⟩))⟩
            · omega
            · refine ⟨rfl, hk0, hk1, hf, hno, hn, ?_, by omega, by omega⟩
              rcases hs with ⟨hs0, hs1, hs2⟩ | ⟨hs, _⟩
              · first
                | exact Or.inl ⟨rfl, hs1, fun j j0 j1 => by
                    by_cases e9 : j = y
                    · rw [e9]; exact g
                    · exact hs2 j j0 (by omega)⟩
                | exact Or.inr ⟨rfl, fun z9 => g (by rw [hf]; exact z9.2 y (by omega) (by omega))⟩
              · omega
          · simp only [sx_cc, Classical.not_not] at g
            rw [hwd (f + y) (by omega) (by omega), x3 (a + y) (by omega) (by omega)] at g
            conv => whnf
            refine ⟨⟨by omega, by omega⟩, ?_⟩
            conv => whnf
            refine ⟨_, ?_, Or.inr (Or.inr (⟨rfl, _, _, _, _, _, rfl, rfl, ?_, rfl⟩))⟩
            · omega
            · refine ⟨rfl, hk0, hk1, hf, hno, hn, ?_, by omega, by omega⟩
              rcases hs with ⟨hs0, hs1, hs2⟩ | ⟨hs, _⟩
              · first
                | exact Or.inl ⟨rfl, hs1, fun j j0 j1 => by
                    by_cases e9 : j = y
                    · rw [e9]; exact g
                    · exact hs2 j j0 (by omega)⟩
                | exact Or.inr ⟨rfl, fun z9 => g (by rw [hf]; exact z9.2 y (by omega) (by omega))⟩
              · omega
set_option maxRecDepth 20000 in
theorem c_Rpacked (hT : PT σ) (hx : rLx σ tx n9) {a b : Int} (hab : 0 ≤ a ∧ a ≤ b ∧ b ≤ n9) (hl : ∀ j : Int, a ≤ j → j < b → pLet (tx j)) (h : Q (some (.inl (fPk tx a b))) shM σ) : sx_Run X 185 [.inr (.inr 124), .inl a, .inl b] shM σ Q := by
  obtain ⟨x0, x1, x2, x3⟩ := hx
  refine sx_rule2 (own := 12) (cd := kX12_packed) (nL := 5) (by decide +kernel) (by decide +kernel) kX12_packed_ok (by decide +kernel) (Nat.le_of_ble_eq_true rfl) [5] 40 (fun n t L st _ σ' => (t = 5 ∧ ∃ m9 k : Int, st = [] ∧ L = [some (.inr (.inr (124))), some (.inl (a)), some (.inl (b)), some (.inl (m9)), some (.inl (k))] ∧ (σ = σ' ∧ a ≤ k ∧ k ≤ a + 6 ∧ m9 = fPr tx a b (k - a).toNat) ∧ n = (a + 6 - k).toNat)) ?_ ?_
  · skip
    conv => whnf
    refine ⟨_, ⟨rfl, _, _, rfl, rfl, ?_, rfl⟩⟩
    exact ⟨rfl, by omega, by omega, by rw [show (a - a).toNat = 0 by omega]; rfl⟩
  · intro n t L st σ' hk
    obtain ⟨rfl, m9, k, rfl, rfl, hc, rfl⟩ := hk
    obtain ⟨rfl, hk0, hk1, hn⟩ := hc
    conv => whnf
    refine ⟨⟨by omega, by omega⟩, ?_⟩
    conv => whnf
    refine ⟨fun g => ?_, fun g => ?_⟩
    · simp only [sx_cc, Classical.not_not] at g
      conv => whnf
      refine ⟨fun q9 => by first | (simp at q9; done) | omega, ?_⟩
      rw [hn, show (k - a).toNat = 6 by omega, fPr_6]; exact h
    · simp only [sx_cc, Classical.not_not] at g
      conv => whnf
      refine ⟨fun g => ?_, fun g => ?_⟩
      · simp only [sx_cc, Classical.not_not] at g
        conv => whnf
        refine ⟨⟨by omega, by omega⟩, ?_⟩
        conv => whnf
        refine ⟨_, ?_, ⟨rfl, _, _, rfl, rfl, ?_, rfl⟩⟩
        · omega
        · refine ⟨rfl, by omega, by omega, ?_⟩
          rw [hn]
          first
          | (exact fPr_s hl (by omega) (by rw [fD_lt (by omega), show a + (k - a) = k by omega]))
          | exact fPr_s hl (by omega) (by rw [fD_ge (by omega)])
      · simp only [sx_cc, Classical.not_not] at g
        have t9 := x3 k (by omega) (by omega)
        have l9 := hl k (by omega) (by omega)
        conv => whnf
        refine ⟨(by first | assumption | rfl), ?_⟩
        try simp (disch := omega) only [Int.cast_ofNat_Int, up_s, up_a, up_i, mp_a, mp_ge]
        try simp only [x0]
        try simp only [lk_125]
        try simp only [t9]
        conv => whnf
        refine ⟨sx_ixI (by first | assumption | rfl) (by omega) (by omega), ?_⟩
        try simp (disch := omega) only [Int.cast_ofNat_Int, up_s, up_a, up_i, mp_a, mp_ge]
        try simp only [x0]
        try simp only [lk_125]
        try simp only [t9]
        conv => whnf
        refine ⟨⟨by omega, by omega⟩, ?_⟩
        conv => whnf
        refine ⟨⟨by omega, by omega⟩, ?_⟩
        conv => whnf
        refine ⟨_, ?_, ⟨rfl, _, _, rfl, rfl, ?_, rfl⟩⟩
        · omega
        · refine ⟨rfl, by omega, by omega, ?_⟩
          rw [hn]
          first
          | (exact fPr_s hl (by omega) (by rw [fD_lt (by omega), show a + (k - a) = k by omega]))
          | exact fPr_s hl (by omega) (by rw [fD_ge (by omega)])
set_option maxRecDepth 20000 in
theorem c_Rsign (hT : PT σ) (hx : rLx σ tx n9) {y : Int} (en : σ 124 7 = y) (hy : 0 ≤ y ∧ y < n9) (h : ∀ (σ' : sx_S), fr FRt σ σ' → σ' 124 10 = σ 124 10 → σ' 124 7 = (if fTwo (fTx tx n9 y) (fTx tx n9 (y + 1)) then y + 2 else y + 1) → pSt (fTx tx n9 y) (fTx tx n9 (y + 1)) (σ' 124 8) (σ' 124 9) → Q none shM σ') : sx_Run X 184 [.inr (.inr 124)] shM σ Q := by
  obtain ⟨x0, x1, x2, x3⟩ := hx
  have t0 := x3 y hy.1 hy.2
  have e0 : fTx tx n9 y = tx y := fTx_p hy.2
  refine sx_rule0 (own := 12) (cd := kX12_signToken) (nL := 4) (by decide +kernel) (by decide +kernel) kX12_signToken_ok (by decide +kernel) (Nat.le_of_ble_eq_true rfl) 40 ?_
  conv => whnf
  refine ⟨(by first | assumption | rfl), ?_⟩
  try simp (disch := omega) only [Int.cast_ofNat_Int, up_s, up_a, up_i, mp_a, mp_ge]
  try simp only [x0]
  try simp only [x1]
  try simp only [en]
  try simp only [t0]
  try simp only [lk_125]
  conv => whnf
  refine ⟨(by first | assumption | rfl), ?_⟩
  try simp (disch := omega) only [Int.cast_ofNat_Int, up_s, up_a, up_i, mp_a, mp_ge]
  try simp only [x0]
  try simp only [x1]
  try simp only [en]
  try simp only [t0]
  try simp only [lk_125]
  conv => whnf
  refine ⟨sx_ixI (by first | assumption | rfl) (by omega) (by omega), ?_⟩
  try simp (disch := omega) only [Int.cast_ofNat_Int, up_s, up_a, up_i, mp_a, mp_ge]
  try simp only [x0]
  try simp only [x1]
  try simp only [en]
  try simp only [t0]
  try simp only [lk_125]
  conv => whnf
  refine ⟨(by first | assumption | rfl), ?_⟩
  try simp (disch := omega) only [Int.cast_ofNat_Int, up_s, up_a, up_i, mp_a, mp_ge]
  try simp only [x0]
  try simp only [x1]
  try simp only [en]
  try simp only [t0]
  try simp only [lk_125]
  conv => whnf
  refine ⟨(by first | assumption | rfl), ?_⟩
  try simp (disch := omega) only [Int.cast_ofNat_Int, up_s, up_a, up_i, mp_a, mp_ge]
  try simp only [x0]
  try simp only [x1]
  try simp only [en]
  try simp only [t0]
  try simp only [lk_125]
  conv => whnf
  refine ⟨⟨by omega, by omega⟩, ?_⟩
  conv => whnf
  refine ⟨(by first | assumption | rfl), ?_⟩
  try simp (disch := omega) only [Int.cast_ofNat_Int, up_s, up_a, up_i, mp_a, mp_ge]
  try simp only [x0]
  try simp only [x1]
  try simp only [en]
  try simp only [t0]
  try simp only [lk_125]
  conv => whnf
  refine ⟨(by first | assumption | rfl), ?_⟩
  try simp (disch := omega) only [Int.cast_ofNat_Int, up_s, up_a, up_i, mp_a, mp_ge]
  try simp only [x0]
  try simp only [x1]
  try simp only [en]
  try simp only [t0]
  try simp only [lk_125]
  conv => whnf
  refine ⟨fun g => ?_, fun g => ?_⟩
  · simp only [sx_cc, Classical.not_not] at g
    conv => whnf
    refine ⟨(by first | assumption | rfl), ?_⟩
    try simp (disch := omega) only [Int.cast_ofNat_Int, up_s, up_a, up_i, mp_a, mp_ge]
    try simp only [x0]
    try simp only [x1]
    try simp only [en]
    try simp only [t0]
    try simp only [lk_125]
    conv => whnf
    refine ⟨(by first | assumption | rfl), ?_⟩
    try simp (disch := omega) only [Int.cast_ofNat_Int, up_s, up_a, up_i, mp_a, mp_ge]
    try simp only [x0]
    try simp only [x1]
    try simp only [en]
    try simp only [t0]
    try simp only [lk_125]
    conv => whnf
    refine ⟨fun g => ?_, fun g => ?_⟩
    · simp only [sx_cc, Classical.not_not] at g
      have e1 : fTx tx n9 (y + 1) = 0 := fTx_n (by omega)
      conv => whnf
      refine ⟨(by first | assumption | rfl), ?_⟩
      try simp (disch := omega) only [Int.cast_ofNat_Int, up_s, up_a, up_i, mp_a, mp_ge]
      try simp only [x0]
      try simp only [x1]
      try simp only [en]
      try simp only [t0]
      try simp only [lk_125]
      conv => whnf
      refine ⟨fun g => ?_, fun g => ?_⟩
      · simp only [sx_cc, Classical.not_not] at g
        conv => whnf
        refine ⟨(by first | assumption | rfl), ?_⟩
        try simp (disch := omega) only [Int.cast_ofNat_Int, up_s, up_a, up_i, mp_a, mp_ge]
        try simp only [x0]
        try simp only [x1]
        try simp only [en]
        try simp only [t0]
        try simp only [lk_125]
        conv => whnf
        refine ⟨fun g => ?_, fun g => ?_⟩
        · simp only [sx_cc, Classical.not_not] at g
          conv => whnf
          refine ⟨fun g => ?_, fun g => ?_⟩
          · exact absurd g (by simp [sx_cc])
          · skip
            conv => whnf
            refine ⟨fun g => ?_, fun g => ?_⟩
            · skip
              conv => whnf
              refine ⟨(by first | assumption | rfl), ?_⟩
              try simp (disch := omega) only [Int.cast_ofNat_Int, up_s, up_a, up_i, mp_a, mp_ge]
              try simp only [x0]
              try simp only [x1]
              try simp only [en]
              try simp only [t0]
              try simp only [lk_125]
              conv => whnf
              refine ⟨(by first | assumption | rfl), ?_⟩
              try simp (disch := omega) only [Int.cast_ofNat_Int, up_s, up_a, up_i, mp_a, mp_ge]
              try simp only [x0]
              try simp only [x1]
              try simp only [en]
              try simp only [t0]
              try simp only [lk_125]
              conv => whnf
              refine ⟨fun g => ?_, fun g => ?_⟩
              · simp only [sx_cc, Classical.not_not] at g
                conv => whnf
                refine ⟨(by first | assumption | rfl), ?_⟩
                try simp (disch := omega) only [Int.cast_ofNat_Int, up_s, up_a, up_i, mp_a, mp_ge]
                try simp only [x0]
                try simp only [x1]
                try simp only [en]
                try simp only [t0]
                try simp only [lk_125]
                conv => whnf
                refine ⟨fun g => ?_, fun g => ?_⟩
                · simp only [sx_cc, Classical.not_not] at g
                  conv => whnf
                  refine ⟨fun g => ?_, fun g => ?_⟩
                  · skip
                    conv => whnf
                    refine ⟨(by first | assumption | rfl), ?_⟩
                    try simp (disch := omega) only [Int.cast_ofNat_Int, up_s, up_a, up_i, mp_a, mp_ge]
                    try simp only [x0]
                    try simp only [x1]
                    try simp only [en]
                    try simp only [t0]
                    try simp only [lk_125]
                    conv => whnf
                    refine ⟨rfl, ?_⟩
                    refine h _ (fun a j z9 => by unfold FRt at z9; repeat (first | rw [up_n (by omega)] | rfl)) (by repeat (first | rw [up_i (by decide)] | rfl)) ?_ ?_
                    · repeat rw [up_i (by decide)]
                      rw [up_s]
                      rw [e0]
                      first
                      | (rw [e1]; first | (rw [if_pos (by unfold fTwo; omega)]; omega) | rw [if_neg (by unfold fTwo; omega)])
                      | rw [if_neg (by unfold fTwo; omega)]
                    · rw [e0]
                      try rw [e1]
                      simp (disch := omega) only [up_s, up_i]
                      first
                      | exact Or.inl ⟨by omega, by omega, by omega, by omega⟩
                      | exact Or.inr (Or.inl ⟨by omega, by omega, by omega, by omega⟩)
                      | exact Or.inr (Or.inr (Or.inl ⟨by omega, by omega, by omega, by omega, by omega⟩))
                      | exact Or.inr (Or.inr (Or.inr (Or.inl ⟨by omega, by omega, by omega⟩)))
                      | exact Or.inr (Or.inr (Or.inr (Or.inr (Or.inl ⟨by omega, by omega, by omega, by omega⟩))))
                      | exact Or.inr (Or.inr (Or.inr (Or.inr (Or.inr (Or.inl ⟨by omega, by omega, by omega, by omega⟩)))))
                      | exact Or.inr (Or.inr (Or.inr (Or.inr (Or.inr (Or.inr (Or.inl ⟨by omega, by omega, by omega⟩))))))
                      | exact Or.inr (Or.inr (Or.inr (Or.inr (Or.inr (Or.inr (Or.inr ⟨fun z => by rcases z with z | z | z | z | z | z | z | z | z | z | z <;> omega, by omega⟩))))))
                  · exact absurd g (by simp [sx_cc])
                · simp only [sx_cc, Classical.not_not] at g
                  conv => whnf
                  refine ⟨fun g => ?_, fun g => ?_⟩
                  · skip
                    conv => whnf
                    refine ⟨fun g => ?_, fun g => ?_⟩
                    · skip
                      conv => whnf
                      refine ⟨(by first | assumption | rfl), ?_⟩
                      try simp (disch := omega) only [Int.cast_ofNat_Int, up_s, up_a, up_i, mp_a, mp_ge]
                      try simp only [x0]
                      try simp only [x1]
                      try simp only [en]
                      try simp only [t0]
                      try simp only [lk_125]
                      conv => whnf
                      refine ⟨rfl, ?_⟩
                      refine h _ (fun a j z9 => by unfold FRt at z9; repeat (first | rw [up_n (by omega)] | rfl)) (by repeat (first | rw [up_i (by decide)] | rfl)) ?_ ?_
                      · repeat rw [up_i (by decide)]
                        rw [up_s]
                        rw [e0]
                        first
                        | (rw [e1]; first | (rw [if_pos (by unfold fTwo; omega)]; omega) | rw [if_neg (by unfold fTwo; omega)])
                        | rw [if_neg (by unfold fTwo; omega)]
                      · rw [e0]
                        try rw [e1]
                        simp (disch := omega) only [up_s, up_i]
                        first
                        | exact Or.inl ⟨by omega, by omega, by omega, by omega⟩
                        | exact Or.inr (Or.inl ⟨by omega, by omega, by omega, by omega⟩)
                        | exact Or.inr (Or.inr (Or.inl ⟨by omega, by omega, by omega, by omega, by omega⟩))
                        | exact Or.inr (Or.inr (Or.inr (Or.inl ⟨by omega, by omega, by omega⟩)))
                        | exact Or.inr (Or.inr (Or.inr (Or.inr (Or.inl ⟨by omega, by omega, by omega, by omega⟩))))
                        | exact Or.inr (Or.inr (Or.inr (Or.inr (Or.inr (Or.inl ⟨by omega, by omega, by omega, by omega⟩)))))
                        | exact Or.inr (Or.inr (Or.inr (Or.inr (Or.inr (Or.inr (Or.inl ⟨by omega, by omega, by omega⟩))))))
                        | exact Or.inr (Or.inr (Or.inr (Or.inr (Or.inr (Or.inr (Or.inr ⟨fun z => by rcases z with z | z | z | z | z | z | z | z | z | z | z <;> omega, by omega⟩))))))
                    · exact absurd g (by simp [sx_cc])
                  · exact absurd g (by simp [sx_cc])
              · simp only [sx_cc, Classical.not_not] at g
                conv => whnf
                refine ⟨(by first | assumption | rfl), ?_⟩
                try simp (disch := omega) only [Int.cast_ofNat_Int, up_s, up_a, up_i, mp_a, mp_ge]
                try simp only [x0]
                try simp only [x1]
                try simp only [en]
                try simp only [t0]
                try simp only [lk_125]
                conv => whnf
                refine ⟨rfl, ?_⟩
                refine h _ (fun a j z9 => by unfold FRt at z9; repeat (first | rw [up_n (by omega)] | rfl)) (by repeat (first | rw [up_i (by decide)] | rfl)) ?_ ?_
                · repeat rw [up_i (by decide)]
                  rw [up_s]
                  rw [e0]
                  first
                  | (rw [e1]; first | (rw [if_pos (by unfold fTwo; omega)]; omega) | rw [if_neg (by unfold fTwo; omega)])
                  | rw [if_neg (by unfold fTwo; omega)]
                · rw [e0]
                  try rw [e1]
                  simp (disch := omega) only [up_s, up_i]
                  first
                  | exact Or.inl ⟨by omega, by omega, by omega, by omega⟩
                  | exact Or.inr (Or.inl ⟨by omega, by omega, by omega, by omega⟩)
                  | exact Or.inr (Or.inr (Or.inl ⟨by omega, by omega, by omega, by omega, by omega⟩))
                  | exact Or.inr (Or.inr (Or.inr (Or.inl ⟨by omega, by omega, by omega⟩)))
                  | exact Or.inr (Or.inr (Or.inr (Or.inr (Or.inl ⟨by omega, by omega, by omega, by omega⟩))))
                  | exact Or.inr (Or.inr (Or.inr (Or.inr (Or.inr (Or.inl ⟨by omega, by omega, by omega, by omega⟩)))))
                  | exact Or.inr (Or.inr (Or.inr (Or.inr (Or.inr (Or.inr (Or.inl ⟨by omega, by omega, by omega⟩))))))
                  | exact Or.inr (Or.inr (Or.inr (Or.inr (Or.inr (Or.inr (Or.inr ⟨fun z => by rcases z with z | z | z | z | z | z | z | z | z | z | z <;> omega, by omega⟩))))))
            · exact absurd g (by simp [sx_cc])
        · simp only [sx_cc, Classical.not_not] at g
          conv => whnf
          refine ⟨fun g => ?_, fun g => ?_⟩
          · skip
            conv => whnf
            refine ⟨fun g => ?_, fun g => ?_⟩
            · exact absurd g (by simp [sx_cc])
            · skip
              conv => whnf
              refine ⟨fun g => ?_, fun g => ?_⟩
              · skip
                conv => whnf
                refine ⟨(by first | assumption | rfl), ?_⟩
                try simp (disch := omega) only [Int.cast_ofNat_Int, up_s, up_a, up_i, mp_a, mp_ge]
                try simp only [x0]
                try simp only [x1]
                try simp only [en]
                try simp only [t0]
                try simp only [lk_125]
                conv => whnf
                refine ⟨(by first | assumption | rfl), ?_⟩
                try simp (disch := omega) only [Int.cast_ofNat_Int, up_s, up_a, up_i, mp_a, mp_ge]
                try simp only [x0]
                try simp only [x1]
                try simp only [en]
                try simp only [t0]
                try simp only [lk_125]
                conv => whnf
                refine ⟨fun g => ?_, fun g => ?_⟩
                · simp only [sx_cc, Classical.not_not] at g
                  conv => whnf
                  refine ⟨(by first | assumption | rfl), ?_⟩
                  try simp (disch := omega) only [Int.cast_ofNat_Int, up_s, up_a, up_i, mp_a, mp_ge]
                  try simp only [x0]
                  try simp only [x1]
                  try simp only [en]
                  try simp only [t0]
                  try simp only [lk_125]
                  conv => whnf
                  refine ⟨fun g => ?_, fun g => ?_⟩
                  · simp only [sx_cc, Classical.not_not] at g
                    conv => whnf
                    refine ⟨fun g => ?_, fun g => ?_⟩
                    · skip
                      conv => whnf
                      refine ⟨(by first | assumption | rfl), ?_⟩
                      try simp (disch := omega) only [Int.cast_ofNat_Int, up_s, up_a, up_i, mp_a, mp_ge]
                      try simp only [x0]
                      try simp only [x1]
                      try simp only [en]
                      try simp only [t0]
                      try simp only [lk_125]
                      conv => whnf
                      refine ⟨rfl, ?_⟩
                      refine h _ (fun a j z9 => by unfold FRt at z9; repeat (first | rw [up_n (by omega)] | rfl)) (by repeat (first | rw [up_i (by decide)] | rfl)) ?_ ?_
                      · repeat rw [up_i (by decide)]
                        rw [up_s]
                        rw [e0]
                        first
                        | (rw [e1]; first | (rw [if_pos (by unfold fTwo; omega)]; omega) | rw [if_neg (by unfold fTwo; omega)])
                        | rw [if_neg (by unfold fTwo; omega)]
                      · rw [e0]
                        try rw [e1]
                        simp (disch := omega) only [up_s, up_i]
                        first
                        | exact Or.inl ⟨by omega, by omega, by omega, by omega⟩
                        | exact Or.inr (Or.inl ⟨by omega, by omega, by omega, by omega⟩)
                        | exact Or.inr (Or.inr (Or.inl ⟨by omega, by omega, by omega, by omega, by omega⟩))
                        | exact Or.inr (Or.inr (Or.inr (Or.inl ⟨by omega, by omega, by omega⟩)))
                        | exact Or.inr (Or.inr (Or.inr (Or.inr (Or.inl ⟨by omega, by omega, by omega, by omega⟩))))
                        | exact Or.inr (Or.inr (Or.inr (Or.inr (Or.inr (Or.inl ⟨by omega, by omega, by omega, by omega⟩)))))
                        | exact Or.inr (Or.inr (Or.inr (Or.inr (Or.inr (Or.inr (Or.inl ⟨by omega, by omega, by omega⟩))))))
                        | exact Or.inr (Or.inr (Or.inr (Or.inr (Or.inr (Or.inr (Or.inr ⟨fun z => by rcases z with z | z | z | z | z | z | z | z | z | z | z <;> omega, by omega⟩))))))
                    · exact absurd g (by simp [sx_cc])
                  · simp only [sx_cc, Classical.not_not] at g
                    conv => whnf
                    refine ⟨fun g => ?_, fun g => ?_⟩
                    · skip
                      conv => whnf
                      refine ⟨fun g => ?_, fun g => ?_⟩
                      · skip
                        conv => whnf
                        refine ⟨(by first | assumption | rfl), ?_⟩
                        try simp (disch := omega) only [Int.cast_ofNat_Int, up_s, up_a, up_i, mp_a, mp_ge]
                        try simp only [x0]
                        try simp only [x1]
                        try simp only [en]
                        try simp only [t0]
                        try simp only [lk_125]
                        conv => whnf
                        refine ⟨rfl, ?_⟩
                        refine h _ (fun a j z9 => by unfold FRt at z9; repeat (first | rw [up_n (by omega)] | rfl)) (by repeat (first | rw [up_i (by decide)] | rfl)) ?_ ?_
                        · repeat rw [up_i (by decide)]
                          rw [up_s]
                          rw [e0]
                          first
                          | (rw [e1]; first | (rw [if_pos (by unfold fTwo; omega)]; omega) | rw [if_neg (by unfold fTwo; omega)])
                          | rw [if_neg (by unfold fTwo; omega)]
                        · rw [e0]
                          try rw [e1]
                          simp (disch := omega) only [up_s, up_i]
                          first
                          | exact Or.inl ⟨by omega, by omega, by omega, by omega⟩
                          | exact Or.inr (Or.inl ⟨by omega, by omega, by omega, by omega⟩)
                          | exact Or.inr (Or.inr (Or.inl ⟨by omega, by omega, by omega, by omega, by omega⟩))
                          | exact Or.inr (Or.inr (Or.inr (Or.inl ⟨by omega, by omega, by omega⟩)))
                          | exact Or.inr (Or.inr (Or.inr (Or.inr (Or.inl ⟨by omega, by omega, by omega, by omega⟩))))
                          | exact Or.inr (Or.inr (Or.inr (Or.inr (Or.inr (Or.inl ⟨by omega, by omega, by omega, by omega⟩)))))
                          | exact Or.inr (Or.inr (Or.inr (Or.inr (Or.inr (Or.inr (Or.inl ⟨by omega, by omega, by omega⟩))))))
                          | exact Or.inr (Or.inr (Or.inr (Or.inr (Or.inr (Or.inr (Or.inr ⟨fun z => by rcases z with z | z | z | z | z | z | z | z | z | z | z <;> omega, by omega⟩))))))
                      · exact absurd g (by simp [sx_cc])
                    · exact absurd g (by simp [sx_cc])
                · simp only [sx_cc, Classical.not_not] at g
                  conv => whnf
                  refine ⟨(by first | assumption | rfl), ?_⟩
                  try simp (disch := omega) only [Int.cast_ofNat_Int, up_s, up_a, up_i, mp_a, mp_ge]
                  try simp only [x0]
                  try simp only [x1]
                  try simp only [en]
                  try simp only [t0]
                  try simp only [lk_125]
                  conv => whnf
                  refine ⟨rfl, ?_⟩
                  refine h _ (fun a j z9 => by unfold FRt at z9; repeat (first | rw [up_n (by omega)] | rfl)) (by repeat (first | rw [up_i (by decide)] | rfl)) ?_ ?_
                  · repeat rw [up_i (by decide)]
                    rw [up_s]
                    rw [e0]
                    first
                    | (rw [e1]; first | (rw [if_pos (by unfold fTwo; omega)]; omega) | rw [if_neg (by unfold fTwo; omega)])
                    | rw [if_neg (by unfold fTwo; omega)]
                  · rw [e0]
                    try rw [e1]
                    simp (disch := omega) only [up_s, up_i]
                    first
                    | exact Or.inl ⟨by omega, by omega, by omega, by omega⟩
                    | exact Or.inr (Or.inl ⟨by omega, by omega, by omega, by omega⟩)
                    | exact Or.inr (Or.inr (Or.inl ⟨by omega, by omega, by omega, by omega, by omega⟩))
                    | exact Or.inr (Or.inr (Or.inr (Or.inl ⟨by omega, by omega, by omega⟩)))
                    | exact Or.inr (Or.inr (Or.inr (Or.inr (Or.inl ⟨by omega, by omega, by omega, by omega⟩))))
                    | exact Or.inr (Or.inr (Or.inr (Or.inr (Or.inr (Or.inl ⟨by omega, by omega, by omega, by omega⟩)))))
                    | exact Or.inr (Or.inr (Or.inr (Or.inr (Or.inr (Or.inr (Or.inl ⟨by omega, by omega, by omega⟩))))))
                    | exact Or.inr (Or.inr (Or.inr (Or.inr (Or.inr (Or.inr (Or.inr ⟨fun z => by rcases z with z | z | z | z | z | z | z | z | z | z | z <;> omega, by omega⟩))))))
              · exact absurd g (by simp [sx_cc])
          · exact absurd g (by simp [sx_cc])
      · simp only [sx_cc, Classical.not_not] at g
        conv => whnf
        refine ⟨fun g => ?_, fun g => ?_⟩
        · skip
          conv => whnf
          refine ⟨(by first | assumption | rfl), ?_⟩
          try simp (disch := omega) only [Int.cast_ofNat_Int, up_s, up_a, up_i, mp_a, mp_ge]
          try simp only [x0]
          try simp only [x1]
          try simp only [en]
          try simp only [t0]
          try simp only [lk_125]
          conv => whnf
          refine ⟨fun g => ?_, fun g => ?_⟩
          · simp only [sx_cc, Classical.not_not] at g
            conv => whnf
            refine ⟨fun g => ?_, fun g => ?_⟩
            · exact absurd g (by simp [sx_cc])
            · skip
              conv => whnf
              refine ⟨fun g => ?_, fun g => ?_⟩
              · skip
                conv => whnf
                refine ⟨(by first | assumption | rfl), ?_⟩
                try simp (disch := omega) only [Int.cast_ofNat_Int, up_s, up_a, up_i, mp_a, mp_ge]
                try simp only [x0]
                try simp only [x1]
                try simp only [en]
                try simp only [t0]
                try simp only [lk_125]
                conv => whnf
                refine ⟨(by first | assumption | rfl), ?_⟩
                try simp (disch := omega) only [Int.cast_ofNat_Int, up_s, up_a, up_i, mp_a, mp_ge]
                try simp only [x0]
                try simp only [x1]
                try simp only [en]
                try simp only [t0]
                try simp only [lk_125]
                conv => whnf
                refine ⟨fun g => ?_, fun g => ?_⟩
                · simp only [sx_cc, Classical.not_not] at g
                  conv => whnf
                  refine ⟨(by first | assumption | rfl), ?_⟩
                  try simp (disch := omega) only [Int.cast_ofNat_Int, up_s, up_a, up_i, mp_a, mp_ge]
                  try simp only [x0]
                  try simp only [x1]
                  try simp only [en]
                  try simp only [t0]
                  try simp only [lk_125]
                  conv => whnf
                  refine ⟨fun g => ?_, fun g => ?_⟩
                  · simp only [sx_cc, Classical.not_not] at g
                    conv => whnf
                    refine ⟨fun g => ?_, fun g => ?_⟩
                    · skip
                      conv => whnf
                      refine ⟨(by first | assumption | rfl), ?_⟩
                      try simp (disch := omega) only [Int.cast_ofNat_Int, up_s, up_a, up_i, mp_a, mp_ge]
                      try simp only [x0]
                      try simp only [x1]
                      try simp only [en]
                      try simp only [t0]
                      try simp only [lk_125]
                      conv => whnf
                      refine ⟨rfl, ?_⟩
                      refine h _ (fun a j z9 => by unfold FRt at z9; repeat (first | rw [up_n (by omega)] | rfl)) (by repeat (first | rw [up_i (by decide)] | rfl)) ?_ ?_
                      · repeat rw [up_i (by decide)]
                        rw [up_s]
                        rw [e0]
                        first
                        | (rw [e1]; first | (rw [if_pos (by unfold fTwo; omega)]; omega) | rw [if_neg (by unfold fTwo; omega)])
                        | rw [if_neg (by unfold fTwo; omega)]
                      · rw [e0]
                        try rw [e1]
                        simp (disch := omega) only [up_s, up_i]
                        first
                        | exact Or.inl ⟨by omega, by omega, by omega, by omega⟩
                        | exact Or.inr (Or.inl ⟨by omega, by omega, by omega, by omega⟩)
                        | exact Or.inr (Or.inr (Or.inl ⟨by omega, by omega, by omega, by omega, by omega⟩))
                        | exact Or.inr (Or.inr (Or.inr (Or.inl ⟨by omega, by omega, by omega⟩)))
                        | exact Or.inr (Or.inr (Or.inr (Or.inr (Or.inl ⟨by omega, by omega, by omega, by omega⟩))))
                        | exact Or.inr (Or.inr (Or.inr (Or.inr (Or.inr (Or.inl ⟨by omega, by omega, by omega, by omega⟩)))))
                        | exact Or.inr (Or.inr (Or.inr (Or.inr (Or.inr (Or.inr (Or.inl ⟨by omega, by omega, by omega⟩))))))
                        | exact Or.inr (Or.inr (Or.inr (Or.inr (Or.inr (Or.inr (Or.inr ⟨fun z => by rcases z with z | z | z | z | z | z | z | z | z | z | z <;> omega, by omega⟩))))))
                    · exact absurd g (by simp [sx_cc])
                  · simp only [sx_cc, Classical.not_not] at g
                    conv => whnf
                    refine ⟨fun g => ?_, fun g => ?_⟩
                    · skip
                      conv => whnf
                      refine ⟨fun g => ?_, fun g => ?_⟩
                      · skip
                        conv => whnf
                        refine ⟨(by first | assumption | rfl), ?_⟩
                        try simp (disch := omega) only [Int.cast_ofNat_Int, up_s, up_a, up_i, mp_a, mp_ge]
                        try simp only [x0]
                        try simp only [x1]
                        try simp only [en]
                        try simp only [t0]
                        try simp only [lk_125]
                        conv => whnf
                        refine ⟨rfl, ?_⟩
                        refine h _ (fun a j z9 => by unfold FRt at z9; repeat (first | rw [up_n (by omega)] | rfl)) (by repeat (first | rw [up_i (by decide)] | rfl)) ?_ ?_
                        · repeat rw [up_i (by decide)]
                          rw [up_s]
                          rw [e0]
                          first
                          | (rw [e1]; first | (rw [if_pos (by unfold fTwo; omega)]; omega) | rw [if_neg (by unfold fTwo; omega)])
                          | rw [if_neg (by unfold fTwo; omega)]
                        · rw [e0]
                          try rw [e1]
                          simp (disch := omega) only [up_s, up_i]
                          first
                          | exact Or.inl ⟨by omega, by omega, by omega, by omega⟩
                          | exact Or.inr (Or.inl ⟨by omega, by omega, by omega, by omega⟩)
                          | exact Or.inr (Or.inr (Or.inl ⟨by omega, by omega, by omega, by omega, by omega⟩))
                          | exact Or.inr (Or.inr (Or.inr (Or.inl ⟨by omega, by omega, by omega⟩)))
                          | exact Or.inr (Or.inr (Or.inr (Or.inr (Or.inl ⟨by omega, by omega, by omega, by omega⟩))))
                          | exact Or.inr (Or.inr (Or.inr (Or.inr (Or.inr (Or.inl ⟨by omega, by omega, by omega, by omega⟩)))))
                          | exact Or.inr (Or.inr (Or.inr (Or.inr (Or.inr (Or.inr (Or.inl ⟨by omega, by omega, by omega⟩))))))
                          | exact Or.inr (Or.inr (Or.inr (Or.inr (Or.inr (Or.inr (Or.inr ⟨fun z => by rcases z with z | z | z | z | z | z | z | z | z | z | z <;> omega, by omega⟩))))))
                      · exact absurd g (by simp [sx_cc])
                    · exact absurd g (by simp [sx_cc])
                · simp only [sx_cc, Classical.not_not] at g
                  conv => whnf
                  refine ⟨(by first | assumption | rfl), ?_⟩
                  try simp (disch := omega) only [Int.cast_ofNat_Int, up_s, up_a, up_i, mp_a, mp_ge]
                  try simp only [x0]
                  try simp only [x1]
                  try simp only [en]
                  try simp only [t0]
                  try simp only [lk_125]
                  conv => whnf
                  refine ⟨rfl, ?_⟩
                  refine h _ (fun a j z9 => by unfold FRt at z9; repeat (first | rw [up_n (by omega)] | rfl)) (by repeat (first | rw [up_i (by decide)] | rfl)) ?_ ?_
                  · repeat rw [up_i (by decide)]
                    rw [up_s]
                    rw [e0]
                    first
                    | (rw [e1]; first | (rw [if_pos (by unfold fTwo; omega)]; omega) | rw [if_neg (by unfold fTwo; omega)])
                    | rw [if_neg (by unfold fTwo; omega)]
                  · rw [e0]
                    try rw [e1]
                    simp (disch := omega) only [up_s, up_i]
                    first
                    | exact Or.inl ⟨by omega, by omega, by omega, by omega⟩
                    | exact Or.inr (Or.inl ⟨by omega, by omega, by omega, by omega⟩)
                    | exact Or.inr (Or.inr (Or.inl ⟨by omega, by omega, by omega, by omega, by omega⟩))
                    | exact Or.inr (Or.inr (Or.inr (Or.inl ⟨by omega, by omega, by omega⟩)))
                    | exact Or.inr (Or.inr (Or.inr (Or.inr (Or.inl ⟨by omega, by omega, by omega, by omega⟩))))
                    | exact Or.inr (Or.inr (Or.inr (Or.inr (Or.inr (Or.inl ⟨by omega, by omega, by omega, by omega⟩)))))
                    | exact Or.inr (Or.inr (Or.inr (Or.inr (Or.inr (Or.inr (Or.inl ⟨by omega, by omega, by omega⟩))))))
                    | exact Or.inr (Or.inr (Or.inr (Or.inr (Or.inr (Or.inr (Or.inr ⟨fun z => by rcases z with z | z | z | z | z | z | z | z | z | z | z <;> omega, by omega⟩))))))
              · exact absurd g (by simp [sx_cc])
          · simp only [sx_cc, Classical.not_not] at g
            conv => whnf
            refine ⟨fun g => ?_, fun g => ?_⟩
            · skip
              conv => whnf
              refine ⟨fun g => ?_, fun g => ?_⟩
              · exact absurd g (by simp [sx_cc])
              · skip
                conv => whnf
                refine ⟨fun g => ?_, fun g => ?_⟩
                · skip
                  conv => whnf
                  refine ⟨(by first | assumption | rfl), ?_⟩
                  try simp (disch := omega) only [Int.cast_ofNat_Int, up_s, up_a, up_i, mp_a, mp_ge]
                  try simp only [x0]
                  try simp only [x1]
                  try simp only [en]
                  try simp only [t0]
                  try simp only [lk_125]
                  conv => whnf
                  refine ⟨(by first | assumption | rfl), ?_⟩
                  try simp (disch := omega) only [Int.cast_ofNat_Int, up_s, up_a, up_i, mp_a, mp_ge]
                  try simp only [x0]
                  try simp only [x1]
                  try simp only [en]
                  try simp only [t0]
                  try simp only [lk_125]
                  conv => whnf
                  refine ⟨fun g => ?_, fun g => ?_⟩
                  · simp only [sx_cc, Classical.not_not] at g
                    conv => whnf
                    refine ⟨(by first | assumption | rfl), ?_⟩
                    try simp (disch := omega) only [Int.cast_ofNat_Int, up_s, up_a, up_i, mp_a, mp_ge]
                    try simp only [x0]
                    try simp only [x1]
                    try simp only [en]
                    try simp only [t0]
                    try simp only [lk_125]
                    conv => whnf
                    refine ⟨fun g => ?_, fun g => ?_⟩
                    · simp only [sx_cc, Classical.not_not] at g
                      conv => whnf
                      refine ⟨fun g => ?_, fun g => ?_⟩
                      · skip
                        conv => whnf
                        refine ⟨(by first | assumption | rfl), ?_⟩
                        try simp (disch := omega) only [Int.cast_ofNat_Int, up_s, up_a, up_i, mp_a, mp_ge]
                        try simp only [x0]
                        try simp only [x1]
                        try simp only [en]
                        try simp only [t0]
                        try simp only [lk_125]
                        conv => whnf
                        refine ⟨rfl, ?_⟩
                        refine h _ (fun a j z9 => by unfold FRt at z9; repeat (first | rw [up_n (by omega)] | rfl)) (by repeat (first | rw [up_i (by decide)] | rfl)) ?_ ?_
                        · repeat rw [up_i (by decide)]
                          rw [up_s]
                          rw [e0]
                          first
                          | (rw [e1]; first | (rw [if_pos (by unfold fTwo; omega)]; omega) | rw [if_neg (by unfold fTwo; omega)])
                          | rw [if_neg (by unfold fTwo; omega)]
                        · rw [e0]
                          try rw [e1]
                          simp (disch := omega) only [up_s, up_i]
                          first
                          | exact Or.inl ⟨by omega, by omega, by omega, by omega⟩
                          | exact Or.inr (Or.inl ⟨by omega, by omega, by omega, by omega⟩)
                          | exact Or.inr (Or.inr (Or.inl ⟨by omega, by omega, by omega, by omega, by omega⟩))
                          | exact Or.inr (Or.inr (Or.inr (Or.inl ⟨by omega, by omega, by omega⟩)))
                          | exact Or.inr (Or.inr (Or.inr (Or.inr (Or.inl ⟨by omega, by omega, by omega, by omega⟩))))
                          | exact Or.inr (Or.inr (Or.inr (Or.inr (Or.inr (Or.inl ⟨by omega, by omega, by omega, by omega⟩)))))
                          | exact Or.inr (Or.inr (Or.inr (Or.inr (Or.inr (Or.inr (Or.inl ⟨by omega, by omega, by omega⟩))))))
                          | exact Or.inr (Or.inr (Or.inr (Or.inr (Or.inr (Or.inr (Or.inr ⟨fun z => by rcases z with z | z | z | z | z | z | z | z | z | z | z <;> omega, by omega⟩))))))
                      · exact absurd g (by simp [sx_cc])
                    · simp only [sx_cc, Classical.not_not] at g
                      conv => whnf
                      refine ⟨fun g => ?_, fun g => ?_⟩
                      · skip
                        conv => whnf
                        refine ⟨fun g => ?_, fun g => ?_⟩
                        · skip
                          conv => whnf
                          refine ⟨(by first | assumption | rfl), ?_⟩
                          try simp (disch := omega) only [Int.cast_ofNat_Int, up_s, up_a, up_i, mp_a, mp_ge]
                          try simp only [x0]
                          try simp only [x1]
                          try simp only [en]
                          try simp only [t0]
                          try simp only [lk_125]
                          conv => whnf
                          refine ⟨rfl, ?_⟩
                          refine h _ (fun a j z9 => by unfold FRt at z9; repeat (first | rw [up_n (by omega)] | rfl)) (by repeat (first | rw [up_i (by decide)] | rfl)) ?_ ?_
                          · repeat rw [up_i (by decide)]
                            rw [up_s]
                            rw [e0]
                            first
                            | (rw [e1]; first | (rw [if_pos (by unfold fTwo; omega)]; omega) | rw [if_neg (by unfold fTwo; omega)])
                            | rw [if_neg (by unfold fTwo; omega)]
                          · rw [e0]
                            try rw [e1]
                            simp (disch := omega) only [up_s, up_i]
                            first
                            | exact Or.inl ⟨by omega, by omega, by omega, by omega⟩
                            | exact Or.inr (Or.inl ⟨by omega, by omega, by omega, by omega⟩)
                            | exact Or.inr (Or.inr (Or.inl ⟨by omega, by omega, by omega, by omega, by omega⟩))
                            | exact Or.inr (Or.inr (Or.inr (Or.inl ⟨by omega, by omega, by omega⟩)))
                            | exact Or.inr (Or.inr (Or.inr (Or.inr (Or.inl ⟨by omega, by omega, by omega, by omega⟩))))
                            | exact Or.inr (Or.inr (Or.inr (Or.inr (Or.inr (Or.inl ⟨by omega, by omega, by omega, by omega⟩)))))
                            | exact Or.inr (Or.inr (Or.inr (Or.inr (Or.inr (Or.inr (Or.inl ⟨by omega, by omega, by omega⟩))))))
                            | exact Or.inr (Or.inr (Or.inr (Or.inr (Or.inr (Or.inr (Or.inr ⟨fun z => by rcases z with z | z | z | z | z | z | z | z | z | z | z <;> omega, by omega⟩))))))
                        · exact absurd g (by simp [sx_cc])
                      · exact absurd g (by simp [sx_cc])
                  · simp only [sx_cc, Classical.not_not] at g
                    conv => whnf
                    refine ⟨(by first | assumption | rfl), ?_⟩
                    try simp (disch := omega) only [Int.cast_ofNat_Int, up_s, up_a, up_i, mp_a, mp_ge]
                    try simp only [x0]
                    try simp only [x1]
                    try simp only [en]
                    try simp only [t0]
                    try simp only [lk_125]
                    conv => whnf
                    refine ⟨rfl, ?_⟩
                    refine h _ (fun a j z9 => by unfold FRt at z9; repeat (first | rw [up_n (by omega)] | rfl)) (by repeat (first | rw [up_i (by decide)] | rfl)) ?_ ?_
                    · repeat rw [up_i (by decide)]
                      rw [up_s]
                      rw [e0]
                      first
                      | (rw [e1]; first | (rw [if_pos (by unfold fTwo; omega)]; omega) | rw [if_neg (by unfold fTwo; omega)])
                      | rw [if_neg (by unfold fTwo; omega)]
                    · rw [e0]
                      try rw [e1]
                      simp (disch := omega) only [up_s, up_i]
                      first
                      | exact Or.inl ⟨by omega, by omega, by omega, by omega⟩
                      | exact Or.inr (Or.inl ⟨by omega, by omega, by omega, by omega⟩)
                      | exact Or.inr (Or.inr (Or.inl ⟨by omega, by omega, by omega, by omega, by omega⟩))
                      | exact Or.inr (Or.inr (Or.inr (Or.inl ⟨by omega, by omega, by omega⟩)))
                      | exact Or.inr (Or.inr (Or.inr (Or.inr (Or.inl ⟨by omega, by omega, by omega, by omega⟩))))
                      | exact Or.inr (Or.inr (Or.inr (Or.inr (Or.inr (Or.inl ⟨by omega, by omega, by omega, by omega⟩)))))
                      | exact Or.inr (Or.inr (Or.inr (Or.inr (Or.inr (Or.inr (Or.inl ⟨by omega, by omega, by omega⟩))))))
                      | exact Or.inr (Or.inr (Or.inr (Or.inr (Or.inr (Or.inr (Or.inr ⟨fun z => by rcases z with z | z | z | z | z | z | z | z | z | z | z <;> omega, by omega⟩))))))
                · exact absurd g (by simp [sx_cc])
            · exact absurd g (by simp [sx_cc])
        · exact absurd g (by simp [sx_cc])
    · simp only [sx_cc, Classical.not_not] at g
      have e1 : fTx tx n9 (y + 1) = tx (y + 1) := fTx_p (by omega)
      have t1 := x3 (y + 1) (by omega) (by omega)
      conv => whnf
      refine ⟨(by first | assumption | rfl), ?_⟩
      try simp (disch := omega) only [Int.cast_ofNat_Int, up_s, up_a, up_i, mp_a, mp_ge]
      try simp only [x0]
      try simp only [x1]
      try simp only [en]
      try simp only [t0]
      try simp only [lk_125]
      conv => whnf
      refine ⟨(by first | assumption | rfl), ?_⟩
      try simp (disch := omega) only [Int.cast_ofNat_Int, up_s, up_a, up_i, mp_a, mp_ge]
      try simp only [x0]
      try simp only [x1]
      try simp only [en]
      try simp only [t0]
      try simp only [lk_125]
      conv => whnf
      refine ⟨sx_ixI (by first | assumption | rfl) (by omega) (by omega), ?_⟩
      try simp (disch := omega) only [Int.cast_ofNat_Int, up_s, up_a, up_i, mp_a, mp_ge]
      try simp only [x0]
      try simp only [x1]
      try simp only [en]
      try simp only [t0]
      try simp only [lk_125]
      conv => whnf
      refine ⟨(by first | assumption | rfl), ?_⟩
      try simp (disch := omega) only [Int.cast_ofNat_Int, up_s, up_a, up_i, mp_a, mp_ge]
      try simp only [x0]
      try simp only [x1]
      try simp only [en]
      try simp only [t0]
      try simp only [lk_125]
      conv => whnf
      refine ⟨fun g => ?_, fun g => ?_⟩
      · simp only [sx_cc, Classical.not_not] at g
        conv => whnf
        refine ⟨(by first | assumption | rfl), ?_⟩
        try simp (disch := omega) only [Int.cast_ofNat_Int, up_s, up_a, up_i, mp_a, mp_ge]
        try simp only [x0]
        try simp only [x1]
        try simp only [en]
        try simp only [t0]
        try simp only [lk_125]
        conv => whnf
        refine ⟨fun g => ?_, fun g => ?_⟩
        · simp only [sx_cc, Classical.not_not] at g
          conv => whnf
          refine ⟨fun g => ?_, fun g => ?_⟩
          · exact absurd g (by simp [sx_cc])
          · skip
            conv => whnf
            refine ⟨fun g => ?_, fun g => ?_⟩
            · skip
              conv => whnf
              refine ⟨(by first | assumption | rfl), ?_⟩
              try simp (disch := omega) only [Int.cast_ofNat_Int, up_s, up_a, up_i, mp_a, mp_ge]
              try simp only [x0]
              try simp only [x1]
              try simp only [en]
              try simp only [t0]
              try simp only [lk_125]
              conv => whnf
              refine ⟨(by first | assumption | rfl), ?_⟩
              try simp (disch := omega) only [Int.cast_ofNat_Int, up_s, up_a, up_i, mp_a, mp_ge]
              try simp only [x0]
              try simp only [x1]
              try simp only [en]
              try simp only [t0]
              try simp only [lk_125]
              conv => whnf
              refine ⟨fun g => ?_, fun g => ?_⟩
              · simp only [sx_cc, Classical.not_not] at g
                conv => whnf
                refine ⟨(by first | assumption | rfl), ?_⟩
                try simp (disch := omega) only [Int.cast_ofNat_Int, up_s, up_a, up_i, mp_a, mp_ge]
                try simp only [x0]
                try simp only [x1]
                try simp only [en]
                try simp only [t0]
                try simp only [lk_125]
                conv => whnf
                refine ⟨fun g => ?_, fun g => ?_⟩
                · simp only [sx_cc, Classical.not_not] at g
                  conv => whnf
                  refine ⟨fun g => ?_, fun g => ?_⟩
                  · skip
                    conv => whnf
                    refine ⟨(by first | assumption | rfl), ?_⟩
                    try simp (disch := omega) only [Int.cast_ofNat_Int, up_s, up_a, up_i, mp_a, mp_ge]
                    try simp only [x0]
                    try simp only [x1]
                    try simp only [en]
                    try simp only [t0]
                    try simp only [lk_125]
                    conv => whnf
                    refine ⟨rfl, ?_⟩
                    refine h _ (fun a j z9 => by unfold FRt at z9; repeat (first | rw [up_n (by omega)] | rfl)) (by repeat (first | rw [up_i (by decide)] | rfl)) ?_ ?_
                    · repeat rw [up_i (by decide)]
                      rw [up_s]
                      rw [e0]
                      first
                      | (rw [e1]; first | (rw [if_pos (by unfold fTwo; omega)]; omega) | rw [if_neg (by unfold fTwo; omega)])
                      | rw [if_neg (by unfold fTwo; omega)]
                    · rw [e0]
                      try rw [e1]
                      simp (disch := omega) only [up_s, up_i]
                      first
                      | exact Or.inl ⟨by omega, by omega, by omega, by omega⟩
                      | exact Or.inr (Or.inl ⟨by omega, by omega, by omega, by omega⟩)
                      | exact Or.inr (Or.inr (Or.inl ⟨by omega, by omega, by omega, by omega, by omega⟩))
                      | exact Or.inr (Or.inr (Or.inr (Or.inl ⟨by omega, by omega, by omega⟩)))
                      | exact Or.inr (Or.inr (Or.inr (Or.inr (Or.inl ⟨by omega, by omega, by omega, by omega⟩))))
                      | exact Or.inr (Or.inr (Or.inr (Or.inr (Or.inr (Or.inl ⟨by omega, by omega, by omega, by omega⟩)))))
                      | exact Or.inr (Or.inr (Or.inr (Or.inr (Or.inr (Or.inr (Or.inl ⟨by omega, by omega, by omega⟩))))))
                      | exact Or.inr (Or.inr (Or.inr (Or.inr (Or.inr (Or.inr (Or.inr ⟨fun z => by rcases z with z | z | z | z | z | z | z | z | z | z | z <;> omega, by omega⟩))))))
                  · exact absurd g (by simp [sx_cc])
                · simp only [sx_cc, Classical.not_not] at g
                  conv => whnf
                  refine ⟨fun g => ?_, fun g => ?_⟩
                  · skip
                    conv => whnf
                    refine ⟨fun g => ?_, fun g => ?_⟩
                    · skip
                      conv => whnf
                      refine ⟨(by first | assumption | rfl), ?_⟩
                      try simp (disch := omega) only [Int.cast_ofNat_Int, up_s, up_a, up_i, mp_a, mp_ge]
                      try simp only [x0]
                      try simp only [x1]
                      try simp only [en]
                      try simp only [t0]
                      try simp only [lk_125]
                      conv => whnf
                      refine ⟨rfl, ?_⟩
                      refine h _ (fun a j z9 => by unfold FRt at z9; repeat (first | rw [up_n (by omega)] | rfl)) (by repeat (first | rw [up_i (by decide)] | rfl)) ?_ ?_
                      · repeat rw [up_i (by decide)]
                        rw [up_s]
                        rw [e0]
                        first
                        | (rw [e1]; first | (rw [if_pos (by unfold fTwo; omega)]; omega) | rw [if_neg (by unfold fTwo; omega)])
                        | rw [if_neg (by unfold fTwo; omega)]
                      · rw [e0]
                        try rw [e1]
                        simp (disch := omega) only [up_s, up_i]
                        first
                        | exact Or.inl ⟨by omega, by omega, by omega, by omega⟩
                        | exact Or.inr (Or.inl ⟨by omega, by omega, by omega, by omega⟩)
                        | exact Or.inr (Or.inr (Or.inl ⟨by omega, by omega, by omega, by omega, by omega⟩))
                        | exact Or.inr (Or.inr (Or.inr (Or.inl ⟨by omega, by omega, by omega⟩)))
                        | exact Or.inr (Or.inr (Or.inr (Or.inr (Or.inl ⟨by omega, by omega, by omega, by omega⟩))))
                        | exact Or.inr (Or.inr (Or.inr (Or.inr (Or.inr (Or.inl ⟨by omega, by omega, by omega, by omega⟩)))))
                        | exact Or.inr (Or.inr (Or.inr (Or.inr (Or.inr (Or.inr (Or.inl ⟨by omega, by omega, by omega⟩))))))
                        | exact Or.inr (Or.inr (Or.inr (Or.inr (Or.inr (Or.inr (Or.inr ⟨fun z => by rcases z with z | z | z | z | z | z | z | z | z | z | z <;> omega, by omega⟩))))))
                    · exact absurd g (by simp [sx_cc])
                  · exact absurd g (by simp [sx_cc])
              · simp only [sx_cc, Classical.not_not] at g
                conv => whnf
                refine ⟨(by first | assumption | rfl), ?_⟩
                try simp (disch := omega) only [Int.cast_ofNat_Int, up_s, up_a, up_i, mp_a, mp_ge]
                try simp only [x0]
                try simp only [x1]
                try simp only [en]
                try simp only [t0]
                try simp only [lk_125]
                conv => whnf
                refine ⟨rfl, ?_⟩
                refine h _ (fun a j z9 => by unfold FRt at z9; repeat (first | rw [up_n (by omega)] | rfl)) (by repeat (first | rw [up_i (by decide)] | rfl)) ?_ ?_
                · repeat rw [up_i (by decide)]
                  rw [up_s]
                  rw [e0]
                  first
                  | (rw [e1]; first | (rw [if_pos (by unfold fTwo; omega)]; omega) | rw [if_neg (by unfold fTwo; omega)])
                  | rw [if_neg (by unfold fTwo; omega)]
                · rw [e0]
                  try rw [e1]
                  simp (disch := omega) only [up_s, up_i]
                  first
                  | exact Or.inl ⟨by omega, by omega, by omega, by omega⟩
                  | exact Or.inr (Or.inl ⟨by omega, by omega, by omega, by omega⟩)
                  | exact Or.inr (Or.inr (Or.inl ⟨by omega, by omega, by omega, by omega, by omega⟩))
                  | exact Or.inr (Or.inr (Or.inr (Or.inl ⟨by omega, by omega, by omega⟩)))
                  | exact Or.inr (Or.inr (Or.inr (Or.inr (Or.inl ⟨by omega, by omega, by omega, by omega⟩))))
                  | exact Or.inr (Or.inr (Or.inr (Or.inr (Or.inr (Or.inl ⟨by omega, by omega, by omega, by omega⟩)))))
                  | exact Or.inr (Or.inr (Or.inr (Or.inr (Or.inr (Or.inr (Or.inl ⟨by omega, by omega, by omega⟩))))))
                  | exact Or.inr (Or.inr (Or.inr (Or.inr (Or.inr (Or.inr (Or.inr ⟨fun z => by rcases z with z | z | z | z | z | z | z | z | z | z | z <;> omega, by omega⟩))))))
            · exact absurd g (by simp [sx_cc])
        · simp only [sx_cc, Classical.not_not] at g
          conv => whnf
          refine ⟨fun g => ?_, fun g => ?_⟩
          · simp only [sx_cc, Classical.not_not] at g
            conv => whnf
            refine ⟨fun g => ?_, fun g => ?_⟩
            · exact absurd g (by simp [sx_cc])
            · skip
              conv => whnf
              refine ⟨fun g => ?_, fun g => ?_⟩
              · skip
                conv => whnf
                refine ⟨(by first | assumption | rfl), ?_⟩
                try simp (disch := omega) only [Int.cast_ofNat_Int, up_s, up_a, up_i, mp_a, mp_ge]
                try simp only [x0]
                try simp only [x1]
                try simp only [en]
                try simp only [t0]
                try simp only [lk_125]
                conv => whnf
                refine ⟨(by first | assumption | rfl), ?_⟩
                try simp (disch := omega) only [Int.cast_ofNat_Int, up_s, up_a, up_i, mp_a, mp_ge]
                try simp only [x0]
                try simp only [x1]
                try simp only [en]
                try simp only [t0]
                try simp only [lk_125]
                conv => whnf
                refine ⟨fun g => ?_, fun g => ?_⟩
                · simp only [sx_cc, Classical.not_not] at g
                  conv => whnf
                  refine ⟨(by first | assumption | rfl), ?_⟩
                  try simp (disch := omega) only [Int.cast_ofNat_Int, up_s, up_a, up_i, mp_a, mp_ge]
                  try simp only [x0]
                  try simp only [x1]
                  try simp only [en]
                  try simp only [t0]
                  try simp only [lk_125]
                  conv => whnf
                  refine ⟨fun g => ?_, fun g => ?_⟩
                  · simp only [sx_cc, Classical.not_not] at g
                    conv => whnf
                    refine ⟨fun g => ?_, fun g => ?_⟩
                    · skip
                      conv => whnf
                      refine ⟨(by first | assumption | rfl), ?_⟩
                      try simp (disch := omega) only [Int.cast_ofNat_Int, up_s, up_a, up_i, mp_a, mp_ge]
                      try simp only [x0]
                      try simp only [x1]
                      try simp only [en]
                      try simp only [t0]
                      try simp only [lk_125]
                      conv => whnf
                      refine ⟨rfl, ?_⟩
                      refine h _ (fun a j z9 => by unfold FRt at z9; repeat (first | rw [up_n (by omega)] | rfl)) (by repeat (first | rw [up_i (by decide)] | rfl)) ?_ ?_
                      · repeat rw [up_i (by decide)]
                        rw [up_s]
                        rw [e0]
                        first
                        | (rw [e1]; first | (rw [if_pos (by unfold fTwo; omega)]; omega) | rw [if_neg (by unfold fTwo; omega)])
                        | rw [if_neg (by unfold fTwo; omega)]
                      · rw [e0]
                        try rw [e1]
                        simp (disch := omega) only [up_s, up_i]
                        first
                        | exact Or.inl ⟨by omega, by omega, by omega, by omega⟩
                        | exact Or.inr (Or.inl ⟨by omega, by omega, by omega, by omega⟩)
                        | exact Or.inr (Or.inr (Or.inl ⟨by omega, by omega, by omega, by omega, by omega⟩))
                        | exact Or.inr (Or.inr (Or.inr (Or.inl ⟨by omega, by omega, by omega⟩)))
                        | exact Or.inr (Or.inr (Or.inr (Or.inr (Or.inl ⟨by omega, by omega, by omega, by omega⟩))))
                        | exact Or.inr (Or.inr (Or.inr (Or.inr (Or.inr (Or.inl ⟨by omega, by omega, by omega, by omega⟩)))))
                        | exact Or.inr (Or.inr (Or.inr (Or.inr (Or.inr (Or.inr (Or.inl ⟨by omega, by omega, by omega⟩))))))
                        | exact Or.inr (Or.inr (Or.inr (Or.inr (Or.inr (Or.inr (Or.inr ⟨fun z => by rcases z with z | z | z | z | z | z | z | z | z | z | z <;> omega, by omega⟩))))))
                    · exact absurd g (by simp [sx_cc])
                  · simp only [sx_cc, Classical.not_not] at g
                    conv => whnf
                    refine ⟨fun g => ?_, fun g => ?_⟩
                    · skip
                      conv => whnf
                      refine ⟨fun g => ?_, fun g => ?_⟩
                      · skip
                        conv => whnf
                        refine ⟨(by first | assumption | rfl), ?_⟩
                        try simp (disch := omega) only [Int.cast_ofNat_Int, up_s, up_a, up_i, mp_a, mp_ge]
                        try simp only [x0]
                        try simp only [x1]
                        try simp only [en]
                        try simp only [t0]
                        try simp only [lk_125]
                        conv => whnf
                        refine ⟨rfl, ?_⟩
                        refine h _ (fun a j z9 => by unfold FRt at z9; repeat (first | rw [up_n (by omega)] | rfl)) (by repeat (first | rw [up_i (by decide)] | rfl)) ?_ ?_
                        · repeat rw [up_i (by decide)]
                          rw [up_s]
                          rw [e0]
                          first
                          | (rw [e1]; first | (rw [if_pos (by unfold fTwo; omega)]; omega) | rw [if_neg (by unfold fTwo; omega)])
                          | rw [if_neg (by unfold fTwo; omega)]
                        · rw [e0]
                          try rw [e1]
                          simp (disch := omega) only [up_s, up_i]
                          first
                          | exact Or.inl ⟨by omega, by omega, by omega, by omega⟩
                          | exact Or.inr (Or.inl ⟨by omega, by omega, by omega, by omega⟩)
                          | exact Or.inr (Or.inr (Or.inl ⟨by omega, by omega, by omega, by omega, by omega⟩))
                          | exact Or.inr (Or.inr (Or.inr (Or.inl ⟨by omega, by omega, by omega⟩)))
                          | exact Or.inr (Or.inr (Or.inr (Or.inr (Or.inl ⟨by omega, by omega, by omega, by omega⟩))))
                          | exact Or.inr (Or.inr (Or.inr (Or.inr (Or.inr (Or.inl ⟨by omega, by omega, by omega, by omega⟩)))))
                          | exact Or.inr (Or.inr (Or.inr (Or.inr (Or.inr (Or.inr (Or.inl ⟨by omega, by omega, by omega⟩))))))
                          | exact Or.inr (Or.inr (Or.inr (Or.inr (Or.inr (Or.inr (Or.inr ⟨fun z => by rcases z with z | z | z | z | z | z | z | z | z | z | z <;> omega, by omega⟩))))))
                      · exact absurd g (by simp [sx_cc])
                    · exact absurd g (by simp [sx_cc])
                · simp only [sx_cc, Classical.not_not] at g
                  conv => whnf
                  refine ⟨(by first | assumption | rfl), ?_⟩
                  try simp (disch := omega) only [Int.cast_ofNat_Int, up_s, up_a, up_i, mp_a, mp_ge]
                  try simp only [x0]
                  try simp only [x1]
                  try simp only [en]
                  try simp only [t0]
                  try simp only [lk_125]
                  conv => whnf
                  refine ⟨rfl, ?_⟩
                  refine h _ (fun a j z9 => by unfold FRt at z9; repeat (first | rw [up_n (by omega)] | rfl)) (by repeat (first | rw [up_i (by decide)] | rfl)) ?_ ?_
                  · repeat rw [up_i (by decide)]
                    rw [up_s]
                    rw [e0]
                    first
                    | (rw [e1]; first | (rw [if_pos (by unfold fTwo; omega)]; omega) | rw [if_neg (by unfold fTwo; omega)])
                    | rw [if_neg (by unfold fTwo; omega)]
                  · rw [e0]
                    try rw [e1]
                    simp (disch := omega) only [up_s, up_i]
                    first
                    | exact Or.inl ⟨by omega, by omega, by omega, by omega⟩
                    | exact Or.inr (Or.inl ⟨by omega, by omega, by omega, by omega⟩)
                    | exact Or.inr (Or.inr (Or.inl ⟨by omega, by omega, by omega, by omega, by omega⟩))
                    | exact Or.inr (Or.inr (Or.inr (Or.inl ⟨by omega, by omega, by omega⟩)))
                    | exact Or.inr (Or.inr (Or.inr (Or.inr (Or.inl ⟨by omega, by omega, by omega, by omega⟩))))
                    | exact Or.inr (Or.inr (Or.inr (Or.inr (Or.inr (Or.inl ⟨by omega, by omega, by omega, by omega⟩)))))
                    | exact Or.inr (Or.inr (Or.inr (Or.inr (Or.inr (Or.inr (Or.inl ⟨by omega, by omega, by omega⟩))))))
                    | exact Or.inr (Or.inr (Or.inr (Or.inr (Or.inr (Or.inr (Or.inr ⟨fun z => by rcases z with z | z | z | z | z | z | z | z | z | z | z <;> omega, by omega⟩))))))
              · exact absurd g (by simp [sx_cc])
          · simp only [sx_cc, Classical.not_not] at g
            conv => whnf
            refine ⟨fun g => ?_, fun g => ?_⟩
            · exact absurd g (by simp [sx_cc])
            · skip
              conv => whnf
              refine ⟨fun g => ?_, fun g => ?_⟩
              · exact absurd g (by simp [sx_cc])
              · skip
                conv => whnf
                refine ⟨(by first | assumption | rfl), ?_⟩
                try simp (disch := omega) only [Int.cast_ofNat_Int, up_s, up_a, up_i, mp_a, mp_ge]
                try simp only [x0]
                try simp only [x1]
                try simp only [en]
                try simp only [t0]
                try simp only [lk_125]
                conv => whnf
                refine ⟨⟨by omega, by omega⟩, ?_⟩
                conv => whnf
                refine ⟨(by first | assumption | rfl), ?_⟩
                try simp (disch := omega) only [Int.cast_ofNat_Int, up_s, up_a, up_i, mp_a, mp_ge]
                try simp only [x0]
                try simp only [x1]
                try simp only [en]
                try simp only [t0]
                try simp only [lk_125]
                conv => whnf
                refine ⟨(by first | assumption | rfl), ?_⟩
                try simp (disch := omega) only [Int.cast_ofNat_Int, up_s, up_a, up_i, mp_a, mp_ge]
                try simp only [x0]
                try simp only [x1]
                try simp only [en]
                try simp only [t0]
                try simp only [lk_125]
                conv => whnf
                refine ⟨(by first | assumption | rfl), ?_⟩
                try simp (disch := omega) only [Int.cast_ofNat_Int, up_s, up_a, up_i, mp_a, mp_ge]
                try simp only [x0]
                try simp only [x1]
                try simp only [en]
                try simp only [t0]
                try simp only [lk_125]
                conv => whnf
                refine ⟨fun g => ?_, fun g => ?_⟩
                · simp only [sx_cc, Classical.not_not] at g
                  conv => whnf
                  refine ⟨(by first | assumption | rfl), ?_⟩
                  try simp (disch := omega) only [Int.cast_ofNat_Int, up_s, up_a, up_i, mp_a, mp_ge]
                  try simp only [x0]
                  try simp only [x1]
                  try simp only [en]
                  try simp only [t0]
                  try simp only [lk_125]
                  conv => whnf
                  refine ⟨fun g => ?_, fun g => ?_⟩
                  · simp only [sx_cc, Classical.not_not] at g
                    conv => whnf
                    refine ⟨fun g => ?_, fun g => ?_⟩
                    · skip
                      conv => whnf
                      refine ⟨(by first | assumption | rfl), ?_⟩
                      try simp (disch := omega) only [Int.cast_ofNat_Int, up_s, up_a, up_i, mp_a, mp_ge]
                      try simp only [x0]
                      try simp only [x1]
                      try simp only [en]
                      try simp only [t0]
                      try simp only [lk_125]
                      conv => whnf
                      refine ⟨rfl, ?_⟩
                      refine h _ (fun a j z9 => by unfold FRt at z9; repeat (first | rw [up_n (by omega)] | rfl)) (by repeat (first | rw [up_i (by decide)] | rfl)) ?_ ?_
                      · repeat rw [up_i (by decide)]
                        rw [up_s]
                        rw [e0]
                        first
                        | (rw [e1]; first | (rw [if_pos (by unfold fTwo; omega)]; omega) | rw [if_neg (by unfold fTwo; omega)])
                        | rw [if_neg (by unfold fTwo; omega)]
                      · rw [e0]
                        try rw [e1]
                        simp (disch := omega) only [up_s, up_i]
                        first
                        | exact Or.inl ⟨by omega, by omega, by omega, by omega⟩
                        | exact Or.inr (Or.inl ⟨by omega, by omega, by omega, by omega⟩)
                        | exact Or.inr (Or.inr (Or.inl ⟨by omega, by omega, by omega, by omega, by omega⟩))
                        | exact Or.inr (Or.inr (Or.inr (Or.inl ⟨by omega, by omega, by omega⟩)))
                        | exact Or.inr (Or.inr (Or.inr (Or.inr (Or.inl ⟨by omega, by omega, by omega, by omega⟩))))
                        | exact Or.inr (Or.inr (Or.inr (Or.inr (Or.inr (Or.inl ⟨by omega, by omega, by omega, by omega⟩)))))
                        | exact Or.inr (Or.inr (Or.inr (Or.inr (Or.inr (Or.inr (Or.inl ⟨by omega, by omega, by omega⟩))))))
                        | exact Or.inr (Or.inr (Or.inr (Or.inr (Or.inr (Or.inr (Or.inr ⟨fun z => by rcases z with z | z | z | z | z | z | z | z | z | z | z <;> omega, by omega⟩))))))
                    · exact absurd g (by simp [sx_cc])
                  · simp only [sx_cc, Classical.not_not] at g
                    conv => whnf
                    refine ⟨fun g => ?_, fun g => ?_⟩
                    · skip
                      conv => whnf
                      refine ⟨fun g => ?_, fun g => ?_⟩
                      · exact absurd g (by simp [sx_cc])
                      · skip
                        conv => whnf
                        refine ⟨(by first | assumption | rfl), ?_⟩
                        try simp (disch := omega) only [Int.cast_ofNat_Int, up_s, up_a, up_i, mp_a, mp_ge]
                        try simp only [x0]
                        try simp only [x1]
                        try simp only [en]
                        try simp only [t0]
                        try simp only [lk_125]
                        conv => whnf
                        refine ⟨rfl, ?_⟩
                        refine h _ (fun a j z9 => by unfold FRt at z9; repeat (first | rw [up_n (by omega)] | rfl)) (by repeat (first | rw [up_i (by decide)] | rfl)) ?_ ?_
                        · repeat rw [up_i (by decide)]
                          rw [up_s]
                          rw [e0]
                          first
                          | (rw [e1]; first | (rw [if_pos (by unfold fTwo; omega)]; omega) | rw [if_neg (by unfold fTwo; omega)])
                          | rw [if_neg (by unfold fTwo; omega)]
                        · rw [e0]
                          try rw [e1]
                          simp (disch := omega) only [up_s, up_i]
                          first
                          | exact Or.inl ⟨by omega, by omega, by omega, by omega⟩
                          | exact Or.inr (Or.inl ⟨by omega, by omega, by omega, by omega⟩)
                          | exact Or.inr (Or.inr (Or.inl ⟨by omega, by omega, by omega, by omega, by omega⟩))
                          | exact Or.inr (Or.inr (Or.inr (Or.inl ⟨by omega, by omega, by omega⟩)))
                          | exact Or.inr (Or.inr (Or.inr (Or.inr (Or.inl ⟨by omega, by omega, by omega, by omega⟩))))
                          | exact Or.inr (Or.inr (Or.inr (Or.inr (Or.inr (Or.inl ⟨by omega, by omega, by omega, by omega⟩)))))
                          | exact Or.inr (Or.inr (Or.inr (Or.inr (Or.inr (Or.inr (Or.inl ⟨by omega, by omega, by omega⟩))))))
                          | exact Or.inr (Or.inr (Or.inr (Or.inr (Or.inr (Or.inr (Or.inr ⟨fun z => by rcases z with z | z | z | z | z | z | z | z | z | z | z <;> omega, by omega⟩))))))
                    · exact absurd g (by simp [sx_cc])
                · simp only [sx_cc, Classical.not_not] at g
                  conv => whnf
                  refine ⟨(by first | assumption | rfl), ?_⟩
                  try simp (disch := omega) only [Int.cast_ofNat_Int, up_s, up_a, up_i, mp_a, mp_ge]
                  try simp only [x0]
                  try simp only [x1]
                  try simp only [en]
                  try simp only [t0]
                  try simp only [lk_125]
                  conv => whnf
                  refine ⟨rfl, ?_⟩
                  refine h _ (fun a j z9 => by unfold FRt at z9; repeat (first | rw [up_n (by omega)] | rfl)) (by repeat (first | rw [up_i (by decide)] | rfl)) ?_ ?_
                  · repeat rw [up_i (by decide)]
                    rw [up_s]
                    rw [e0]
                    first
                    | (rw [e1]; first | (rw [if_pos (by unfold fTwo; omega)]; omega) | rw [if_neg (by unfold fTwo; omega)])
                    | rw [if_neg (by unfold fTwo; omega)]
                  · rw [e0]
                    try rw [e1]
                    simp (disch := omega) only [up_s, up_i]
                    first
                    | exact Or.inl ⟨by omega, by omega, by omega, by omega⟩
                    | exact Or.inr (Or.inl ⟨by omega, by omega, by omega, by omega⟩)
                    | exact Or.inr (Or.inr (Or.inl ⟨by omega, by omega, by omega, by omega, by omega⟩))
                    | exact Or.inr (Or.inr (Or.inr (Or.inl ⟨by omega, by omega, by omega⟩)))
                    | exact Or.inr (Or.inr (Or.inr (Or.inr (Or.inl ⟨by omega, by omega, by omega, by omega⟩))))
                    | exact Or.inr (Or.inr (Or.inr (Or.inr (Or.inr (Or.inl ⟨by omega, by omega, by omega, by omega⟩)))))
                    | exact Or.inr (Or.inr (Or.inr (Or.inr (Or.inr (Or.inr (Or.inl ⟨by omega, by omega, by omega⟩))))))
                    | exact Or.inr (Or.inr (Or.inr (Or.inr (Or.inr (Or.inr (Or.inr ⟨fun z => by rcases z with z | z | z | z | z | z | z | z | z | z | z <;> omega, by omega⟩))))))
      · simp only [sx_cc, Classical.not_not] at g
        conv => whnf
        refine ⟨fun g => ?_, fun g => ?_⟩
        · simp only [sx_cc, Classical.not_not] at g
          conv => whnf
          refine ⟨(by first | assumption | rfl), ?_⟩
          try simp (disch := omega) only [Int.cast_ofNat_Int, up_s, up_a, up_i, mp_a, mp_ge]
          try simp only [x0]
          try simp only [x1]
          try simp only [en]
          try simp only [t0]
          try simp only [lk_125]
          conv => whnf
          refine ⟨fun g => ?_, fun g => ?_⟩
          · simp only [sx_cc, Classical.not_not] at g
            conv => whnf
            refine ⟨fun g => ?_, fun g => ?_⟩
            · exact absurd g (by simp [sx_cc])
            · skip
              conv => whnf
              refine ⟨fun g => ?_, fun g => ?_⟩
              · skip
                conv => whnf
                refine ⟨(by first | assumption | rfl), ?_⟩
                try simp (disch := omega) only [Int.cast_ofNat_Int, up_s, up_a, up_i, mp_a, mp_ge]
                try simp only [x0]
                try simp only [x1]
                try simp only [en]
                try simp only [t0]
                try simp only [lk_125]
                conv => whnf
                refine ⟨(by first | assumption | rfl), ?_⟩
                try simp (disch := omega) only [Int.cast_ofNat_Int, up_s, up_a, up_i, mp_a, mp_ge]
                try simp only [x0]
                try simp only [x1]
                try simp only [en]
                try simp only [t0]
                try simp only [lk_125]
                conv => whnf
                refine ⟨fun g => ?_, fun g => ?_⟩
                · simp only [sx_cc, Classical.not_not] at g
                  conv => whnf
                  refine ⟨(by first | assumption | rfl), ?_⟩
                  try simp (disch := omega) only [Int.cast_ofNat_Int, up_s, up_a, up_i, mp_a, mp_ge]
                  try simp only [x0]
                  try simp only [x1]
                  try simp only [en]
                  try simp only [t0]
                  try simp only [lk_125]
                  conv => whnf
                  refine ⟨fun g => ?_, fun g => ?_⟩
                  · simp only [sx_cc, Classical.not_not] at g
                    conv => whnf
                    refine ⟨fun g => ?_, fun g => ?_⟩
                    · skip
                      conv => whnf
                      refine ⟨(by first | assumption | rfl), ?_⟩
                      try simp (disch := omega) only [Int.cast_ofNat_Int, up_s, up_a, up_i, mp_a, mp_ge]
                      try simp only [x0]
                      try simp only [x1]
                      try simp only [en]
                      try simp only [t0]
                      try simp only [lk_125]
                      conv => whnf
                      refine ⟨rfl, ?_⟩
                      refine h _ (fun a j z9 => by unfold FRt at z9; repeat (first | rw [up_n (by omega)] | rfl)) (by repeat (first | rw [up_i (by decide)] | rfl)) ?_ ?_
                      · repeat rw [up_i (by decide)]
                        rw [up_s]
                        rw [e0]
                        first
                        | (rw [e1]; first | (rw [if_pos (by unfold fTwo; omega)]; omega) | rw [if_neg (by unfold fTwo; omega)])
                        | rw [if_neg (by unfold fTwo; omega)]
                      · rw [e0]
                        try rw [e1]
                        simp (disch := omega) only [up_s, up_i]
                        first
                        | exact Or.inl ⟨by omega, by omega, by omega, by omega⟩
                        | exact Or.inr (Or.inl ⟨by omega, by omega, by omega, by omega⟩)
                        | exact Or.inr (Or.inr (Or.inl ⟨by omega, by omega, by omega, by omega, by omega⟩))
                        | exact Or.inr (Or.inr (Or.inr (Or.inl ⟨by omega, by omega, by omega⟩)))
                        | exact Or.inr (Or.inr (Or.inr (Or.inr (Or.inl ⟨by omega, by omega, by omega, by omega⟩))))
                        | exact Or.inr (Or.inr (Or.inr (Or.inr (Or.inr (Or.inl ⟨by omega, by omega, by omega, by omega⟩)))))
                        | exact Or.inr (Or.inr (Or.inr (Or.inr (Or.inr (Or.inr (Or.inl ⟨by omega, by omega, by omega⟩))))))
                        | exact Or.inr (Or.inr (Or.inr (Or.inr (Or.inr (Or.inr (Or.inr ⟨fun z => by rcases z with z | z | z | z | z | z | z | z | z | z | z <;> omega, by omega⟩))))))
                    · exact absurd g (by simp [sx_cc])
                  · simp only [sx_cc, Classical.not_not] at g
                    conv => whnf
                    refine ⟨fun g => ?_, fun g => ?_⟩
                    · skip
                      conv => whnf
                      refine ⟨fun g => ?_, fun g => ?_⟩
                      · skip
                        conv => whnf
                        refine ⟨(by first | assumption | rfl), ?_⟩
                        try simp (disch := omega) only [Int.cast_ofNat_Int, up_s, up_a, up_i, mp_a, mp_ge]
                        try simp only [x0]
                        try simp only [x1]
                        try simp only [en]
                        try simp only [t0]
                        try simp only [lk_125]
                        conv => whnf
                        refine ⟨rfl, ?_⟩
                        refine h _ (fun a j z9 => by unfold FRt at z9; repeat (first | rw [up_n (by omega)] | rfl)) (by repeat (first | rw [up_i (by decide)] | rfl)) ?_ ?_
                        · repeat rw [up_i (by decide)]
                          rw [up_s]
                          rw [e0]
                          first
                          | (rw [e1]; first | (rw [if_pos (by unfold fTwo; omega)]; omega) | rw [if_neg (by unfold fTwo; omega)])
                          | rw [if_neg (by unfold fTwo; omega)]
                        · rw [e0]
                          try rw [e1]
                          simp (disch := omega) only [up_s, up_i]
                          first
                          | exact Or.inl ⟨by omega, by omega, by omega, by omega⟩
                          | exact Or.inr (Or.inl ⟨by omega, by omega, by omega, by omega⟩)
                          | exact Or.inr (Or.inr (Or.inl ⟨by omega, by omega, by omega, by omega, by omega⟩))
                          | exact Or.inr (Or.inr (Or.inr (Or.inl ⟨by omega, by omega, by omega⟩)))
                          | exact Or.inr (Or.inr (Or.inr (Or.inr (Or.inl ⟨by omega, by omega, by omega, by omega⟩))))
                          | exact Or.inr (Or.inr (Or.inr (Or.inr (Or.inr (Or.inl ⟨by omega, by omega, by omega, by omega⟩)))))
                          | exact Or.inr (Or.inr (Or.inr (Or.inr (Or.inr (Or.inr (Or.inl ⟨by omega, by omega, by omega⟩))))))
                          | exact Or.inr (Or.inr (Or.inr (Or.inr (Or.inr (Or.inr (Or.inr ⟨fun z => by rcases z with z | z | z | z | z | z | z | z | z | z | z <;> omega, by omega⟩))))))
                      · exact absurd g (by simp [sx_cc])
                    · exact absurd g (by simp [sx_cc])
                · simp only [sx_cc, Classical.not_not] at g
                  conv => whnf
                  refine ⟨(by first | assumption | rfl), ?_⟩
                  try simp (disch := omega) only [Int.cast_ofNat_Int, up_s, up_a, up_i, mp_a, mp_ge]
                  try simp only [x0]
                  try simp only [x1]
                  try simp only [en]
                  try simp only [t0]
                  try simp only [lk_125]
                  conv => whnf
                  refine ⟨rfl, ?_⟩
                  refine h _ (fun a j z9 => by unfold FRt at z9; repeat (first | rw [up_n (by omega)] | rfl)) (by repeat (first | rw [up_i (by decide)] | rfl)) ?_ ?_
                  · repeat rw [up_i (by decide)]
                    rw [up_s]
                    rw [e0]
                    first
                    | (rw [e1]; first | (rw [if_pos (by unfold fTwo; omega)]; omega) | rw [if_neg (by unfold fTwo; omega)])
                    | rw [if_neg (by unfold fTwo; omega)]
                  · rw [e0]
                    try rw [e1]
                    simp (disch := omega) only [up_s, up_i]
                    first
                    | exact Or.inl ⟨by omega, by omega, by omega, by omega⟩
                    | exact Or.inr (Or.inl ⟨by omega, by omega, by omega, by omega⟩)
                    | exact Or.inr (Or.inr (Or.inl ⟨by omega, by omega, by omega, by omega, by omega⟩))
                    | exact Or.inr (Or.inr (Or.inr (Or.inl ⟨by omega, by omega, by omega⟩)))
                    | exact Or.inr (Or.inr (Or.inr (Or.inr (Or.inl ⟨by omega, by omega, by omega, by omega⟩))))
                    | exact Or.inr (Or.inr (Or.inr (Or.inr (Or.inr (Or.inl ⟨by omega, by omega, by omega, by omega⟩)))))
                    | exact Or.inr (Or.inr (Or.inr (Or.inr (Or.inr (Or.inr (Or.inl ⟨by omega, by omega, by omega⟩))))))
                    | exact Or.inr (Or.inr (Or.inr (Or.inr (Or.inr (Or.inr (Or.inr ⟨fun z => by rcases z with z | z | z | z | z | z | z | z | z | z | z <;> omega, by omega⟩))))))
              · exact absurd g (by simp [sx_cc])
          · simp only [sx_cc, Classical.not_not] at g
            conv => whnf
            refine ⟨fun g => ?_, fun g => ?_⟩
            · simp only [sx_cc, Classical.not_not] at g
              conv => whnf
              refine ⟨fun g => ?_, fun g => ?_⟩
              · exact absurd g (by simp [sx_cc])
              · skip
                conv => whnf
                refine ⟨fun g => ?_, fun g => ?_⟩
                · skip
                  conv => whnf
                  refine ⟨(by first | assumption | rfl), ?_⟩
                  try simp (disch := omega) only [Int.cast_ofNat_Int, up_s, up_a, up_i, mp_a, mp_ge]
                  try simp only [x0]
                  try simp only [x1]
                  try simp only [en]
                  try simp only [t0]
                  try simp only [lk_125]
                  conv => whnf
                  refine ⟨(by first | assumption | rfl), ?_⟩
                  try simp (disch := omega) only [Int.cast_ofNat_Int, up_s, up_a, up_i, mp_a, mp_ge]
                  try simp only [x0]
                  try simp only [x1]
                  try simp only [en]
                  try simp only [t0]
                  try simp only [lk_125]
                  conv => whnf
                  refine ⟨fun g => ?_, fun g => ?_⟩
                  · simp only [sx_cc, Classical.not_not] at g
                    conv => whnf
                    refine ⟨(by first | assumption | rfl), ?_⟩
                    try simp (disch := omega) only [Int.cast_ofNat_Int, up_s, up_a, up_i, mp_a, mp_ge]
                    try simp only [x0]
                    try simp only [x1]
                    try simp only [en]
                    try simp only [t0]
                    try simp only [lk_125]
                    conv => whnf
                    refine ⟨fun g => ?_, fun g => ?_⟩
                    · simp only [sx_cc, Classical.not_not] at g
                      conv => whnf
                      refine ⟨fun g => ?_, fun g => ?_⟩
                      · skip
                        conv => whnf
                        refine ⟨(by first | assumption | rfl), ?_⟩
                        try simp (disch := omega) only [Int.cast_ofNat_Int, up_s, up_a, up_i, mp_a, mp_ge]
                        try simp only [x0]
                        try simp only [x1]
                        try simp only [en]
                        try simp only [t0]
                        try simp only [lk_125]
                        conv => whnf
                        refine ⟨rfl, ?_⟩
                        refine h _ (fun a j z9 => by unfold FRt at z9; repeat (first | rw [up_n (by omega)] | rfl)) (by repeat (first | rw [up_i (by decide)] | rfl)) ?_ ?_
                        · repeat rw [up_i (by decide)]
                          rw [up_s]
                          rw [e0]
                          first
                          | (rw [e1]; first | (rw [if_pos (by unfold fTwo; omega)]; omega) | rw [if_neg (by unfold fTwo; omega)])
                          | rw [if_neg (by unfold fTwo; omega)]
                        · rw [e0]
                          try rw [e1]
                          simp (disch := omega) only [up_s, up_i]
                          first
                          | exact Or.inl ⟨by omega, by omega, by omega, by omega⟩
                          | exact Or.inr (Or.inl ⟨by omega, by omega, by omega, by omega⟩)
                          | exact Or.inr (Or.inr (Or.inl ⟨by omega, by omega, by omega, by omega, by omega⟩))
                          | exact Or.inr (Or.inr (Or.inr (Or.inl ⟨by omega, by omega, by omega⟩)))
                          | exact Or.inr (Or.inr (Or.inr (Or.inr (Or.inl ⟨by omega, by omega, by omega, by omega⟩))))
                          | exact Or.inr (Or.inr (Or.inr (Or.inr (Or.inr (Or.inl ⟨by omega, by omega, by omega, by omega⟩)))))
                          | exact Or.inr (Or.inr (Or.inr (Or.inr (Or.inr (Or.inr (Or.inl ⟨by omega, by omega, by omega⟩))))))
                          | exact Or.inr (Or.inr (Or.inr (Or.inr (Or.inr (Or.inr (Or.inr ⟨fun z => by rcases z with z | z | z | z | z | z | z | z | z | z | z <;> omega, by omega⟩))))))
                      · exact absurd g (by simp [sx_cc])
                    · simp only [sx_cc, Classical.not_not] at g
                      conv => whnf
                      refine ⟨fun g => ?_, fun g => ?_⟩
                      · skip
                        conv => whnf
                        refine ⟨fun g => ?_, fun g => ?_⟩
                        · skip
                          conv => whnf
                          refine ⟨(by first | assumption | rfl), ?_⟩
                          try simp (disch := omega) only [Int.cast_ofNat_Int, up_s, up_a, up_i, mp_a, mp_ge]
                          try simp only [x0]
                          try simp only [x1]
                          try simp only [en]
                          try simp only [t0]
                          try simp only [lk_125]
                          conv => whnf
                          refine ⟨rfl, ?_⟩
                          refine h _ (fun a j z9 => by unfold FRt at z9; repeat (first | rw [up_n (by omega)] | rfl)) (by repeat (first | rw [up_i (by decide)] | rfl)) ?_ ?_
                          · repeat rw [up_i (by decide)]
                            rw [up_s]
                            rw [e0]
                            first
                            | (rw [e1]; first | (rw [if_pos (by unfold fTwo; omega)]; omega) | rw [if_neg (by unfold fTwo; omega)])
                            | rw [if_neg (by unfold fTwo; omega)]
                          · rw [e0]
                            try rw [e1]
                            simp (disch := omega) only [up_s, up_i]
                            first
                            | exact Or.inl ⟨by omega, by omega, by omega, by omega⟩
                            | exact Or.inr (Or.inl ⟨by omega, by omega, by omega, by omega⟩)
                            | exact Or.inr (Or.inr (Or.inl ⟨by omega, by omega, by omega, by omega, by omega⟩))
                            | exact Or.inr (Or.inr (Or.inr (Or.inl ⟨by omega, by omega, by omega⟩)))
                            | exact Or.inr (Or.inr (Or.inr (Or.inr (Or.inl ⟨by omega, by omega, by omega, by omega⟩))))
                            | exact Or.inr (Or.inr (Or.inr (Or.inr (Or.inr (Or.inl ⟨by omega, by omega, by omega, by omega⟩)))))
                            | exact Or.inr (Or.inr (Or.inr (Or.inr (Or.inr (Or.inr (Or.inl ⟨by omega, by omega, by omega⟩))))))
                            | exact Or.inr (Or.inr (Or.inr (Or.inr (Or.inr (Or.inr (Or.inr ⟨fun z => by rcases z with z | z | z | z | z | z | z | z | z | z | z <;> omega, by omega⟩))))))
                        · exact absurd g (by simp [sx_cc])
                      · exact absurd g (by simp [sx_cc])
                  · simp only [sx_cc, Classical.not_not] at g
                    conv => whnf
                    refine ⟨(by first | assumption | rfl), ?_⟩
                    try simp (disch := omega) only [Int.cast_ofNat_Int, up_s, up_a, up_i, mp_a, mp_ge]
                    try simp only [x0]
                    try simp only [x1]
                    try simp only [en]
                    try simp only [t0]
                    try simp only [lk_125]
                    conv => whnf
                    refine ⟨rfl, ?_⟩
                    refine h _ (fun a j z9 => by unfold FRt at z9; repeat (first | rw [up_n (by omega)] | rfl)) (by repeat (first | rw [up_i (by decide)] | rfl)) ?_ ?_
                    · repeat rw [up_i (by decide)]
                      rw [up_s]
                      rw [e0]
                      first
                      | (rw [e1]; first | (rw [if_pos (by unfold fTwo; omega)]; omega) | rw [if_neg (by unfold fTwo; omega)])
                      | rw [if_neg (by unfold fTwo; omega)]
                    · rw [e0]
                      try rw [e1]
                      simp (disch := omega) only [up_s, up_i]
                      first
                      | exact Or.inl ⟨by omega, by omega, by omega, by omega⟩
                      | exact Or.inr (Or.inl ⟨by omega, by omega, by omega, by omega⟩)
                      | exact Or.inr (Or.inr (Or.inl ⟨by omega, by omega, by omega, by omega, by omega⟩))
                      | exact Or.inr (Or.inr (Or.inr (Or.inl ⟨by omega, by omega, by omega⟩)))
                      | exact Or.inr (Or.inr (Or.inr (Or.inr (Or.inl ⟨by omega, by omega, by omega, by omega⟩))))
                      | exact Or.inr (Or.inr (Or.inr (Or.inr (Or.inr (Or.inl ⟨by omega, by omega, by omega, by omega⟩)))))
                      | exact Or.inr (Or.inr (Or.inr (Or.inr (Or.inr (Or.inr (Or.inl ⟨by omega, by omega, by omega⟩))))))
                      | exact Or.inr (Or.inr (Or.inr (Or.inr (Or.inr (Or.inr (Or.inr ⟨fun z => by rcases z with z | z | z | z | z | z | z | z | z | z | z <;> omega, by omega⟩))))))
                · exact absurd g (by simp [sx_cc])
            · simp only [sx_cc, Classical.not_not] at g
              conv => whnf
              refine ⟨fun g => ?_, fun g => ?_⟩
              · exact absurd g (by simp [sx_cc])
              · skip
                conv => whnf
                refine ⟨fun g => ?_, fun g => ?_⟩
                · exact absurd g (by simp [sx_cc])
                · skip
                  conv => whnf
                  refine ⟨(by first | assumption | rfl), ?_⟩
                  try simp (disch := omega) only [Int.cast_ofNat_Int, up_s, up_a, up_i, mp_a, mp_ge]
                  try simp only [x0]
                  try simp only [x1]
                  try simp only [en]
                  try simp only [t0]
                  try simp only [lk_125]
                  conv => whnf
                  refine ⟨⟨by omega, by omega⟩, ?_⟩
                  conv => whnf
                  refine ⟨(by first | assumption | rfl), ?_⟩
                  try simp (disch := omega) only [Int.cast_ofNat_Int, up_s, up_a, up_i, mp_a, mp_ge]
                  try simp only [x0]
                  try simp only [x1]
                  try simp only [en]
                  try simp only [t0]
                  try simp only [lk_125]
                  conv => whnf
                  refine ⟨(by first | assumption | rfl), ?_⟩
                  try simp (disch := omega) only [Int.cast_ofNat_Int, up_s, up_a, up_i, mp_a, mp_ge]
                  try simp only [x0]
                  try simp only [x1]
                  try simp only [en]
                  try simp only [t0]
                  try simp only [lk_125]
                  conv => whnf
                  refine ⟨(by first | assumption | rfl), ?_⟩
                  try simp (disch := omega) only [Int.cast_ofNat_Int, up_s, up_a, up_i, mp_a, mp_ge]
                  try simp only [x0]
                  try simp only [x1]
                  try simp only [en]
                  try simp only [t0]
                  try simp only [lk_125]
                  conv => whnf
                  refine ⟨fun g => ?_, fun g => ?_⟩
                  · simp only [sx_cc, Classical.not_not] at g
                    conv => whnf
                    refine ⟨(by first | assumption | rfl), ?_⟩
                    try simp (disch := omega) only [Int.cast_ofNat_Int, up_s, up_a, up_i, mp_a, mp_ge]
                    try simp only [x0]
                    try simp only [x1]
                    try simp only [en]
                    try simp only [t0]
                    try simp only [lk_125]
                    conv => whnf
                    refine ⟨fun g => ?_, fun g => ?_⟩
                    · simp only [sx_cc, Classical.not_not] at g
                      conv => whnf
                      refine ⟨fun g => ?_, fun g => ?_⟩
                      · skip
                        conv => whnf
                        refine ⟨(by first | assumption | rfl), ?_⟩
                        try simp (disch := omega) only [Int.cast_ofNat_Int, up_s, up_a, up_i, mp_a, mp_ge]
                        try simp only [x0]
                        try simp only [x1]
                        try simp only [en]
                        try simp only [t0]
                        try simp only [lk_125]
                        conv => whnf
                        refine ⟨rfl, ?_⟩
                        refine h _ (fun a j z9 => by unfold FRt at z9; repeat (first | rw [up_n (by omega)] | rfl)) (by repeat (first | rw [up_i (by decide)] | rfl)) ?_ ?_
                        · repeat rw [up_i (by decide)]
                          rw [up_s]
                          rw [e0]
                          first
                          | (rw [e1]; first | (rw [if_pos (by unfold fTwo; omega)]; omega) | rw [if_neg (by unfold fTwo; omega)])
                          | rw [if_neg (by unfold fTwo; omega)]
                        · rw [e0]
                          try rw [e1]
                          simp (disch := omega) only [up_s, up_i]
                          first
                          | exact Or.inl ⟨by omega, by omega, by omega, by omega⟩
                          | exact Or.inr (Or.inl ⟨by omega, by omega, by omega, by omega⟩)
                          | exact Or.inr (Or.inr (Or.inl ⟨by omega, by omega, by omega, by omega, by omega⟩))
                          | exact Or.inr (Or.inr (Or.inr (Or.inl ⟨by omega, by omega, by omega⟩)))
                          | exact Or.inr (Or.inr (Or.inr (Or.inr (Or.inl ⟨by omega, by omega, by omega, by omega⟩))))
                          | exact Or.inr (Or.inr (Or.inr (Or.inr (Or.inr (Or.inl ⟨by omega, by omega, by omega, by omega⟩)))))
                          | exact Or.inr (Or.inr (Or.inr (Or.inr (Or.inr (Or.inr (Or.inl ⟨by omega, by omega, by omega⟩))))))
                          | exact Or.inr (Or.inr (Or.inr (Or.inr (Or.inr (Or.inr (Or.inr ⟨fun z => by rcases z with z | z | z | z | z | z | z | z | z | z | z <;> omega, by omega⟩))))))
                      · exact absurd g (by simp [sx_cc])
                    · simp only [sx_cc, Classical.not_not] at g
                      conv => whnf
                      refine ⟨fun g => ?_, fun g => ?_⟩
                      · skip
                        conv => whnf
                        refine ⟨fun g => ?_, fun g => ?_⟩
                        · exact absurd g (by simp [sx_cc])
                        · skip
                          conv => whnf
                          refine ⟨(by first | assumption | rfl), ?_⟩
                          try simp (disch := omega) only [Int.cast_ofNat_Int, up_s, up_a, up_i, mp_a, mp_ge]
                          try simp only [x0]
                          try simp only [x1]
                          try simp only [en]
                          try simp only [t0]
                          try simp only [lk_125]
                          conv => whnf
                          refine ⟨rfl, ?_⟩
                          refine h _ (fun a j z9 => by unfold FRt at z9; repeat (first | rw [up_n (by omega)] | rfl)) (by repeat (first | rw [up_i (by decide)] | rfl)) ?_ ?_
                          · repeat rw [up_i (by decide)]
                            rw [up_s]
                            rw [e0]
                            first
                            | (rw [e1]; first | (rw [if_pos (by unfold fTwo; omega)]; omega) | rw [if_neg (by unfold fTwo; omega)])
                            | rw [if_neg (by unfold fTwo; omega)]
                          · rw [e0]
                            try rw [e1]
                            simp (disch := omega) only [up_s, up_i]
                            first
                            | exact Or.inl ⟨by omega, by omega, by omega, by omega⟩
                            | exact Or.inr (Or.inl ⟨by omega, by omega, by omega, by omega⟩)
                            | exact Or.inr (Or.inr (Or.inl ⟨by omega, by omega, by omega, by omega, by omega⟩))
                            | exact Or.inr (Or.inr (Or.inr (Or.inl ⟨by omega, by omega, by omega⟩)))
                            | exact Or.inr (Or.inr (Or.inr (Or.inr (Or.inl ⟨by omega, by omega, by omega, by omega⟩))))
                            | exact Or.inr (Or.inr (Or.inr (Or.inr (Or.inr (Or.inl ⟨by omega, by omega, by omega, by omega⟩)))))
                            | exact Or.inr (Or.inr (Or.inr (Or.inr (Or.inr (Or.inr (Or.inl ⟨by omega, by omega, by omega⟩))))))
                            | exact Or.inr (Or.inr (Or.inr (Or.inr (Or.inr (Or.inr (Or.inr ⟨fun z => by rcases z with z | z | z | z | z | z | z | z | z | z | z <;> omega, by omega⟩))))))
                      · exact absurd g (by simp [sx_cc])
                  · simp only [sx_cc, Classical.not_not] at g
                    conv => whnf
                    refine ⟨(by first | assumption | rfl), ?_⟩
                    try simp (disch := omega) only [Int.cast_ofNat_Int, up_s, up_a, up_i, mp_a, mp_ge]
                    try simp only [x0]
                    try simp only [x1]
                    try simp only [en]
                    try simp only [t0]
                    try simp only [lk_125]
                    conv => whnf
                    refine ⟨rfl, ?_⟩
                    refine h _ (fun a j z9 => by unfold FRt at z9; repeat (first | rw [up_n (by omega)] | rfl)) (by repeat (first | rw [up_i (by decide)] | rfl)) ?_ ?_
                    · repeat rw [up_i (by decide)]
                      rw [up_s]
                      rw [e0]
                      first
                      | (rw [e1]; first | (rw [if_pos (by unfold fTwo; omega)]; omega) | rw [if_neg (by unfold fTwo; omega)])
                      | rw [if_neg (by unfold fTwo; omega)]
                    · rw [e0]
                      try rw [e1]
                      simp (disch := omega) only [up_s, up_i]
                      first
                      | exact Or.inl ⟨by omega, by omega, by omega, by omega⟩
                      | exact Or.inr (Or.inl ⟨by omega, by omega, by omega, by omega⟩)
                      | exact Or.inr (Or.inr (Or.inl ⟨by omega, by omega, by omega, by omega, by omega⟩))
                      | exact Or.inr (Or.inr (Or.inr (Or.inl ⟨by omega, by omega, by omega⟩)))
                      | exact Or.inr (Or.inr (Or.inr (Or.inr (Or.inl ⟨by omega, by omega, by omega, by omega⟩))))
                      | exact Or.inr (Or.inr (Or.inr (Or.inr (Or.inr (Or.inl ⟨by omega, by omega, by omega, by omega⟩)))))
                      | exact Or.inr (Or.inr (Or.inr (Or.inr (Or.inr (Or.inr (Or.inl ⟨by omega, by omega, by omega⟩))))))
                      | exact Or.inr (Or.inr (Or.inr (Or.inr (Or.inr (Or.inr (Or.inr ⟨fun z => by rcases z with z | z | z | z | z | z | z | z | z | z | z <;> omega, by omega⟩))))))
        · simp only [sx_cc, Classical.not_not] at g
          conv => whnf
          refine ⟨(by first | assumption | rfl), ?_⟩
          try simp (disch := omega) only [Int.cast_ofNat_Int, up_s, up_a, up_i, mp_a, mp_ge]
          try simp only [x0]
          try simp only [x1]
          try simp only [en]
          try simp only [t0]
          try simp only [lk_125]
          conv => whnf
          refine ⟨fun g => ?_, fun g => ?_⟩
          · simp only [sx_cc, Classical.not_not] at g
            conv => whnf
            refine ⟨fun g => ?_, fun g => ?_⟩
            · skip
              conv => whnf
              refine ⟨(by first | assumption | rfl), ?_⟩
              try simp (disch := omega) only [Int.cast_ofNat_Int, up_s, up_a, up_i, mp_a, mp_ge]
              try simp only [x0]
              try simp only [x1]
              try simp only [en]
              try simp only [t0]
              try simp only [lk_125]
              conv => whnf
              refine ⟨⟨by omega, by omega⟩, ?_⟩
              conv => whnf
              refine ⟨(by first | assumption | rfl), ?_⟩
              try simp (disch := omega) only [Int.cast_ofNat_Int, up_s, up_a, up_i, mp_a, mp_ge]
              try simp only [x0]
              try simp only [x1]
              try simp only [en]
              try simp only [t0]
              try simp only [lk_125]
              conv => whnf
              refine ⟨(by first | assumption | rfl), ?_⟩
              try simp (disch := omega) only [Int.cast_ofNat_Int, up_s, up_a, up_i, mp_a, mp_ge]
              try simp only [x0]
              try simp only [x1]
              try simp only [en]
              try simp only [t0]
              try simp only [lk_125]
              conv => whnf
              refine ⟨(by first | assumption | rfl), ?_⟩
              try simp (disch := omega) only [Int.cast_ofNat_Int, up_s, up_a, up_i, mp_a, mp_ge]
              try simp only [x0]
              try simp only [x1]
              try simp only [en]
              try simp only [t0]
              try simp only [lk_125]
              conv => whnf
              refine ⟨fun g => ?_, fun g => ?_⟩
              · simp only [sx_cc, Classical.not_not] at g
                conv => whnf
                refine ⟨(by first | assumption | rfl), ?_⟩
                try simp (disch := omega) only [Int.cast_ofNat_Int, up_s, up_a, up_i, mp_a, mp_ge]
                try simp only [x0]
                try simp only [x1]
                try simp only [en]
                try simp only [t0]
                try simp only [lk_125]
                conv => whnf
                refine ⟨fun g => ?_, fun g => ?_⟩
                · simp only [sx_cc, Classical.not_not] at g
                  conv => whnf
                  refine ⟨fun g => ?_, fun g => ?_⟩
                  · exact absurd g (by simp [sx_cc])
                  · skip
                    conv => whnf
                    refine ⟨(by first | assumption | rfl), ?_⟩
                    try simp (disch := omega) only [Int.cast_ofNat_Int, up_s, up_a, up_i, mp_a, mp_ge]
                    try simp only [x0]
                    try simp only [x1]
                    try simp only [en]
                    try simp only [t0]
                    try simp only [lk_125]
                    conv => whnf
                    refine ⟨rfl, ?_⟩
                    refine h _ (fun a j z9 => by unfold FRt at z9; repeat (first | rw [up_n (by omega)] | rfl)) (by repeat (first | rw [up_i (by decide)] | rfl)) ?_ ?_
                    · repeat rw [up_i (by decide)]
                      rw [up_s]
                      rw [e0]
                      first
                      | (rw [e1]; first | (rw [if_pos (by unfold fTwo; omega)]; omega) | rw [if_neg (by unfold fTwo; omega)])
                      | rw [if_neg (by unfold fTwo; omega)]
                    · rw [e0]
                      try rw [e1]
                      simp (disch := omega) only [up_s, up_i]
                      first
                      | exact Or.inl ⟨by omega, by omega, by omega, by omega⟩
                      | exact Or.inr (Or.inl ⟨by omega, by omega, by omega, by omega⟩)
                      | exact Or.inr (Or.inr (Or.inl ⟨by omega, by omega, by omega, by omega, by omega⟩))
                      | exact Or.inr (Or.inr (Or.inr (Or.inl ⟨by omega, by omega, by omega⟩)))
                      | exact Or.inr (Or.inr (Or.inr (Or.inr (Or.inl ⟨by omega, by omega, by omega, by omega⟩))))
                      | exact Or.inr (Or.inr (Or.inr (Or.inr (Or.inr (Or.inl ⟨by omega, by omega, by omega, by omega⟩)))))
                      | exact Or.inr (Or.inr (Or.inr (Or.inr (Or.inr (Or.inr (Or.inl ⟨by omega, by omega, by omega⟩))))))
                      | exact Or.inr (Or.inr (Or.inr (Or.inr (Or.inr (Or.inr (Or.inr ⟨fun z => by rcases z with z | z | z | z | z | z | z | z | z | z | z <;> omega, by omega⟩))))))
                · simp only [sx_cc, Classical.not_not] at g
                  conv => whnf
                  refine ⟨fun g => ?_, fun g => ?_⟩
                  · exact absurd g (by simp [sx_cc])
                  · skip
                    conv => whnf
                    refine ⟨(by first | assumption | rfl), ?_⟩
                    try simp (disch := omega) only [Int.cast_ofNat_Int, up_s, up_a, up_i, mp_a, mp_ge]
                    try simp only [x0]
                    try simp only [x1]
                    try simp only [en]
                    try simp only [t0]
                    try simp only [lk_125]
                    conv => whnf
                    refine ⟨rfl, ?_⟩
                    refine h _ (fun a j z9 => by unfold FRt at z9; repeat (first | rw [up_n (by omega)] | rfl)) (by repeat (first | rw [up_i (by decide)] | rfl)) ?_ ?_
                    · repeat rw [up_i (by decide)]
                      rw [up_s]
                      rw [e0]
                      first
                      | (rw [e1]; first | (rw [if_pos (by unfold fTwo; omega)]; omega) | rw [if_neg (by unfold fTwo; omega)])
                      | rw [if_neg (by unfold fTwo; omega)]
                    · rw [e0]
                      try rw [e1]
                      simp (disch := omega) only [up_s, up_i]
                      first
                      | exact Or.inl ⟨by omega, by omega, by omega, by omega⟩
                      | exact Or.inr (Or.inl ⟨by omega, by omega, by omega, by omega⟩)
                      | exact Or.inr (Or.inr (Or.inl ⟨by omega, by omega, by omega, by omega, by omega⟩))
                      | exact Or.inr (Or.inr (Or.inr (Or.inl ⟨by omega, by omega, by omega⟩)))
                      | exact Or.inr (Or.inr (Or.inr (Or.inr (Or.inl ⟨by omega, by omega, by omega, by omega⟩))))
                      | exact Or.inr (Or.inr (Or.inr (Or.inr (Or.inr (Or.inl ⟨by omega, by omega, by omega, by omega⟩)))))
                      | exact Or.inr (Or.inr (Or.inr (Or.inr (Or.inr (Or.inr (Or.inl ⟨by omega, by omega, by omega⟩))))))
                      | exact Or.inr (Or.inr (Or.inr (Or.inr (Or.inr (Or.inr (Or.inr ⟨fun z => by rcases z with z | z | z | z | z | z | z | z | z | z | z <;> omega, by omega⟩))))))
              · simp only [sx_cc, Classical.not_not] at g
                conv => whnf
                refine ⟨(by first | assumption | rfl), ?_⟩
                try simp (disch := omega) only [Int.cast_ofNat_Int, up_s, up_a, up_i, mp_a, mp_ge]
                try simp only [x0]
                try simp only [x1]
                try simp only [en]
                try simp only [t0]
                try simp only [lk_125]
                conv => whnf
                refine ⟨rfl, ?_⟩
                refine h _ (fun a j z9 => by unfold FRt at z9; repeat (first | rw [up_n (by omega)] | rfl)) (by repeat (first | rw [up_i (by decide)] | rfl)) ?_ ?_
                · repeat rw [up_i (by decide)]
                  rw [up_s]
                  rw [e0]
                  first
                  | (rw [e1]; first | (rw [if_pos (by unfold fTwo; omega)]; omega) | rw [if_neg (by unfold fTwo; omega)])
                  | rw [if_neg (by unfold fTwo; omega)]
                · rw [e0]
                  try rw [e1]
                  simp (disch := omega) only [up_s, up_i]
                  first
                  | exact Or.inl ⟨by omega, by omega, by omega, by omega⟩
                  | exact Or.inr (Or.inl ⟨by omega, by omega, by omega, by omega⟩)
                  | exact Or.inr (Or.inr (Or.inl ⟨by omega, by omega, by omega, by omega, by omega⟩))
                  | exact Or.inr (Or.inr (Or.inr (Or.inl ⟨by omega, by omega, by omega⟩)))
                  | exact Or.inr (Or.inr (Or.inr (Or.inr (Or.inl ⟨by omega, by omega, by omega, by omega⟩))))
                  | exact Or.inr (Or.inr (Or.inr (Or.inr (Or.inr (Or.inl ⟨by omega, by omega, by omega, by omega⟩)))))
                  | exact Or.inr (Or.inr (Or.inr (Or.inr (Or.inr (Or.inr (Or.inl ⟨by omega, by omega, by omega⟩))))))
                  | exact Or.inr (Or.inr (Or.inr (Or.inr (Or.inr (Or.inr (Or.inr ⟨fun z => by rcases z with z | z | z | z | z | z | z | z | z | z | z <;> omega, by omega⟩))))))
            · exact absurd g (by simp [sx_cc])
          · simp only [sx_cc, Classical.not_not] at g
            conv => whnf
            refine ⟨fun g => ?_, fun g => ?_⟩
            · simp only [sx_cc, Classical.not_not] at g
              conv => whnf
              refine ⟨fun g => ?_, fun g => ?_⟩
              · skip
                conv => whnf
                refine ⟨(by first | assumption | rfl), ?_⟩
                try simp (disch := omega) only [Int.cast_ofNat_Int, up_s, up_a, up_i, mp_a, mp_ge]
                try simp only [x0]
                try simp only [x1]
                try simp only [en]
                try simp only [t0]
                try simp only [lk_125]
                conv => whnf
                refine ⟨⟨by omega, by omega⟩, ?_⟩
                conv => whnf
                refine ⟨(by first | assumption | rfl), ?_⟩
                try simp (disch := omega) only [Int.cast_ofNat_Int, up_s, up_a, up_i, mp_a, mp_ge]
                try simp only [x0]
                try simp only [x1]
                try simp only [en]
                try simp only [t0]
                try simp only [lk_125]
                conv => whnf
                refine ⟨(by first | assumption | rfl), ?_⟩
                try simp (disch := omega) only [Int.cast_ofNat_Int, up_s, up_a, up_i, mp_a, mp_ge]
                try simp only [x0]
                try simp only [x1]
                try simp only [en]
                try simp only [t0]
                try simp only [lk_125]
                conv => whnf
                refine ⟨(by first | assumption | rfl), ?_⟩
                try simp (disch := omega) only [Int.cast_ofNat_Int, up_s, up_a, up_i, mp_a, mp_ge]
                try simp only [x0]
                try simp only [x1]
                try simp only [en]
                try simp only [t0]
                try simp only [lk_125]
                conv => whnf
                refine ⟨fun g => ?_, fun g => ?_⟩
                · simp only [sx_cc, Classical.not_not] at g
                  conv => whnf
                  refine ⟨(by first | assumption | rfl), ?_⟩
                  try simp (disch := omega) only [Int.cast_ofNat_Int, up_s, up_a, up_i, mp_a, mp_ge]
                  try simp only [x0]
                  try simp only [x1]
                  try simp only [en]
                  try simp only [t0]
                  try simp only [lk_125]
                  conv => whnf
                  refine ⟨fun g => ?_, fun g => ?_⟩
                  · simp only [sx_cc, Classical.not_not] at g
                    conv => whnf
                    refine ⟨fun g => ?_, fun g => ?_⟩
                    · exact absurd g (by simp [sx_cc])
                    · skip
                      conv => whnf
                      refine ⟨(by first | assumption | rfl), ?_⟩
                      try simp (disch := omega) only [Int.cast_ofNat_Int, up_s, up_a, up_i, mp_a, mp_ge]
                      try simp only [x0]
                      try simp only [x1]
                      try simp only [en]
                      try simp only [t0]
                      try simp only [lk_125]
                      conv => whnf
                      refine ⟨rfl, ?_⟩
                      refine h _ (fun a j z9 => by unfold FRt at z9; repeat (first | rw [up_n (by omega)] | rfl)) (by repeat (first | rw [up_i (by decide)] | rfl)) ?_ ?_
                      · repeat rw [up_i (by decide)]
                        rw [up_s]
                        rw [e0]
                        first
                        | (rw [e1]; first | (rw [if_pos (by unfold fTwo; omega)]; omega) | rw [if_neg (by unfold fTwo; omega)])
                        | rw [if_neg (by unfold fTwo; omega)]
                      · rw [e0]
                        try rw [e1]
                        simp (disch := omega) only [up_s, up_i]
                        first
                        | exact Or.inl ⟨by omega, by omega, by omega, by omega⟩
                        | exact Or.inr (Or.inl ⟨by omega, by omega, by omega, by omega⟩)
                        | exact Or.inr (Or.inr (Or.inl ⟨by omega, by omega, by omega, by omega, by omega⟩))
                        | exact Or.inr (Or.inr (Or.inr (Or.inl ⟨by omega, by omega, by omega⟩)))
                        | exact Or.inr (Or.inr (Or.inr (Or.inr (Or.inl ⟨by omega, by omega, by omega, by omega⟩))))
                        | exact Or.inr (Or.inr (Or.inr (Or.inr (Or.inr (Or.inl ⟨by omega, by omega, by omega, by omega⟩)))))
                        | exact Or.inr (Or.inr (Or.inr (Or.inr (Or.inr (Or.inr (Or.inl ⟨by omega, by omega, by omega⟩))))))
                        | exact Or.inr (Or.inr (Or.inr (Or.inr (Or.inr (Or.inr (Or.inr ⟨fun z => by rcases z with z | z | z | z | z | z | z | z | z | z | z <;> omega, by omega⟩))))))
                  · simp only [sx_cc, Classical.not_not] at g
                    conv => whnf
                    refine ⟨fun g => ?_, fun g => ?_⟩
                    · exact absurd g (by simp [sx_cc])
                    · skip
                      conv => whnf
                      refine ⟨(by first | assumption | rfl), ?_⟩
                      try simp (disch := omega) only [Int.cast_ofNat_Int, up_s, up_a, up_i, mp_a, mp_ge]
                      try simp only [x0]
                      try simp only [x1]
                      try simp only [en]
                      try simp only [t0]
                      try simp only [lk_125]
                      conv => whnf
                      refine ⟨rfl, ?_⟩
                      refine h _ (fun a j z9 => by unfold FRt at z9; repeat (first | rw [up_n (by omega)] | rfl)) (by repeat (first | rw [up_i (by decide)] | rfl)) ?_ ?_
                      · repeat rw [up_i (by decide)]
                        rw [up_s]
                        rw [e0]
                        first
                        | (rw [e1]; first | (rw [if_pos (by unfold fTwo; omega)]; omega) | rw [if_neg (by unfold fTwo; omega)])
                        | rw [if_neg (by unfold fTwo; omega)]
                      · rw [e0]
                        try rw [e1]
                        simp (disch := omega) only [up_s, up_i]
                        first
                        | exact Or.inl ⟨by omega, by omega, by omega, by omega⟩
                        | exact Or.inr (Or.inl ⟨by omega, by omega, by omega, by omega⟩)
                        | exact Or.inr (Or.inr (Or.inl ⟨by omega, by omega, by omega, by omega, by omega⟩))
                        | exact Or.inr (Or.inr (Or.inr (Or.inl ⟨by omega, by omega, by omega⟩)))
                        | exact Or.inr (Or.inr (Or.inr (Or.inr (Or.inl ⟨by omega, by omega, by omega, by omega⟩))))
                        | exact Or.inr (Or.inr (Or.inr (Or.inr (Or.inr (Or.inl ⟨by omega, by omega, by omega, by omega⟩)))))
                        | exact Or.inr (Or.inr (Or.inr (Or.inr (Or.inr (Or.inr (Or.inl ⟨by omega, by omega, by omega⟩))))))
                        | exact Or.inr (Or.inr (Or.inr (Or.inr (Or.inr (Or.inr (Or.inr ⟨fun z => by rcases z with z | z | z | z | z | z | z | z | z | z | z <;> omega, by omega⟩))))))
                · simp only [sx_cc, Classical.not_not] at g
                  conv => whnf
                  refine ⟨(by first | assumption | rfl), ?_⟩
                  try simp (disch := omega) only [Int.cast_ofNat_Int, up_s, up_a, up_i, mp_a, mp_ge]
                  try simp only [x0]
                  try simp only [x1]
                  try simp only [en]
                  try simp only [t0]
                  try simp only [lk_125]
                  conv => whnf
                  refine ⟨rfl, ?_⟩
                  refine h _ (fun a j z9 => by unfold FRt at z9; repeat (first | rw [up_n (by omega)] | rfl)) (by repeat (first | rw [up_i (by decide)] | rfl)) ?_ ?_
                  · repeat rw [up_i (by decide)]
                    rw [up_s]
                    rw [e0]
                    first
                    | (rw [e1]; first | (rw [if_pos (by unfold fTwo; omega)]; omega) | rw [if_neg (by unfold fTwo; omega)])
                    | rw [if_neg (by unfold fTwo; omega)]
                  · rw [e0]
                    try rw [e1]
                    simp (disch := omega) only [up_s, up_i]
                    first
                    | exact Or.inl ⟨by omega, by omega, by omega, by omega⟩
                    | exact Or.inr (Or.inl ⟨by omega, by omega, by omega, by omega⟩)
                    | exact Or.inr (Or.inr (Or.inl ⟨by omega, by omega, by omega, by omega, by omega⟩))
                    | exact Or.inr (Or.inr (Or.inr (Or.inl ⟨by omega, by omega, by omega⟩)))
                    | exact Or.inr (Or.inr (Or.inr (Or.inr (Or.inl ⟨by omega, by omega, by omega, by omega⟩))))
                    | exact Or.inr (Or.inr (Or.inr (Or.inr (Or.inr (Or.inl ⟨by omega, by omega, by omega, by omega⟩)))))
                    | exact Or.inr (Or.inr (Or.inr (Or.inr (Or.inr (Or.inr (Or.inl ⟨by omega, by omega, by omega⟩))))))
                    | exact Or.inr (Or.inr (Or.inr (Or.inr (Or.inr (Or.inr (Or.inr ⟨fun z => by rcases z with z | z | z | z | z | z | z | z | z | z | z <;> omega, by omega⟩))))))
              · exact absurd g (by simp [sx_cc])
            · simp only [sx_cc, Classical.not_not] at g
              conv => whnf
              refine ⟨fun g => ?_, fun g => ?_⟩
              · skip
                conv => whnf
                refine ⟨(by first | assumption | rfl), ?_⟩
                try simp (disch := omega) only [Int.cast_ofNat_Int, up_s, up_a, up_i, mp_a, mp_ge]
                try simp only [x0]
                try simp only [x1]
                try simp only [en]
                try simp only [t0]
                try simp only [lk_125]
                conv => whnf
                refine ⟨⟨by omega, by omega⟩, ?_⟩
                conv => whnf
                refine ⟨(by first | assumption | rfl), ?_⟩
                try simp (disch := omega) only [Int.cast_ofNat_Int, up_s, up_a, up_i, mp_a, mp_ge]
                try simp only [x0]
                try simp only [x1]
                try simp only [en]
                try simp only [t0]
                try simp only [lk_125]
                conv => whnf
                refine ⟨(by first | assumption | rfl), ?_⟩
                try simp (disch := omega) only [Int.cast_ofNat_Int, up_s, up_a, up_i, mp_a, mp_ge]
                try simp only [x0]
                try simp only [x1]
                try simp only [en]
                try simp only [t0]
                try simp only [lk_125]
                conv => whnf
                refine ⟨(by first | assumption | rfl), ?_⟩
                try simp (disch := omega) only [Int.cast_ofNat_Int, up_s, up_a, up_i, mp_a, mp_ge]
                try simp only [x0]
                try simp only [x1]
                try simp only [en]
                try simp only [t0]
                try simp only [lk_125]
                conv => whnf
                refine ⟨fun g => ?_, fun g => ?_⟩
                · simp only [sx_cc, Classical.not_not] at g
                  conv => whnf
                  refine ⟨(by first | assumption | rfl), ?_⟩
                  try simp (disch := omega) only [Int.cast_ofNat_Int, up_s, up_a, up_i, mp_a, mp_ge]
                  try simp only [x0]
                  try simp only [x1]
                  try simp only [en]
                  try simp only [t0]
                  try simp only [lk_125]
                  conv => whnf
                  refine ⟨fun g => ?_, fun g => ?_⟩
                  · simp only [sx_cc, Classical.not_not] at g
                    conv => whnf
                    refine ⟨fun g => ?_, fun g => ?_⟩
                    · exact absurd g (by simp [sx_cc])
                    · skip
                      conv => whnf
                      refine ⟨(by first | assumption | rfl), ?_⟩
                      try simp (disch := omega) only [Int.cast_ofNat_Int, up_s, up_a, up_i, mp_a, mp_ge]
                      try simp only [x0]
                      try simp only [x1]
                      try simp only [en]
                      try simp only [t0]
                      try simp only [lk_125]
                      conv => whnf
                      refine ⟨rfl, ?_⟩
                      refine h _ (fun a j z9 => by unfold FRt at z9; repeat (first | rw [up_n (by omega)] | rfl)) (by repeat (first | rw [up_i (by decide)] | rfl)) ?_ ?_
                      · repeat rw [up_i (by decide)]
                        rw [up_s]
                        rw [e0]
                        first
                        | (rw [e1]; first | (rw [if_pos (by unfold fTwo; omega)]; omega) | rw [if_neg (by unfold fTwo; omega)])
                        | rw [if_neg (by unfold fTwo; omega)]
                      · rw [e0]
                        try rw [e1]
                        simp (disch := omega) only [up_s, up_i]
                        first
                        | exact Or.inl ⟨by omega, by omega, by omega, by omega⟩
                        | exact Or.inr (Or.inl ⟨by omega, by omega, by omega, by omega⟩)
                        | exact Or.inr (Or.inr (Or.inl ⟨by omega, by omega, by omega, by omega, by omega⟩))
                        | exact Or.inr (Or.inr (Or.inr (Or.inl ⟨by omega, by omega, by omega⟩)))
                        | exact Or.inr (Or.inr (Or.inr (Or.inr (Or.inl ⟨by omega, by omega, by omega, by omega⟩))))
                        | exact Or.inr (Or.inr (Or.inr (Or.inr (Or.inr (Or.inl ⟨by omega, by omega, by omega, by omega⟩)))))
                        | exact Or.inr (Or.inr (Or.inr (Or.inr (Or.inr (Or.inr (Or.inl ⟨by omega, by omega, by omega⟩))))))
                        | exact Or.inr (Or.inr (Or.inr (Or.inr (Or.inr (Or.inr (Or.inr ⟨fun z => by rcases z with z | z | z | z | z | z | z | z | z | z | z <;> omega, by omega⟩))))))
                  · simp only [sx_cc, Classical.not_not] at g
                    conv => whnf
                    refine ⟨fun g => ?_, fun g => ?_⟩
                    · exact absurd g (by simp [sx_cc])
                    · skip
                      conv => whnf
                      refine ⟨(by first | assumption | rfl), ?_⟩
                      try simp (disch := omega) only [Int.cast_ofNat_Int, up_s, up_a, up_i, mp_a, mp_ge]
                      try simp only [x0]
                      try simp only [x1]
                      try simp only [en]
                      try simp only [t0]
                      try simp only [lk_125]
                      conv => whnf
                      refine ⟨rfl, ?_⟩
                      refine h _ (fun a j z9 => by unfold FRt at z9; repeat (first | rw [up_n (by omega)] | rfl)) (by repeat (first | rw [up_i (by decide)] | rfl)) ?_ ?_
                      · repeat rw [up_i (by decide)]
                        rw [up_s]
                        rw [e0]
                        first
                        | (rw [e1]; first | (rw [if_pos (by unfold fTwo; omega)]; omega) | rw [if_neg (by unfold fTwo; omega)])
                        | rw [if_neg (by unfold fTwo; omega)]
                      · rw [e0]
                        try rw [e1]
                        simp (disch := omega) only [up_s, up_i]
                        first
                        | exact Or.inl ⟨by omega, by omega, by omega, by omega⟩
                        | exact Or.inr (Or.inl ⟨by omega, by omega, by omega, by omega⟩)
                        | exact Or.inr (Or.inr (Or.inl ⟨by omega, by omega, by omega, by omega, by omega⟩))
                        | exact Or.inr (Or.inr (Or.inr (Or.inl ⟨by omega, by omega, by omega⟩)))
                        | exact Or.inr (Or.inr (Or.inr (Or.inr (Or.inl ⟨by omega, by omega, by omega, by omega⟩))))
                        | exact Or.inr (Or.inr (Or.inr (Or.inr (Or.inr (Or.inl ⟨by omega, by omega, by omega, by omega⟩)))))
                        | exact Or.inr (Or.inr (Or.inr (Or.inr (Or.inr (Or.inr (Or.inl ⟨by omega, by omega, by omega⟩))))))
                        | exact Or.inr (Or.inr (Or.inr (Or.inr (Or.inr (Or.inr (Or.inr ⟨fun z => by rcases z with z | z | z | z | z | z | z | z | z | z | z <;> omega, by omega⟩))))))
                · simp only [sx_cc, Classical.not_not] at g
                  conv => whnf
                  refine ⟨(by first | assumption | rfl), ?_⟩
                  try simp (disch := omega) only [Int.cast_ofNat_Int, up_s, up_a, up_i, mp_a, mp_ge]
                  try simp only [x0]
                  try simp only [x1]
                  try simp only [en]
                  try simp only [t0]
                  try simp only [lk_125]
                  conv => whnf
                  refine ⟨rfl, ?_⟩
                  refine h _ (fun a j z9 => by unfold FRt at z9; repeat (first | rw [up_n (by omega)] | rfl)) (by repeat (first | rw [up_i (by decide)] | rfl)) ?_ ?_
                  · repeat rw [up_i (by decide)]
                    rw [up_s]
                    rw [e0]
                    first
                    | (rw [e1]; first | (rw [if_pos (by unfold fTwo; omega)]; omega) | rw [if_neg (by unfold fTwo; omega)])
                    | rw [if_neg (by unfold fTwo; omega)]
                  · rw [e0]
                    try rw [e1]
                    simp (disch := omega) only [up_s, up_i]
                    first
                    | exact Or.inl ⟨by omega, by omega, by omega, by omega⟩
                    | exact Or.inr (Or.inl ⟨by omega, by omega, by omega, by omega⟩)
                    | exact Or.inr (Or.inr (Or.inl ⟨by omega, by omega, by omega, by omega, by omega⟩))
                    | exact Or.inr (Or.inr (Or.inr (Or.inl ⟨by omega, by omega, by omega⟩)))
                    | exact Or.inr (Or.inr (Or.inr (Or.inr (Or.inl ⟨by omega, by omega, by omega, by omega⟩))))
                    | exact Or.inr (Or.inr (Or.inr (Or.inr (Or.inr (Or.inl ⟨by omega, by omega, by omega, by omega⟩)))))
                    | exact Or.inr (Or.inr (Or.inr (Or.inr (Or.inr (Or.inr (Or.inl ⟨by omega, by omega, by omega⟩))))))
                    | exact Or.inr (Or.inr (Or.inr (Or.inr (Or.inr (Or.inr (Or.inr ⟨fun z => by rcases z with z | z | z | z | z | z | z | z | z | z | z <;> omega, by omega⟩))))))
              · exact absurd g (by simp [sx_cc])
  · simp only [sx_cc, Classical.not_not] at g
    conv => whnf
    refine ⟨(by first | assumption | rfl), ?_⟩
    try simp (disch := omega) only [Int.cast_ofNat_Int, up_s, up_a, up_i, mp_a, mp_ge]
    try simp only [x0]
    try simp only [x1]
    try simp only [en]
    try simp only [t0]
    try simp only [lk_125]
    conv => whnf
    refine ⟨fun g => ?_, fun g => ?_⟩
    · simp only [sx_cc, Classical.not_not] at g
      conv => whnf
      refine ⟨(by first | assumption | rfl), ?_⟩
      try simp (disch := omega) only [Int.cast_ofNat_Int, up_s, up_a, up_i, mp_a, mp_ge]
      try simp only [x0]
      try simp only [x1]
      try simp only [en]
      try simp only [t0]
      try simp only [lk_125]
      conv => whnf
      refine ⟨(by first | assumption | rfl), ?_⟩
      try simp (disch := omega) only [Int.cast_ofNat_Int, up_s, up_a, up_i, mp_a, mp_ge]
      try simp only [x0]
      try simp only [x1]
      try simp only [en]
      try simp only [t0]
      try simp only [lk_125]
      conv => whnf
      refine ⟨fun g => ?_, fun g => ?_⟩
      · simp only [sx_cc, Classical.not_not] at g
        have e1 : fTx tx n9 (y + 1) = 0 := fTx_n (by omega)
        conv => whnf
        refine ⟨(by first | assumption | rfl), ?_⟩
        try simp (disch := omega) only [Int.cast_ofNat_Int, up_s, up_a, up_i, mp_a, mp_ge]
        try simp only [x0]
        try simp only [x1]
        try simp only [en]
        try simp only [t0]
        try simp only [lk_125]
        conv => whnf
        refine ⟨fun g => ?_, fun g => ?_⟩
        · simp only [sx_cc, Classical.not_not] at g
          conv => whnf
          refine ⟨(by first | assumption | rfl), ?_⟩
          try simp (disch := omega) only [Int.cast_ofNat_Int, up_s, up_a, up_i, mp_a, mp_ge]
          try simp only [x0]
          try simp only [x1]
          try simp only [en]
          try simp only [t0]
          try simp only [lk_125]
          conv => whnf
          refine ⟨fun g => ?_, fun g => ?_⟩
          · simp only [sx_cc, Classical.not_not] at g
            conv => whnf
            refine ⟨fun g => ?_, fun g => ?_⟩
            · exact absurd g (by simp [sx_cc])
            · skip
              conv => whnf
              refine ⟨fun g => ?_, fun g => ?_⟩
              · skip
                conv => whnf
                refine ⟨(by first | assumption | rfl), ?_⟩
                try simp (disch := omega) only [Int.cast_ofNat_Int, up_s, up_a, up_i, mp_a, mp_ge]
                try simp only [x0]
                try simp only [x1]
                try simp only [en]
                try simp only [t0]
                try simp only [lk_125]
                conv => whnf
                refine ⟨(by first | assumption | rfl), ?_⟩
                try simp (disch := omega) only [Int.cast_ofNat_Int, up_s, up_a, up_i, mp_a, mp_ge]
                try simp only [x0]
                try simp only [x1]
                try simp only [en]
                try simp only [t0]
                try simp only [lk_125]
                conv => whnf
                refine ⟨fun g => ?_, fun g => ?_⟩
                · simp only [sx_cc, Classical.not_not] at g
                  conv => whnf
                  refine ⟨(by first | assumption | rfl), ?_⟩
                  try simp (disch := omega) only [Int.cast_ofNat_Int, up_s, up_a, up_i, mp_a, mp_ge]
                  try simp only [x0]
                  try simp only [x1]
                  try simp only [en]
                  try simp only [t0]
                  try simp only [lk_125]
                  conv => whnf
                  refine ⟨fun g => ?_, fun g => ?_⟩
                  · simp only [sx_cc, Classical.not_not] at g
                    conv => whnf
                    refine ⟨fun g => ?_, fun g => ?_⟩
                    · skip
                      conv => whnf
                      refine ⟨(by first | assumption | rfl), ?_⟩
                      try simp (disch := omega) only [Int.cast_ofNat_Int, up_s, up_a, up_i, mp_a, mp_ge]
                      try simp only [x0]
                      try simp only [x1]
                      try simp only [en]
                      try simp only [t0]
                      try simp only [lk_125]
                      conv => whnf
                      refine ⟨rfl, ?_⟩
                      refine h _ (fun a j z9 => by unfold FRt at z9; repeat (first | rw [up_n (by omega)] | rfl)) (by repeat (first | rw [up_i (by decide)] | rfl)) ?_ ?_
                      · repeat rw [up_i (by decide)]
                        rw [up_s]
                        rw [e0]
                        first
                        | (rw [e1]; first | (rw [if_pos (by unfold fTwo; omega)]; omega) | rw [if_neg (by unfold fTwo; omega)])
                        | rw [if_neg (by unfold fTwo; omega)]
                      · rw [e0]
                        try rw [e1]
                        simp (disch := omega) only [up_s, up_i]
                        first
                        | exact Or.inl ⟨by omega, by omega, by omega, by omega⟩
                        | exact Or.inr (Or.inl ⟨by omega, by omega, by omega, by omega⟩)
                        | exact Or.inr (Or.inr (Or.inl ⟨by omega, by omega, by omega, by omega, by omega⟩))
                        | exact Or.inr (Or.inr (Or.inr (Or.inl ⟨by omega, by omega, by omega⟩)))
                        | exact Or.inr (Or.inr (Or.inr (Or.inr (Or.inl ⟨by omega, by omega, by omega, by omega⟩))))
                        | exact Or.inr (Or.inr (Or.inr (Or.inr (Or.inr (Or.inl ⟨by omega, by omega, by omega, by omega⟩)))))
                        | exact Or.inr (Or.inr (Or.inr (Or.inr (Or.inr (Or.inr (Or.inl ⟨by omega, by omega, by omega⟩))))))
                        | exact Or.inr (Or.inr (Or.inr (Or.inr (Or.inr (Or.inr (Or.inr ⟨fun z => by rcases z with z | z | z | z | z | z | z | z | z | z | z <;> omega, by omega⟩))))))
                    · exact absurd g (by simp [sx_cc])
                  · simp only [sx_cc, Classical.not_not] at g
                    conv => whnf
                    refine ⟨fun g => ?_, fun g => ?_⟩
                    · skip
                      conv => whnf
                      refine ⟨fun g => ?_, fun g => ?_⟩
                      · skip
                        conv => whnf
                        refine ⟨(by first | assumption | rfl), ?_⟩
                        try simp (disch := omega) only [Int.cast_ofNat_Int, up_s, up_a, up_i, mp_a, mp_ge]
                        try simp only [x0]
                        try simp only [x1]
                        try simp only [en]
                        try simp only [t0]
                        try simp only [lk_125]
                        conv => whnf
                        refine ⟨rfl, ?_⟩
                        refine h _ (fun a j z9 => by unfold FRt at z9; repeat (first | rw [up_n (by omega)] | rfl)) (by repeat (first | rw [up_i (by decide)] | rfl)) ?_ ?_
                        · repeat rw [up_i (by decide)]
                          rw [up_s]
                          rw [e0]
                          first
                          | (rw [e1]; first | (rw [if_pos (by unfold fTwo; omega)]; omega) | rw [if_neg (by unfold fTwo; omega)])
                          | rw [if_neg (by unfold fTwo; omega)]
                        · rw [e0]
                          try rw [e1]
                          simp (disch := omega) only [up_s, up_i]
                          first
                          | exact Or.inl ⟨by omega, by omega, by omega, by omega⟩
                          | exact Or.inr (Or.inl ⟨by omega, by omega, by omega, by omega⟩)
                          | exact Or.inr (Or.inr (Or.inl ⟨by omega, by omega, by omega, by omega, by omega⟩))
                          | exact Or.inr (Or.inr (Or.inr (Or.inl ⟨by omega, by omega, by omega⟩)))
                          | exact Or.inr (Or.inr (Or.inr (Or.inr (Or.inl ⟨by omega, by omega, by omega, by omega⟩))))
                          | exact Or.inr (Or.inr (Or.inr (Or.inr (Or.inr (Or.inl ⟨by omega, by omega, by omega, by omega⟩)))))
                          | exact Or.inr (Or.inr (Or.inr (Or.inr (Or.inr (Or.inr (Or.inl ⟨by omega, by omega, by omega⟩))))))
                          | exact Or.inr (Or.inr (Or.inr (Or.inr (Or.inr (Or.inr (Or.inr ⟨fun z => by rcases z with z | z | z | z | z | z | z | z | z | z | z <;> omega, by omega⟩))))))
                      · exact absurd g (by simp [sx_cc])
                    · exact absurd g (by simp [sx_cc])
                · simp only [sx_cc, Classical.not_not] at g
                  conv => whnf
                  refine ⟨(by first | assumption | rfl), ?_⟩
                  try simp (disch := omega) only [Int.cast_ofNat_Int, up_s, up_a, up_i, mp_a, mp_ge]
                  try simp only [x0]
                  try simp only [x1]
                  try simp only [en]
                  try simp only [t0]
                  try simp only [lk_125]
                  conv => whnf
                  refine ⟨rfl, ?_⟩
                  refine h _ (fun a j z9 => by unfold FRt at z9; repeat (first | rw [up_n (by omega)] | rfl)) (by repeat (first | rw [up_i (by decide)] | rfl)) ?_ ?_
                  · repeat rw [up_i (by decide)]
                    rw [up_s]
                    rw [e0]
                    first
                    | (rw [e1]; first | (rw [if_pos (by unfold fTwo; omega)]; omega) | rw [if_neg (by unfold fTwo; omega)])
                    | rw [if_neg (by unfold fTwo; omega)]
                  · rw [e0]
                    try rw [e1]
                    simp (disch := omega) only [up_s, up_i]
                    first
                    | exact Or.inl ⟨by omega, by omega, by omega, by omega⟩
                    | exact Or.inr (Or.inl ⟨by omega, by omega, by omega, by omega⟩)
                    | exact Or.inr (Or.inr (Or.inl ⟨by omega, by omega, by omega, by omega, by omega⟩))
                    | exact Or.inr (Or.inr (Or.inr (Or.inl ⟨by omega, by omega, by omega⟩)))
                    | exact Or.inr (Or.inr (Or.inr (Or.inr (Or.inl ⟨by omega, by omega, by omega, by omega⟩))))
                    | exact Or.inr (Or.inr (Or.inr (Or.inr (Or.inr (Or.inl ⟨by omega, by omega, by omega, by omega⟩)))))
                    | exact Or.inr (Or.inr (Or.inr (Or.inr (Or.inr (Or.inr (Or.inl ⟨by omega, by omega, by omega⟩))))))
                    | exact Or.inr (Or.inr (Or.inr (Or.inr (Or.inr (Or.inr (Or.inr ⟨fun z => by rcases z with z | z | z | z | z | z | z | z | z | z | z <;> omega, by omega⟩))))))
              · exact absurd g (by simp [sx_cc])
          · simp only [sx_cc, Classical.not_not] at g
            conv => whnf
            refine ⟨fun g => ?_, fun g => ?_⟩
            · skip
              conv => whnf
              refine ⟨fun g => ?_, fun g => ?_⟩
              · exact absurd g (by simp [sx_cc])
              · skip
                conv => whnf
                refine ⟨fun g => ?_, fun g => ?_⟩
                · skip
                  conv => whnf
                  refine ⟨(by first | assumption | rfl), ?_⟩
                  try simp (disch := omega) only [Int.cast_ofNat_Int, up_s, up_a, up_i, mp_a, mp_ge]
                  try simp only [x0]
                  try simp only [x1]
                  try simp only [en]
                  try simp only [t0]
                  try simp only [lk_125]
                  conv => whnf
                  refine ⟨(by first | assumption | rfl), ?_⟩
                  try simp (disch := omega) only [Int.cast_ofNat_Int, up_s, up_a, up_i, mp_a, mp_ge]
                  try simp only [x0]
                  try simp only [x1]
                  try simp only [en]
                  try simp only [t0]
                  try simp only [lk_125]
                  conv => whnf
                  refine ⟨fun g => ?_, fun g => ?_⟩
                  · simp only [sx_cc, Classical.not_not] at g
                    conv => whnf
                    refine ⟨(by first | assumption | rfl), ?_⟩
                    try simp (disch := omega) only [Int.cast_ofNat_Int, up_s, up_a, up_i, mp_a, mp_ge]
                    try simp only [x0]
                    try simp only [x1]
                    try simp only [en]
                    try simp only [t0]
                    try simp only [lk_125]
                    conv => whnf
                    refine ⟨fun g => ?_, fun g => ?_⟩
                    · simp only [sx_cc, Classical.not_not] at g
                      conv => whnf
                      refine ⟨fun g => ?_, fun g => ?_⟩
                      · skip
                        conv => whnf
                        refine ⟨(by first | assumption | rfl), ?_⟩
                        try simp (disch := omega) only [Int.cast_ofNat_Int, up_s, up_a, up_i, mp_a, mp_ge]
                        try simp only [x0]
                        try simp only [x1]
                        try simp only [en]
                        try simp only [t0]
                        try simp only [lk_125]
                        conv => whnf
                        refine ⟨rfl, ?_⟩
                        refine h _ (fun a j z9 => by unfold FRt at z9; repeat (first | rw [up_n (by omega)] | rfl)) (by repeat (first | rw [up_i (by decide)] | rfl)) ?_ ?_
                        · repeat rw [up_i (by decide)]
                          rw [up_s]
                          rw [e0]
                          first
                          | (rw [e1]; first | (rw [if_pos (by unfold fTwo; omega)]; omega) | rw [if_neg (by unfold fTwo; omega)])
                          | rw [if_neg (by unfold fTwo; omega)]
                        · rw [e0]
                          try rw [e1]
                          simp (disch := omega) only [up_s, up_i]
                          first
                          | exact Or.inl ⟨by omega, by omega, by omega, by omega⟩
                          | exact Or.inr (Or.inl ⟨by omega, by omega, by omega, by omega⟩)
                          | exact Or.inr (Or.inr (Or.inl ⟨by omega, by omega, by omega, by omega, by omega⟩))
                          | exact Or.inr (Or.inr (Or.inr (Or.inl ⟨by omega, by omega, by omega⟩)))
                          | exact Or.inr (Or.inr (Or.inr (Or.inr (Or.inl ⟨by omega, by omega, by omega, by omega⟩))))
                          | exact Or.inr (Or.inr (Or.inr (Or.inr (Or.inr (Or.inl ⟨by omega, by omega, by omega, by omega⟩)))))
                          | exact Or.inr (Or.inr (Or.inr (Or.inr (Or.inr (Or.inr (Or.inl ⟨by omega, by omega, by omega⟩))))))
                          | exact Or.inr (Or.inr (Or.inr (Or.inr (Or.inr (Or.inr (Or.inr ⟨fun z => by rcases z with z | z | z | z | z | z | z | z | z | z | z <;> omega, by omega⟩))))))
                      · exact absurd g (by simp [sx_cc])
                    · simp only [sx_cc, Classical.not_not] at g
                      conv => whnf
                      refine ⟨fun g => ?_, fun g => ?_⟩
                      · skip
                        conv => whnf
                        refine ⟨fun g => ?_, fun g => ?_⟩
                        · skip
                          conv => whnf
                          refine ⟨(by first | assumption | rfl), ?_⟩
                          try simp (disch := omega) only [Int.cast_ofNat_Int, up_s, up_a, up_i, mp_a, mp_ge]
                          try simp only [x0]
                          try simp only [x1]
                          try simp only [en]
                          try simp only [t0]
                          try simp only [lk_125]
                          conv => whnf
                          refine ⟨rfl, ?_⟩
                          refine h _ (fun a j z9 => by unfold FRt at z9; repeat (first | rw [up_n (by omega)] | rfl)) (by repeat (first | rw [up_i (by decide)] | rfl)) ?_ ?_
                          · repeat rw [up_i (by decide)]
                            rw [up_s]
                            rw [e0]
                            first
                            | (rw [e1]; first | (rw [if_pos (by unfold fTwo; omega)]; omega) | rw [if_neg (by unfold fTwo; omega)])
                            | rw [if_neg (by unfold fTwo; omega)]
                          · rw [e0]
                            try rw [e1]
                            simp (disch := omega) only [up_s, up_i]
                            first
                            | exact Or.inl ⟨by omega, by omega, by omega, by omega⟩
                            | exact Or.inr (Or.inl ⟨by omega, by omega, by omega, by omega⟩)
                            | exact Or.inr (Or.inr (Or.inl ⟨by omega, by omega, by omega, by omega, by omega⟩))
                            | exact Or.inr (Or.inr (Or.inr (Or.inl ⟨by omega, by omega, by omega⟩)))
                            | exact Or.inr (Or.inr (Or.inr (Or.inr (Or.inl ⟨by omega, by omega, by omega, by omega⟩))))
                            | exact Or.inr (Or.inr (Or.inr (Or.inr (Or.inr (Or.inl ⟨by omega, by omega, by omega, by omega⟩)))))
                            | exact Or.inr (Or.inr (Or.inr (Or.inr (Or.inr (Or.inr (Or.inl ⟨by omega, by omega, by omega⟩))))))
                            | exact Or.inr (Or.inr (Or.inr (Or.inr (Or.inr (Or.inr (Or.inr ⟨fun z => by rcases z with z | z | z | z | z | z | z | z | z | z | z <;> omega, by omega⟩))))))
                        · exact absurd g (by simp [sx_cc])
                      · exact absurd g (by simp [sx_cc])
                  · simp only [sx_cc, Classical.not_not] at g
                    conv => whnf
                    refine ⟨(by first | assumption | rfl), ?_⟩
                    try simp (disch := omega) only [Int.cast_ofNat_Int, up_s, up_a, up_i, mp_a, mp_ge]
                    try simp only [x0]
                    try simp only [x1]
                    try simp only [en]
                    try simp only [t0]
                    try simp only [lk_125]
                    conv => whnf
                    refine ⟨rfl, ?_⟩
                    refine h _ (fun a j z9 => by unfold FRt at z9; repeat (first | rw [up_n (by omega)] | rfl)) (by repeat (first | rw [up_i (by decide)] | rfl)) ?_ ?_
                    · repeat rw [up_i (by decide)]
                      rw [up_s]
                      rw [e0]
                      first
                      | (rw [e1]; first | (rw [if_pos (by unfold fTwo; omega)]; omega) | rw [if_neg (by unfold fTwo; omega)])
                      | rw [if_neg (by unfold fTwo; omega)]
                    · rw [e0]
                      try rw [e1]
                      simp (disch := omega) only [up_s, up_i]
                      first
                      | exact Or.inl ⟨by omega, by omega, by omega, by omega⟩
                      | exact Or.inr (Or.inl ⟨by omega, by omega, by omega, by omega⟩)
                      | exact Or.inr (Or.inr (Or.inl ⟨by omega, by omega, by omega, by omega, by omega⟩))
                      | exact Or.inr (Or.inr (Or.inr (Or.inl ⟨by omega, by omega, by omega⟩)))
                      | exact Or.inr (Or.inr (Or.inr (Or.inr (Or.inl ⟨by omega, by omega, by omega, by omega⟩))))
                      | exact Or.inr (Or.inr (Or.inr (Or.inr (Or.inr (Or.inl ⟨by omega, by omega, by omega, by omega⟩)))))
                      | exact Or.inr (Or.inr (Or.inr (Or.inr (Or.inr (Or.inr (Or.inl ⟨by omega, by omega, by omega⟩))))))
                      | exact Or.inr (Or.inr (Or.inr (Or.inr (Or.inr (Or.inr (Or.inr ⟨fun z => by rcases z with z | z | z | z | z | z | z | z | z | z | z <;> omega, by omega⟩))))))
                · exact absurd g (by simp [sx_cc])
            · exact absurd g (by simp [sx_cc])
        · simp only [sx_cc, Classical.not_not] at g
          conv => whnf
          refine ⟨fun g => ?_, fun g => ?_⟩
          · skip
            conv => whnf
            refine ⟨(by first | assumption | rfl), ?_⟩
            try simp (disch := omega) only [Int.cast_ofNat_Int, up_s, up_a, up_i, mp_a, mp_ge]
            try simp only [x0]
            try simp only [x1]
            try simp only [en]
            try simp only [t0]
            try simp only [lk_125]
            conv => whnf
            refine ⟨fun g => ?_, fun g => ?_⟩
            · simp only [sx_cc, Classical.not_not] at g
              conv => whnf
              refine ⟨fun g => ?_, fun g => ?_⟩
              · exact absurd g (by simp [sx_cc])
              · skip
                conv => whnf
                refine ⟨fun g => ?_, fun g => ?_⟩
                · skip
                  conv => whnf
                  refine ⟨(by first | assumption | rfl), ?_⟩
                  try simp (disch := omega) only [Int.cast_ofNat_Int, up_s, up_a, up_i, mp_a, mp_ge]
                  try simp only [x0]
                  try simp only [x1]
                  try simp only [en]
                  try simp only [t0]
                  try simp only [lk_125]
                  conv => whnf
                  refine ⟨(by first | assumption | rfl), ?_⟩
                  try simp (disch := omega) only [Int.cast_ofNat_Int, up_s, up_a, up_i, mp_a, mp_ge]
                  try simp only [x0]
                  try simp only [x1]
                  try simp only [en]
                  try simp only [t0]
                  try simp only [lk_125]
                  conv => whnf
                  refine ⟨fun g => ?_, fun g => ?_⟩
                  · simp only [sx_cc, Classical.not_not] at g
                    conv => whnf
                    refine ⟨(by first | assumption | rfl), ?_⟩
                    try simp (disch := omega) only [Int.cast_ofNat_Int, up_s, up_a, up_i, mp_a, mp_ge]
                    try simp only [x0]
                    try simp only [x1]
                    try simp only [en]
                    try simp only [t0]
                    try simp only [lk_125]
                    conv => whnf
                    refine ⟨fun g => ?_, fun g => ?_⟩
                    · simp only [sx_cc, Classical.not_not] at g
                      conv => whnf
                      refine ⟨fun g => ?_, fun g => ?_⟩
                      · skip
                        conv => whnf
                        refine ⟨(by first | assumption | rfl), ?_⟩
                        try simp (disch := omega) only [Int.cast_ofNat_Int, up_s, up_a, up_i, mp_a, mp_ge]
                        try simp only [x0]
                        try simp only [x1]
                        try simp only [en]
                        try simp only [t0]
                        try simp only [lk_125]
                        conv => whnf
                        refine ⟨rfl, ?_⟩
                        refine h _ (fun a j z9 => by unfold FRt at z9; repeat (first | rw [up_n (by omega)] | rfl)) (by repeat (first | rw [up_i (by decide)] | rfl)) ?_ ?_
                        · repeat rw [up_i (by decide)]
                          rw [up_s]
                          rw [e0]
                          first
                          | (rw [e1]; first | (rw [if_pos (by unfold fTwo; omega)]; omega) | rw [if_neg (by unfold fTwo; omega)])
                          | rw [if_neg (by unfold fTwo; omega)]
                        · rw [e0]
                          try rw [e1]
                          simp (disch := omega) only [up_s, up_i]
                          first
                          | exact Or.inl ⟨by omega, by omega, by omega, by omega⟩
                          | exact Or.inr (Or.inl ⟨by omega, by omega, by omega, by omega⟩)
                          | exact Or.inr (Or.inr (Or.inl ⟨by omega, by omega, by omega, by omega, by omega⟩))
                          | exact Or.inr (Or.inr (Or.inr (Or.inl ⟨by omega, by omega, by omega⟩)))
                          | exact Or.inr (Or.inr (Or.inr (Or.inr (Or.inl ⟨by omega, by omega, by omega, by omega⟩))))
                          | exact Or.inr (Or.inr (Or.inr (Or.inr (Or.inr (Or.inl ⟨by omega, by omega, by omega, by omega⟩)))))
                          | exact Or.inr (Or.inr (Or.inr (Or.inr (Or.inr (Or.inr (Or.inl ⟨by omega, by omega, by omega⟩))))))
                          | exact Or.inr (Or.inr (Or.inr (Or.inr (Or.inr (Or.inr (Or.inr ⟨fun z => by rcases z with z | z | z | z | z | z | z | z | z | z | z <;> omega, by omega⟩))))))
                      · exact absurd g (by simp [sx_cc])
                    · simp only [sx_cc, Classical.not_not] at g
                      conv => whnf
                      refine ⟨fun g => ?_, fun g => ?_⟩
                      · skip
                        conv => whnf
                        refine ⟨fun g => ?_, fun g => ?_⟩
                        · skip
                          conv => whnf
                          refine ⟨(by first | assumption | rfl), ?_⟩
                          try simp (disch := omega) only [Int.cast_ofNat_Int, up_s, up_a, up_i, mp_a, mp_ge]
                          try simp only [x0]
                          try simp only [x1]
                          try simp only [en]
                          try simp only [t0]
                          try simp only [lk_125]
                          conv => whnf
                          refine ⟨rfl, ?_⟩
                          refine h _ (fun a j z9 => by unfold FRt at z9; repeat (first | rw [up_n (by omega)] | rfl)) (by repeat (first | rw [up_i (by decide)] | rfl)) ?_ ?_
                          · repeat rw [up_i (by decide)]
                            rw [up_s]
                            rw [e0]
                            first
                            | (rw [e1]; first | (rw [if_pos (by unfold fTwo; omega)]; omega) | rw [if_neg (by unfold fTwo; omega)])
                            | rw [if_neg (by unfold fTwo; omega)]
                          · rw [e0]
                            try rw [e1]
                            simp (disch := omega) only [up_s, up_i]
                            first
                            | exact Or.inl ⟨by omega, by omega, by omega, by omega⟩
                            | exact Or.inr (Or.inl ⟨by omega, by omega, by omega, by omega⟩)
                            | exact Or.inr (Or.inr (Or.inl ⟨by omega, by omega, by omega, by omega, by omega⟩))
                            | exact Or.inr (Or.inr (Or.inr (Or.inl ⟨by omega, by omega, by omega⟩)))
                            | exact Or.inr (Or.inr (Or.inr (Or.inr (Or.inl ⟨by omega, by omega, by omega, by omega⟩))))
                            | exact Or.inr (Or.inr (Or.inr (Or.inr (Or.inr (Or.inl ⟨by omega, by omega, by omega, by omega⟩)))))
                            | exact Or.inr (Or.inr (Or.inr (Or.inr (Or.inr (Or.inr (Or.inl ⟨by omega, by omega, by omega⟩))))))
                            | exact Or.inr (Or.inr (Or.inr (Or.inr (Or.inr (Or.inr (Or.inr ⟨fun z => by rcases z with z | z | z | z | z | z | z | z | z | z | z <;> omega, by omega⟩))))))
                        · exact absurd g (by simp [sx_cc])
                      · exact absurd g (by simp [sx_cc])
                  · simp only [sx_cc, Classical.not_not] at g
                    conv => whnf
                    refine ⟨(by first | assumption | rfl), ?_⟩
                    try simp (disch := omega) only [Int.cast_ofNat_Int, up_s, up_a, up_i, mp_a, mp_ge]
                    try simp only [x0]
                    try simp only [x1]
                    try simp only [en]
                    try simp only [t0]
                    try simp only [lk_125]
                    conv => whnf
                    refine ⟨rfl, ?_⟩
                    refine h _ (fun a j z9 => by unfold FRt at z9; repeat (first | rw [up_n (by omega)] | rfl)) (by repeat (first | rw [up_i (by decide)] | rfl)) ?_ ?_
                    · repeat rw [up_i (by decide)]
                      rw [up_s]
                      rw [e0]
                      first
                      | (rw [e1]; first | (rw [if_pos (by unfold fTwo; omega)]; omega) | rw [if_neg (by unfold fTwo; omega)])
                      | rw [if_neg (by unfold fTwo; omega)]
                    · rw [e0]
                      try rw [e1]
                      simp (disch := omega) only [up_s, up_i]
                      first
                      | exact Or.inl ⟨by omega, by omega, by omega, by omega⟩
                      | exact Or.inr (Or.inl ⟨by omega, by omega, by omega, by omega⟩)
                      | exact Or.inr (Or.inr (Or.inl ⟨by omega, by omega, by omega, by omega, by omega⟩))
                      | exact Or.inr (Or.inr (Or.inr (Or.inl ⟨by omega, by omega, by omega⟩)))
                      | exact Or.inr (Or.inr (Or.inr (Or.inr (Or.inl ⟨by omega, by omega, by omega, by omega⟩))))
                      | exact Or.inr (Or.inr (Or.inr (Or.inr (Or.inr (Or.inl ⟨by omega, by omega, by omega, by omega⟩)))))
                      | exact Or.inr (Or.inr (Or.inr (Or.inr (Or.inr (Or.inr (Or.inl ⟨by omega, by omega, by omega⟩))))))
                      | exact Or.inr (Or.inr (Or.inr (Or.inr (Or.inr (Or.inr (Or.inr ⟨fun z => by rcases z with z | z | z | z | z | z | z | z | z | z | z <;> omega, by omega⟩))))))
                · exact absurd g (by simp [sx_cc])
            · simp only [sx_cc, Classical.not_not] at g
              conv => whnf
              refine ⟨fun g => ?_, fun g => ?_⟩
              · skip
                conv => whnf
                refine ⟨fun g => ?_, fun g => ?_⟩
                · exact absurd g (by simp [sx_cc])
                · skip
                  conv => whnf
                  refine ⟨fun g => ?_, fun g => ?_⟩
                  · skip
                    conv => whnf
                    refine ⟨(by first | assumption | rfl), ?_⟩
                    try simp (disch := omega) only [Int.cast_ofNat_Int, up_s, up_a, up_i, mp_a, mp_ge]
                    try simp only [x0]
                    try simp only [x1]
                    try simp only [en]
                    try simp only [t0]
                    try simp only [lk_125]
                    conv => whnf
                    refine ⟨(by first | assumption | rfl), ?_⟩
                    try simp (disch := omega) only [Int.cast_ofNat_Int, up_s, up_a, up_i, mp_a, mp_ge]
                    try simp only [x0]
                    try simp only [x1]
                    try simp only [en]
                    try simp only [t0]
                    try simp only [lk_125]
                    conv => whnf
                    refine ⟨fun g => ?_, fun g => ?_⟩
                    · simp only [sx_cc, Classical.not_not] at g
                      conv => whnf
                      refine ⟨(by first | assumption | rfl), ?_⟩
                      try simp (disch := omega) only [Int.cast_ofNat_Int, up_s, up_a, up_i, mp_a, mp_ge]
                      try simp only [x0]
                      try simp only [x1]
                      try simp only [en]
                      try simp only [t0]
                      try simp only [lk_125]
                      conv => whnf
                      refine ⟨fun g => ?_, fun g => ?_⟩
                      · simp only [sx_cc, Classical.not_not] at g
                        conv => whnf
                        refine ⟨fun g => ?_, fun g => ?_⟩
                        · skip
                          conv => whnf
                          refine ⟨(by first | assumption | rfl), ?_⟩
                          try simp (disch := omega) only [Int.cast_ofNat_Int, up_s, up_a, up_i, mp_a, mp_ge]
                          try simp only [x0]
                          try simp only [x1]
                          try simp only [en]
                          try simp only [t0]
                          try simp only [lk_125]
                          conv => whnf
                          refine ⟨rfl, ?_⟩
                          refine h _ (fun a j z9 => by unfold FRt at z9; repeat (first | rw [up_n (by omega)] | rfl)) (by repeat (first | rw [up_i (by decide)] | rfl)) ?_ ?_
                          · repeat rw [up_i (by decide)]
                            rw [up_s]
                            rw [e0]
                            first
                            | (rw [e1]; first | (rw [if_pos (by unfold fTwo; omega)]; omega) | rw [if_neg (by unfold fTwo; omega)])
                            | rw [if_neg (by unfold fTwo; omega)]
                          · rw [e0]
                            try rw [e1]
                            simp (disch := omega) only [up_s, up_i]
                            first
                            | exact Or.inl ⟨by omega, by omega, by omega, by omega⟩
                            | exact Or.inr (Or.inl ⟨by omega, by omega, by omega, by omega⟩)
                            | exact Or.inr (Or.inr (Or.inl ⟨by omega, by omega, by omega, by omega, by omega⟩))
                            | exact Or.inr (Or.inr (Or.inr (Or.inl ⟨by omega, by omega, by omega⟩)))
                            | exact Or.inr (Or.inr (Or.inr (Or.inr (Or.inl ⟨by omega, by omega, by omega, by omega⟩))))
                            | exact Or.inr (Or.inr (Or.inr (Or.inr (Or.inr (Or.inl ⟨by omega, by omega, by omega, by omega⟩)))))
                            | exact Or.inr (Or.inr (Or.inr (Or.inr (Or.inr (Or.inr (Or.inl ⟨by omega, by omega, by omega⟩))))))
                            | exact Or.inr (Or.inr (Or.inr (Or.inr (Or.inr (Or.inr (Or.inr ⟨fun z => by rcases z with z | z | z | z | z | z | z | z | z | z | z <;> omega, by omega⟩))))))
                        · exact absurd g (by simp [sx_cc])
                      · simp only [sx_cc, Classical.not_not] at g
                        conv => whnf
                        refine ⟨fun g => ?_, fun g => ?_⟩
                        · skip
                          conv => whnf
                          refine ⟨fun g => ?_, fun g => ?_⟩
                          · skip
                            conv => whnf
                            refine ⟨(by first | assumption | rfl), ?_⟩
                            try simp (disch := omega) only [Int.cast_ofNat_Int, up_s, up_a, up_i, mp_a, mp_ge]
                            try simp only [x0]
                            try simp only [x1]
                            try simp only [en]
                            try simp only [t0]
                            try simp only [lk_125]
                            conv => whnf
                            refine ⟨rfl, ?_⟩
                            refine h _ (fun a j z9 => by unfold FRt at z9; repeat (first | rw [up_n (by omega)] | rfl)) (by repeat (first | rw [up_i (by decide)] | rfl)) ?_ ?_
                            · repeat rw [up_i (by decide)]
                              rw [up_s]
                              rw [e0]
                              first
                              | (rw [e1]; first | (rw [if_pos (by unfold fTwo; omega)]; omega) | rw [if_neg (by unfold fTwo; omega)])
                              | rw [if_neg (by unfold fTwo; omega)]
                            · rw [e0]
                              try rw [e1]
                              simp (disch := omega) only [up_s, up_i]
                              first
                              | exact Or.inl ⟨by omega, by omega, by omega, by omega⟩
                              | exact Or.inr (Or.inl ⟨by omega, by omega, by omega, by omega⟩)
                              | exact Or.inr (Or.inr (Or.inl ⟨by omega, by omega, by omega, by omega, by omega⟩))
                              | exact Or.inr (Or.inr (Or.inr (Or.inl ⟨by omega, by omega, by omega⟩)))
                              | exact Or.inr (Or.inr (Or.inr (Or.inr (Or.inl ⟨by omega, by omega, by omega, by omega⟩))))
                              | exact Or.inr (Or.inr (Or.inr (Or.inr (Or.inr (Or.inl ⟨by omega, by omega, by omega, by omega⟩)))))
                              | exact Or.inr (Or.inr (Or.inr (Or.inr (Or.inr (Or.inr (Or.inl ⟨by omega, by omega, by omega⟩))))))
                              | exact Or.inr (Or.inr (Or.inr (Or.inr (Or.inr (Or.inr (Or.inr ⟨fun z => by rcases z with z | z | z | z | z | z | z | z | z | z | z <;> omega, by omega⟩))))))
                          · exact absurd g (by simp [sx_cc])
                        · exact absurd g (by simp [sx_cc])
                    · simp only [sx_cc, Classical.not_not] at g
                      conv => whnf
                      refine ⟨(by first | assumption | rfl), ?_⟩
                      try simp (disch := omega) only [Int.cast_ofNat_Int, up_s, up_a, up_i, mp_a, mp_ge]
                      try simp only [x0]
                      try simp only [x1]
                      try simp only [en]
                      try simp only [t0]
                      try simp only [lk_125]
                      conv => whnf
                      refine ⟨rfl, ?_⟩
                      refine h _ (fun a j z9 => by unfold FRt at z9; repeat (first | rw [up_n (by omega)] | rfl)) (by repeat (first | rw [up_i (by decide)] | rfl)) ?_ ?_
                      · repeat rw [up_i (by decide)]
                        rw [up_s]
                        rw [e0]
                        first
                        | (rw [e1]; first | (rw [if_pos (by unfold fTwo; omega)]; omega) | rw [if_neg (by unfold fTwo; omega)])
                        | rw [if_neg (by unfold fTwo; omega)]
                      · rw [e0]
                        try rw [e1]
                        simp (disch := omega) only [up_s, up_i]
                        first
                        | exact Or.inl ⟨by omega, by omega, by omega, by omega⟩
                        | exact Or.inr (Or.inl ⟨by omega, by omega, by omega, by omega⟩)
                        | exact Or.inr (Or.inr (Or.inl ⟨by omega, by omega, by omega, by omega, by omega⟩))
                        | exact Or.inr (Or.inr (Or.inr (Or.inl ⟨by omega, by omega, by omega⟩)))
                        | exact Or.inr (Or.inr (Or.inr (Or.inr (Or.inl ⟨by omega, by omega, by omega, by omega⟩))))
                        | exact Or.inr (Or.inr (Or.inr (Or.inr (Or.inr (Or.inl ⟨by omega, by omega, by omega, by omega⟩)))))
                        | exact Or.inr (Or.inr (Or.inr (Or.inr (Or.inr (Or.inr (Or.inl ⟨by omega, by omega, by omega⟩))))))
                        | exact Or.inr (Or.inr (Or.inr (Or.inr (Or.inr (Or.inr (Or.inr ⟨fun z => by rcases z with z | z | z | z | z | z | z | z | z | z | z <;> omega, by omega⟩))))))
                  · exact absurd g (by simp [sx_cc])
              · exact absurd g (by simp [sx_cc])
          · exact absurd g (by simp [sx_cc])
      · simp only [sx_cc, Classical.not_not] at g
        have e1 : fTx tx n9 (y + 1) = tx (y + 1) := fTx_p (by omega)
        have t1 := x3 (y + 1) (by omega) (by omega)
        conv => whnf
        refine ⟨(by first | assumption | rfl), ?_⟩
        try simp (disch := omega) only [Int.cast_ofNat_Int, up_s, up_a, up_i, mp_a, mp_ge]
        try simp only [x0]
        try simp only [x1]
        try simp only [en]
        try simp only [t0]
        try simp only [lk_125]
        conv => whnf
        refine ⟨(by first | assumption | rfl), ?_⟩
        try simp (disch := omega) only [Int.cast_ofNat_Int, up_s, up_a, up_i, mp_a, mp_ge]
        try simp only [x0]
        try simp only [x1]
        try simp only [en]
        try simp only [t0]
        try simp only [lk_125]
        conv => whnf
        refine ⟨sx_ixI (by first | assumption | rfl) (by omega) (by omega), ?_⟩
        try simp (disch := omega) only [Int.cast_ofNat_Int, up_s, up_a, up_i, mp_a, mp_ge]
        try simp only [x0]
        try simp only [x1]
        try simp only [en]
        try simp only [t0]
        try simp only [lk_125]
        conv => whnf
        refine ⟨(by first | assumption | rfl), ?_⟩
        try simp (disch := omega) only [Int.cast_ofNat_Int, up_s, up_a, up_i, mp_a, mp_ge]
        try simp only [x0]
        try simp only [x1]
        try simp only [en]
        try simp only [t0]
        try simp only [lk_125]
        conv => whnf
        refine ⟨fun g => ?_, fun g => ?_⟩
        · simp only [sx_cc, Classical.not_not] at g
          conv => whnf
          refine ⟨(by first | assumption | rfl), ?_⟩
          try simp (disch := omega) only [Int.cast_ofNat_Int, up_s, up_a, up_i, mp_a, mp_ge]
          try simp only [x0]
          try simp only [x1]
          try simp only [en]
          try simp only [t0]
          try simp only [lk_125]
          conv => whnf
          refine ⟨fun g => ?_, fun g => ?_⟩
          · simp only [sx_cc, Classical.not_not] at g
            conv => whnf
            refine ⟨fun g => ?_, fun g => ?_⟩
            · exact absurd g (by simp [sx_cc])
            · skip
              conv => whnf
              refine ⟨fun g => ?_, fun g => ?_⟩
              · skip
                conv => whnf
                refine ⟨(by first | assumption | rfl), ?_⟩
                try simp (disch := omega) only [Int.cast_ofNat_Int, up_s, up_a, up_i, mp_a, mp_ge]
                try simp only [x0]
                try simp only [x1]
                try simp only [en]
                try simp only [t0]
                try simp only [lk_125]
                conv => whnf
                refine ⟨(by first | assumption | rfl), ?_⟩
                try simp (disch := omega) only [Int.cast_ofNat_Int, up_s, up_a, up_i, mp_a, mp_ge]
                try simp only [x0]
                try simp only [x1]
                try simp only [en]
                try simp only [t0]
                try simp only [lk_125]
                conv => whnf
                refine ⟨fun g => ?_, fun g => ?_⟩
                · simp only [sx_cc, Classical.not_not] at g
                  conv => whnf
                  refine ⟨(by first | assumption | rfl), ?_⟩
                  try simp (disch := omega) only [Int.cast_ofNat_Int, up_s, up_a, up_i, mp_a, mp_ge]
                  try simp only [x0]
                  try simp only [x1]
                  try simp only [en]
                  try simp only [t0]
                  try simp only [lk_125]
                  conv => whnf
                  refine ⟨fun g => ?_, fun g => ?_⟩
                  · simp only [sx_cc, Classical.not_not] at g
                    conv => whnf
                    refine ⟨fun g => ?_, fun g => ?_⟩
                    · skip
                      conv => whnf
                      refine ⟨(by first | assumption | rfl), ?_⟩
                      try simp (disch := omega) only [Int.cast_ofNat_Int, up_s, up_a, up_i, mp_a, mp_ge]
                      try simp only [x0]
                      try simp only [x1]
                      try simp only [en]
                      try simp only [t0]
                      try simp only [lk_125]
                      conv => whnf
                      refine ⟨rfl, ?_⟩
                      refine h _ (fun a j z9 => by unfold FRt at z9; repeat (first | rw [up_n (by omega)] | rfl)) (by repeat (first | rw [up_i (by decide)] | rfl)) ?_ ?_
                      · repeat rw [up_i (by decide)]
                        rw [up_s]
                        rw [e0]
                        first
                        | (rw [e1]; first | (rw [if_pos (by unfold fTwo; omega)]; omega) | rw [if_neg (by unfold fTwo; omega)])
                        | rw [if_neg (by unfold fTwo; omega)]
                      · rw [e0]
                        try rw [e1]
                        simp (disch := omega) only [up_s, up_i]
                        first
                        | exact Or.inl ⟨by omega, by omega, by omega, by omega⟩
                        | exact Or.inr (Or.inl ⟨by omega, by omega, by omega, by omega⟩)
                        | exact Or.inr (Or.inr (Or.inl ⟨by omega, by omega, by omega, by omega, by omega⟩))
                        | exact Or.inr (Or.inr (Or.inr (Or.inl ⟨by omega, by omega, by omega⟩)))
                        | exact Or.inr (Or.inr (Or.inr (Or.inr (Or.inl ⟨by omega, by omega, by omega, by omega⟩))))
                        | exact Or.inr (Or.inr (Or.inr (Or.inr (Or.inr (Or.inl ⟨by omega, by omega, by omega, by omega⟩)))))
                        | exact Or.inr (Or.inr (Or.inr (Or.inr (Or.inr (Or.inr (Or.inl ⟨by omega, by omega, by omega⟩))))))
                        | exact Or.inr (Or.inr (Or.inr (Or.inr (Or.inr (Or.inr (Or.inr ⟨fun z => by rcases z with z | z | z | z | z | z | z | z | z | z | z <;> omega, by omega⟩))))))
                    · exact absurd g (by simp [sx_cc])
                  · simp only [sx_cc, Classical.not_not] at g
                    conv => whnf
                    refine ⟨fun g => ?_, fun g => ?_⟩
                    · skip
                      conv => whnf
                      refine ⟨fun g => ?_, fun g => ?_⟩
                      · skip
                        conv => whnf
                        refine ⟨(by first | assumption | rfl), ?_⟩
                        try simp (disch := omega) only [Int.cast_ofNat_Int, up_s, up_a, up_i, mp_a, mp_ge]
                        try simp only [x0]
                        try simp only [x1]
                        try simp only [en]
                        try simp only [t0]
                        try simp only [lk_125]
                        conv => whnf
                        refine ⟨rfl, ?_⟩
                        refine h _ (fun a j z9 => by unfold FRt at z9; repeat (first | rw [up_n (by omega)] | rfl)) (by repeat (first | rw [up_i (by decide)] | rfl)) ?_ ?_
                        · repeat rw [up_i (by decide)]
                          rw [up_s]
                          rw [e0]
                          first
                          | (rw [e1]; first | (rw [if_pos (by unfold fTwo; omega)]; omega) | rw [if_neg (by unfold fTwo; omega)])
                          | rw [if_neg (by unfold fTwo; omega)]
                        · rw [e0]
                          try rw [e1]
                          simp (disch := omega) only [up_s, up_i]
                          first
                          | exact Or.inl ⟨by omega, by omega, by omega, by omega⟩
                          | exact Or.inr (Or.inl ⟨by omega, by omega, by omega, by omega⟩)
                          | exact Or.inr (Or.inr (Or.inl ⟨by omega, by omega, by omega, by omega, by omega⟩))
                          | exact Or.inr (Or.inr (Or.inr (Or.inl ⟨by omega, by omega, by omega⟩)))
                          | exact Or.inr (Or.inr (Or.inr (Or.inr (Or.inl ⟨by omega, by omega, by omega, by omega⟩))))
                          | exact Or.inr (Or.inr (Or.inr (Or.inr (Or.inr (Or.inl ⟨by omega, by omega, by omega, by omega⟩)))))
                          | exact Or.inr (Or.inr (Or.inr (Or.inr (Or.inr (Or.inr (Or.inl ⟨by omega, by omega, by omega⟩))))))
                          | exact Or.inr (Or.inr (Or.inr (Or.inr (Or.inr (Or.inr (Or.inr ⟨fun z => by rcases z with z | z | z | z | z | z | z | z | z | z | z <;> omega, by omega⟩))))))
                      · exact absurd g (by simp [sx_cc])
                    · exact absurd g (by simp [sx_cc])
                · simp only [sx_cc, Classical.not_not] at g
                  conv => whnf
                  refine ⟨(by first | assumption | rfl), ?_⟩
                  try simp (disch := omega) only [Int.cast_ofNat_Int, up_s, up_a, up_i, mp_a, mp_ge]
                  try simp only [x0]
                  try simp only [x1]
                  try simp only [en]
                  try simp only [t0]
                  try simp only [lk_125]
                  conv => whnf
                  refine ⟨rfl, ?_⟩
                  refine h _ (fun a j z9 => by unfold FRt at z9; repeat (first | rw [up_n (by omega)] | rfl)) (by repeat (first | rw [up_i (by decide)] | rfl)) ?_ ?_
                  · repeat rw [up_i (by decide)]
                    rw [up_s]
                    rw [e0]
                    first
                    | (rw [e1]; first | (rw [if_pos (by unfold fTwo; omega)]; omega) | rw [if_neg (by unfold fTwo; omega)])
                    | rw [if_neg (by unfold fTwo; omega)]
                  · rw [e0]
                    try rw [e1]
                    simp (disch := omega) only [up_s, up_i]
                    first
                    | exact Or.inl ⟨by omega, by omega, by omega, by omega⟩
                    | exact Or.inr (Or.inl ⟨by omega, by omega, by omega, by omega⟩)
                    | exact Or.inr (Or.inr (Or.inl ⟨by omega, by omega, by omega, by omega, by omega⟩))
                    | exact Or.inr (Or.inr (Or.inr (Or.inl ⟨by omega, by omega, by omega⟩)))
                    | exact Or.inr (Or.inr (Or.inr (Or.inr (Or.inl ⟨by omega, by omega, by omega, by omega⟩))))
                    | exact Or.inr (Or.inr (Or.inr (Or.inr (Or.inr (Or.inl ⟨by omega, by omega, by omega, by omega⟩)))))
                    | exact Or.inr (Or.inr (Or.inr (Or.inr (Or.inr (Or.inr (Or.inl ⟨by omega, by omega, by omega⟩))))))
                    | exact Or.inr (Or.inr (Or.inr (Or.inr (Or.inr (Or.inr (Or.inr ⟨fun z => by rcases z with z | z | z | z | z | z | z | z | z | z | z <;> omega, by omega⟩))))))
              · exact absurd g (by simp [sx_cc])
          · simp only [sx_cc, Classical.not_not] at g
            conv => whnf
            refine ⟨fun g => ?_, fun g => ?_⟩
            · simp only [sx_cc, Classical.not_not] at g
              conv => whnf
              refine ⟨fun g => ?_, fun g => ?_⟩
              · exact absurd g (by simp [sx_cc])
              · skip
                conv => whnf
                refine ⟨fun g => ?_, fun g => ?_⟩
                · skip
                  conv => whnf
                  refine ⟨(by first | assumption | rfl), ?_⟩
                  try simp (disch := omega) only [Int.cast_ofNat_Int, up_s, up_a, up_i, mp_a, mp_ge]
                  try simp only [x0]
                  try simp only [x1]
                  try simp only [en]
                  try simp only [t0]
                  try simp only [lk_125]
                  conv => whnf
                  refine ⟨(by first | assumption | rfl), ?_⟩
                  try simp (disch := omega) only [Int.cast_ofNat_Int, up_s, up_a, up_i, mp_a, mp_ge]
                  try simp only [x0]
                  try simp only [x1]
                  try simp only [en]
                  try simp only [t0]
                  try simp only [lk_125]
                  conv => whnf
                  refine ⟨fun g => ?_, fun g => ?_⟩
                  · simp only [sx_cc, Classical.not_not] at g
                    conv => whnf
                    refine ⟨(by first | assumption | rfl), ?_⟩
                    try simp (disch := omega) only [Int.cast_ofNat_Int, up_s, up_a, up_i, mp_a, mp_ge]
                    try simp only [x0]
                    try simp only [x1]
                    try simp only [en]
                    try simp only [t0]
                    try simp only [lk_125]
                    conv => whnf
                    refine ⟨fun g => ?_, fun g => ?_⟩
                    · simp only [sx_cc, Classical.not_not] at g
                      conv => whnf
                      refine ⟨fun g => ?_, fun g => ?_⟩
                      · skip
                        conv => whnf
                        refine ⟨(by first | assumption | rfl), ?_⟩
                        try simp (disch := omega) only [Int.cast_ofNat_Int, up_s, up_a, up_i, mp_a, mp_ge]
                        try simp only [x0]
                        try simp only [x1]
                        try simp only [en]
                        try simp only [t0]
                        try simp only [lk_125]
                        conv => whnf
                        refine ⟨rfl, ?_⟩
                        refine h _ (fun a j z9 => by unfold FRt at z9; repeat (first | rw [up_n (by omega)] | rfl)) (by repeat (first | rw [up_i (by decide)] | rfl)) ?_ ?_
                        · repeat rw [up_i (by decide)]
                          rw [up_s]
                          rw [e0]
                          first
                          | (rw [e1]; first | (rw [if_pos (by unfold fTwo; omega)]; omega) | rw [if_neg (by unfold fTwo; omega)])
                          | rw [if_neg (by unfold fTwo; omega)]
                        · rw [e0]
                          try rw [e1]
                          simp (disch := omega) only [up_s, up_i]
                          first
                          | exact Or.inl ⟨by omega, by omega, by omega, by omega⟩
                          | exact Or.inr (Or.inl ⟨by omega, by omega, by omega, by omega⟩)
                          | exact Or.inr (Or.inr (Or.inl ⟨by omega, by omega, by omega, by omega, by omega⟩))
                          | exact Or.inr (Or.inr (Or.inr (Or.inl ⟨by omega, by omega, by omega⟩)))
                          | exact Or.inr (Or.inr (Or.inr (Or.inr (Or.inl ⟨by omega, by omega, by omega, by omega⟩))))
                          | exact Or.inr (Or.inr (Or.inr (Or.inr (Or.inr (Or.inl ⟨by omega, by omega, by omega, by omega⟩)))))
                          | exact Or.inr (Or.inr (Or.inr (Or.inr (Or.inr (Or.inr (Or.inl ⟨by omega, by omega, by omega⟩))))))
                          | exact Or.inr (Or.inr (Or.inr (Or.inr (Or.inr (Or.inr (Or.inr ⟨fun z => by rcases z with z | z | z | z | z | z | z | z | z | z | z <;> omega, by omega⟩))))))
                      · exact absurd g (by simp [sx_cc])
                    · simp only [sx_cc, Classical.not_not] at g
                      conv => whnf
                      refine ⟨fun g => ?_, fun g => ?_⟩
                      · skip
                        conv => whnf
                        refine ⟨fun g => ?_, fun g => ?_⟩
                        · skip
                          conv => whnf
                          refine ⟨(by first | assumption | rfl), ?_⟩
                          try simp (disch := omega) only [Int.cast_ofNat_Int, up_s, up_a, up_i, mp_a, mp_ge]
                          try simp only [x0]
                          try simp only [x1]
                          try simp only [en]
                          try simp only [t0]
                          try simp only [lk_125]
                          conv => whnf
                          refine ⟨rfl, ?_⟩
                          refine h _ (fun a j z9 => by unfold FRt at z9; repeat (first | rw [up_n (by omega)] | rfl)) (by repeat (first | rw [up_i (by decide)] | rfl)) ?_ ?_
                          · repeat rw [up_i (by decide)]
                            rw [up_s]
                            rw [e0]
                            first
                            | (rw [e1]; first | (rw [if_pos (by unfold fTwo; omega)]; omega) | rw [if_neg (by unfold fTwo; omega)])
                            | rw [if_neg (by unfold fTwo; omega)]
                          · rw [e0]
                            try rw [e1]
                            simp (disch := omega) only [up_s, up_i]
                            first
                            | exact Or.inl ⟨by omega, by omega, by omega, by omega⟩
                            | exact Or.inr (Or.inl ⟨by omega, by omega, by omega, by omega⟩)
                            | exact Or.inr (Or.inr (Or.inl ⟨by omega, by omega, by omega, by omega, by omega⟩))
                            | exact Or.inr (Or.inr (Or.inr (Or.inl ⟨by omega, by omega, by omega⟩)))
                            | exact Or.inr (Or.inr (Or.inr (Or.inr (Or.inl ⟨by omega, by omega, by omega, by omega⟩))))
                            | exact Or.inr (Or.inr (Or.inr (Or.inr (Or.inr (Or.inl ⟨by omega, by omega, by omega, by omega⟩)))))
                            | exact Or.inr (Or.inr (Or.inr (Or.inr (Or.inr (Or.inr (Or.inl ⟨by omega, by omega, by omega⟩))))))
                            | exact Or.inr (Or.inr (Or.inr (Or.inr (Or.inr (Or.inr (Or.inr ⟨fun z => by rcases z with z | z | z | z | z | z | z | z | z | z | z <;> omega, by omega⟩))))))
                        · exact absurd g (by simp [sx_cc])
                      · exact absurd g (by simp [sx_cc])
                  · simp only [sx_cc, Classical.not_not] at g
                    conv => whnf
                    refine ⟨(by first | assumption | rfl), ?_⟩
                    try simp (disch := omega) only [Int.cast_ofNat_Int, up_s, up_a, up_i, mp_a, mp_ge]
                    try simp only [x0]
                    try simp only [x1]
                    try simp only [en]
                    try simp only [t0]
                    try simp only [lk_125]
                    conv => whnf
                    refine ⟨rfl, ?_⟩
                    refine h _ (fun a j z9 => by unfold FRt at z9; repeat (first | rw [up_n (by omega)] | rfl)) (by repeat (first | rw [up_i (by decide)] | rfl)) ?_ ?_
                    · repeat rw [up_i (by decide)]
                      rw [up_s]
                      rw [e0]
                      first
                      | (rw [e1]; first | (rw [if_pos (by unfold fTwo; omega)]; omega) | rw [if_neg (by unfold fTwo; omega)])
                      | rw [if_neg (by unfold fTwo; omega)]
                    · rw [e0]
                      try rw [e1]
                      simp (disch := omega) only [up_s, up_i]
                      first
                      | exact Or.inl ⟨by omega, by omega, by omega, by omega⟩
                      | exact Or.inr (Or.inl ⟨by omega, by omega, by omega, by omega⟩)
                      | exact Or.inr (Or.inr (Or.inl ⟨by omega, by omega, by omega, by omega, by omega⟩))
                      | exact Or.inr (Or.inr (Or.inr (Or.inl ⟨by omega, by omega, by omega⟩)))
                      | exact Or.inr (Or.inr (Or.inr (Or.inr (Or.inl ⟨by omega, by omega, by omega, by omega⟩))))
                      | exact Or.inr (Or.inr (Or.inr (Or.inr (Or.inr (Or.inl ⟨by omega, by omega, by omega, by omega⟩)))))
                      | exact Or.inr (Or.inr (Or.inr (Or.inr (Or.inr (Or.inr (Or.inl ⟨by omega, by omega, by omega⟩))))))
                      | exact Or.inr (Or.inr (Or.inr (Or.inr (Or.inr (Or.inr (Or.inr ⟨fun z => by rcases z with z | z | z | z | z | z | z | z | z | z | z <;> omega, by omega⟩))))))
                · exact absurd g (by simp [sx_cc])
            · simp only [sx_cc, Classical.not_not] at g
              conv => whnf
              refine ⟨fun g => ?_, fun g => ?_⟩
              · exact absurd g (by simp [sx_cc])
              · skip
                conv => whnf
                refine ⟨fun g => ?_, fun g => ?_⟩
                · exact absurd g (by simp [sx_cc])
                · skip
                  conv => whnf
                  refine ⟨(by first | assumption | rfl), ?_⟩
                  try simp (disch := omega) only [Int.cast_ofNat_Int, up_s, up_a, up_i, mp_a, mp_ge]
                  try simp only [x0]
                  try simp only [x1]
                  try simp only [en]
                  try simp only [t0]
                  try simp only [lk_125]
                  conv => whnf
                  refine ⟨⟨by omega, by omega⟩, ?_⟩
                  conv => whnf
                  refine ⟨(by first | assumption | rfl), ?_⟩
                  try simp (disch := omega) only [Int.cast_ofNat_Int, up_s, up_a, up_i, mp_a, mp_ge]
                  try simp only [x0]
                  try simp only [x1]
                  try simp only [en]
                  try simp only [t0]
                  try simp only [lk_125]
                  conv => whnf
                  refine ⟨(by first | assumption | rfl), ?_⟩
                  try simp (disch := omega) only [Int.cast_ofNat_Int, up_s, up_a, up_i, mp_a, mp_ge]
                  try simp only [x0]
                  try simp only [x1]
                  try simp only [en]
                  try simp only [t0]
                  try simp only [lk_125]
                  conv => whnf
                  refine ⟨(by first | assumption | rfl), ?_⟩
                  try simp (disch := omega) only [Int.cast_ofNat_Int, up_s, up_a, up_i, mp_a, mp_ge]
                  try simp only [x0]
                  try simp only [x1]
                  try simp only [en]
                  try simp only [t0]
                  try simp only [lk_125]
                  conv => whnf
                  refine ⟨fun g => ?_, fun g => ?_⟩
                  · simp only [sx_cc, Classical.not_not] at g
                    conv => whnf
                    refine ⟨(by first | assumption | rfl), ?_⟩
                    try simp (disch := omega) only [Int.cast_ofNat_Int, up_s, up_a, up_i, mp_a, mp_ge]
                    try simp only [x0]
                    try simp only [x1]
                    try simp only [en]
                    try simp only [t0]
                    try simp only [lk_125]
                    conv => whnf
                    refine ⟨fun g => ?_, fun g => ?_⟩
                    · simp only [sx_cc, Classical.not_not] at g
                      conv => whnf
                      refine ⟨fun g => ?_, fun g => ?_⟩
                      · skip
                        conv => whnf
                        refine ⟨(by first | assumption | rfl), ?_⟩
                        try simp (disch := omega) only [Int.cast_ofNat_Int, up_s, up_a, up_i, mp_a, mp_ge]
                        try simp only [x0]
                        try simp only [x1]
                        try simp only [en]
                        try simp only [t0]
                        try simp only [lk_125]
                        conv => whnf
                        refine ⟨rfl, ?_⟩
                        refine h _ (fun a j z9 => by unfold FRt at z9; repeat (first | rw [up_n (by omega)] | rfl)) (by repeat (first | rw [up_i (by decide)] | rfl)) ?_ ?_
                        · repeat rw [up_i (by decide)]
                          rw [up_s]
                          rw [e0]
                          first
                          | (rw [e1]; first | (rw [if_pos (by unfold fTwo; omega)]; omega) | rw [if_neg (by unfold fTwo; omega)])
                          | rw [if_neg (by unfold fTwo; omega)]
                        · rw [e0]
                          try rw [e1]
                          simp (disch := omega) only [up_s, up_i]
                          first
                          | exact Or.inl ⟨by omega, by omega, by omega, by omega⟩
                          | exact Or.inr (Or.inl ⟨by omega, by omega, by omega, by omega⟩)
                          | exact Or.inr (Or.inr (Or.inl ⟨by omega, by omega, by omega, by omega, by omega⟩))
                          | exact Or.inr (Or.inr (Or.inr (Or.inl ⟨by omega, by omega, by omega⟩)))
                          | exact Or.inr (Or.inr (Or.inr (Or.inr (Or.inl ⟨by omega, by omega, by omega, by omega⟩))))
                          | exact Or.inr (Or.inr (Or.inr (Or.inr (Or.inr (Or.inl ⟨by omega, by omega, by omega, by omega⟩)))))
                          | exact Or.inr (Or.inr (Or.inr (Or.inr (Or.inr (Or.inr (Or.inl ⟨by omega, by omega, by omega⟩))))))
                          | exact Or.inr (Or.inr (Or.inr (Or.inr (Or.inr (Or.inr (Or.inr ⟨fun z => by rcases z with z | z | z | z | z | z | z | z | z | z | z <;> omega, by omega⟩))))))
                      · exact absurd g (by simp [sx_cc])
                    · simp only [sx_cc, Classical.not_not] at g
                      conv => whnf
                      refine ⟨fun g => ?_, fun g => ?_⟩
                      · skip
                        conv => whnf
                        refine ⟨fun g => ?_, fun g => ?_⟩
                        · exact absurd g (by simp [sx_cc])
                        · skip
                          conv => whnf
                          refine ⟨(by first | assumption | rfl), ?_⟩
                          try simp (disch := omega) only [Int.cast_ofNat_Int, up_s, up_a, up_i, mp_a, mp_ge]
                          try simp only [x0]
                          try simp only [x1]
                          try simp only [en]
                          try simp only [t0]
                          try simp only [lk_125]
                          conv => whnf
                          refine ⟨rfl, ?_⟩
                          refine h _ (fun a j z9 => by unfold FRt at z9; repeat (first | rw [up_n (by omega)] | rfl)) (by repeat (first | rw [up_i (by decide)] | rfl)) ?_ ?_
                          · repeat rw [up_i (by decide)]
                            rw [up_s]
                            rw [e0]
                            first
                            | (rw [e1]; first | (rw [if_pos (by unfold fTwo; omega)]; omega) | rw [if_neg (by unfold fTwo; omega)])
                            | rw [if_neg (by unfold fTwo; omega)]
                          · rw [e0]
                            try rw [e1]
                            simp (disch := omega) only [up_s, up_i]
                            first
                            | exact Or.inl ⟨by omega, by omega, by omega, by omega⟩
                            | exact Or.inr (Or.inl ⟨by omega, by omega, by omega, by omega⟩)
                            | exact Or.inr (Or.inr (Or.inl ⟨by omega, by omega, by omega, by omega, by omega⟩))
                            | exact Or.inr (Or.inr (Or.inr (Or.inl ⟨by omega, by omega, by omega⟩)))
                            | exact Or.inr (Or.inr (Or.inr (Or.inr (Or.inl ⟨by omega, by omega, by omega, by omega⟩))))
                            | exact Or.inr (Or.inr (Or.inr (Or.inr (Or.inr (Or.inl ⟨by omega, by omega, by omega, by omega⟩)))))
                            | exact Or.inr (Or.inr (Or.inr (Or.inr (Or.inr (Or.inr (Or.inl ⟨by omega, by omega, by omega⟩))))))
                            | exact Or.inr (Or.inr (Or.inr (Or.inr (Or.inr (Or.inr (Or.inr ⟨fun z => by rcases z with z | z | z | z | z | z | z | z | z | z | z <;> omega, by omega⟩))))))
                      · exact absurd g (by simp [sx_cc])
                  · simp only [sx_cc, Classical.not_not] at g
                    conv => whnf
                    refine ⟨(by first | assumption | rfl), ?_⟩
                    try simp (disch := omega) only [Int.cast_ofNat_Int, up_s, up_a, up_i, mp_a, mp_ge]
                    try simp only [x0]
                    try simp only [x1]
                    try simp only [en]
                    try simp only [t0]
                    try simp only [lk_125]
                    conv => whnf
                    refine ⟨rfl, ?_⟩
                    refine h _ (fun a j z9 => by unfold FRt at z9; repeat (first | rw [up_n (by omega)] | rfl)) (by repeat (first | rw [up_i (by decide)] | rfl)) ?_ ?_
                    · repeat rw [up_i (by decide)]
                      rw [up_s]
                      rw [e0]
                      first
                      | (rw [e1]; first | (rw [if_pos (by unfold fTwo; omega)]; omega) | rw [if_neg (by unfold fTwo; omega)])
                      | rw [if_neg (by unfold fTwo; omega)]
                    · rw [e0]
                      try rw [e1]
                      simp (disch := omega) only [up_s, up_i]
                      first
                      | exact Or.inl ⟨by omega, by omega, by omega, by omega⟩
                      | exact Or.inr (Or.inl ⟨by omega, by omega, by omega, by omega⟩)
                      | exact Or.inr (Or.inr (Or.inl ⟨by omega, by omega, by omega, by omega, by omega⟩))
                      | exact Or.inr (Or.inr (Or.inr (Or.inl ⟨by omega, by omega, by omega⟩)))
                      | exact Or.inr (Or.inr (Or.inr (Or.inr (Or.inl ⟨by omega, by omega, by omega, by omega⟩))))
                      | exact Or.inr (Or.inr (Or.inr (Or.inr (Or.inr (Or.inl ⟨by omega, by omega, by omega, by omega⟩)))))
                      | exact Or.inr (Or.inr (Or.inr (Or.inr (Or.inr (Or.inr (Or.inl ⟨by omega, by omega, by omega⟩))))))
                      | exact Or.inr (Or.inr (Or.inr (Or.inr (Or.inr (Or.inr (Or.inr ⟨fun z => by rcases z with z | z | z | z | z | z | z | z | z | z | z <;> omega, by omega⟩))))))
        · simp only [sx_cc, Classical.not_not] at g
          conv => whnf
          refine ⟨fun g => ?_, fun g => ?_⟩
          · simp only [sx_cc, Classical.not_not] at g
            conv => whnf
            refine ⟨(by first | assumption | rfl), ?_⟩
            try simp (disch := omega) only [Int.cast_ofNat_Int, up_s, up_a, up_i, mp_a, mp_ge]
            try simp only [x0]
            try simp only [x1]
            try simp only [en]
            try simp only [t0]
            try simp only [lk_125]
            conv => whnf
            refine ⟨fun g => ?_, fun g => ?_⟩
            · simp only [sx_cc, Classical.not_not] at g
              conv => whnf
              refine ⟨fun g => ?_, fun g => ?_⟩
              · exact absurd g (by simp [sx_cc])
              · skip
                conv => whnf
                refine ⟨fun g => ?_, fun g => ?_⟩
                · skip
                  conv => whnf
                  refine ⟨(by first | assumption | rfl), ?_⟩
                  try simp (disch := omega) only [Int.cast_ofNat_Int, up_s, up_a, up_i, mp_a, mp_ge]
                  try simp only [x0]
                  try simp only [x1]
                  try simp only [en]
                  try simp only [t0]
                  try simp only [lk_125]
                  conv => whnf
                  refine ⟨(by first | assumption | rfl), ?_⟩
                  try simp (disch := omega) only [Int.cast_ofNat_Int, up_s, up_a, up_i, mp_a, mp_ge]
                  try simp only [x0]
                  try simp only [x1]
                  try simp only [en]
                  try simp only [t0]
                  try simp only [lk_125]
                  conv => whnf
                  refine ⟨fun g => ?_, fun g => ?_⟩
                  · simp only [sx_cc, Classical.not_not] at g
                    conv => whnf
                    refine ⟨(by first | assumption | rfl), ?_⟩
                    try simp (disch := omega) only [Int.cast_ofNat_Int, up_s, up_a, up_i, mp_a, mp_ge]
                    try simp only [x0]
                    try simp only [x1]
                    try simp only [en]
                    try simp only [t0]
                    try simp only [lk_125]
                    conv => whnf
                    refine ⟨fun g => ?_, fun g => ?_⟩
                    · simp only [sx_cc, Classical.not_not] at g
                      conv => whnf
                      refine ⟨fun g => ?_, fun g => ?_⟩
                      · skip
                        conv => whnf
                        refine ⟨(by first | assumption | rfl), ?_⟩
                        try simp (disch := omega) only [Int.cast_ofNat_Int, up_s, up_a, up_i, mp_a, mp_ge]
                        try simp only [x0]
                        try simp only [x1]
                        try simp only [en]
                        try simp only [t0]
                        try simp only [lk_125]
                        conv => whnf
                        refine ⟨rfl, ?_⟩
                        refine h _ (fun a j z9 => by unfold FRt at z9; repeat (first | rw [up_n (by omega)] | rfl)) (by repeat (first | rw [up_i (by decide)] | rfl)) ?_ ?_
                        · repeat rw [up_i (by decide)]
                          rw [up_s]
                          rw [e0]
                          first
                          | (rw [e1]; first | (rw [if_pos (by unfold fTwo; omega)]; omega) | rw [if_neg (by unfold fTwo; omega)])
                          | rw [if_neg (by unfold fTwo; omega)]
                        · rw [e0]
                          try rw [e1]
                          simp (disch := omega) only [up_s, up_i]
                          first
                          | exact Or.inl ⟨by omega, by omega, by omega, by omega⟩
                          | exact Or.inr (Or.inl ⟨by omega, by omega, by omega, by omega⟩)
                          | exact Or.inr (Or.inr (Or.inl ⟨by omega, by omega, by omega, by omega, by omega⟩))
                          | exact Or.inr (Or.inr (Or.inr (Or.inl ⟨by omega, by omega, by omega⟩)))
                          | exact Or.inr (Or.inr (Or.inr (Or.inr (Or.inl ⟨by omega, by omega, by omega, by omega⟩))))
                          | exact Or.inr (Or.inr (Or.inr (Or.inr (Or.inr (Or.inl ⟨by omega, by omega, by omega, by omega⟩)))))
                          | exact Or.inr (Or.inr (Or.inr (Or.inr (Or.inr (Or.inr (Or.inl ⟨by omega, by omega, by omega⟩))))))
                          | exact Or.inr (Or.inr (Or.inr (Or.inr (Or.inr (Or.inr (Or.inr ⟨fun z => by rcases z with z | z | z | z | z | z | z | z | z | z | z <;> omega, by omega⟩))))))
                      · exact absurd g (by simp [sx_cc])
                    · simp only [sx_cc, Classical.not_not] at g
                      conv => whnf
                      refine ⟨fun g => ?_, fun g => ?_⟩
                      · skip
                        conv => whnf
                        refine ⟨fun g => ?_, fun g => ?_⟩
                        · skip
                          conv => whnf
                          refine ⟨(by first | assumption | rfl), ?_⟩
                          try simp (disch := omega) only [Int.cast_ofNat_Int, up_s, up_a, up_i, mp_a, mp_ge]
                          try simp only [x0]
                          try simp only [x1]
                          try simp only [en]
                          try simp only [t0]
                          try simp only [lk_125]
                          conv => whnf
                          refine ⟨rfl, ?_⟩
                          refine h _ (fun a j z9 => by unfold FRt at z9; repeat (first | rw [up_n (by omega)] | rfl)) (by repeat (first | rw [up_i (by decide)] | rfl)) ?_ ?_
                          · repeat rw [up_i (by decide)]
                            rw [up_s]
                            rw [e0]
                            first
                            | (rw [e1]; first | (rw [if_pos (by unfold fTwo; omega)]; omega) | rw [if_neg (by unfold fTwo; omega)])
                            | rw [if_neg (by unfold fTwo; omega)]
                          · rw [e0]
                            try rw [e1]
                            simp (disch := omega) only [up_s, up_i]
                            first
                            | exact Or.inl ⟨by omega, by omega, by omega, by omega⟩
                            | exact Or.inr (Or.inl ⟨by omega, by omega, by omega, by omega⟩)
                            | exact Or.inr (Or.inr (Or.inl ⟨by omega, by omega, by omega, by omega, by omega⟩))
                            | exact Or.inr (Or.inr (Or.inr (Or.inl ⟨by omega, by omega, by omega⟩)))
                            | exact Or.inr (Or.inr (Or.inr (Or.inr (Or.inl ⟨by omega, by omega, by omega, by omega⟩))))
                            | exact Or.inr (Or.inr (Or.inr (Or.inr (Or.inr (Or.inl ⟨by omega, by omega, by omega, by omega⟩)))))
                            | exact Or.inr (Or.inr (Or.inr (Or.inr (Or.inr (Or.inr (Or.inl ⟨by omega, by omega, by omega⟩))))))
                            | exact Or.inr (Or.inr (Or.inr (Or.inr (Or.inr (Or.inr (Or.inr ⟨fun z => by rcases z with z | z | z | z | z | z | z | z | z | z | z <;> omega, by omega⟩))))))
                        · exact absurd g (by simp [sx_cc])
                      · exact absurd g (by simp [sx_cc])
                  · simp only [sx_cc, Classical.not_not] at g
                    conv => whnf
                    refine ⟨(by first | assumption | rfl), ?_⟩
                    try simp (disch := omega) only [Int.cast_ofNat_Int, up_s, up_a, up_i, mp_a, mp_ge]
                    try simp only [x0]
                    try simp only [x1]
                    try simp only [en]
                    try simp only [t0]
                    try simp only [lk_125]
                    conv => whnf
                    refine ⟨rfl, ?_⟩
                    refine h _ (fun a j z9 => by unfold FRt at z9; repeat (first | rw [up_n (by omega)] | rfl)) (by repeat (first | rw [up_i (by decide)] | rfl)) ?_ ?_
                    · repeat rw [up_i (by decide)]
                      rw [up_s]
                      rw [e0]
                      first
                      | (rw [e1]; first | (rw [if_pos (by unfold fTwo; omega)]; omega) | rw [if_neg (by unfold fTwo; omega)])
                      | rw [if_neg (by unfold fTwo; omega)]
                    · rw [e0]
                      try rw [e1]
                      simp (disch := omega) only [up_s, up_i]
                      first
                      | exact Or.inl ⟨by omega, by omega, by omega, by omega⟩
                      | exact Or.inr (Or.inl ⟨by omega, by omega, by omega, by omega⟩)
                      | exact Or.inr (Or.inr (Or.inl ⟨by omega, by omega, by omega, by omega, by omega⟩))
                      | exact Or.inr (Or.inr (Or.inr (Or.inl ⟨by omega, by omega, by omega⟩)))
                      | exact Or.inr (Or.inr (Or.inr (Or.inr (Or.inl ⟨by omega, by omega, by omega, by omega⟩))))
                      | exact Or.inr (Or.inr (Or.inr (Or.inr (Or.inr (Or.inl ⟨by omega, by omega, by omega, by omega⟩)))))
                      | exact Or.inr (Or.inr (Or.inr (Or.inr (Or.inr (Or.inr (Or.inl ⟨by omega, by omega, by omega⟩))))))
                      | exact Or.inr (Or.inr (Or.inr (Or.inr (Or.inr (Or.inr (Or.inr ⟨fun z => by rcases z with z | z | z | z | z | z | z | z | z | z | z <;> omega, by omega⟩))))))
                · exact absurd g (by simp [sx_cc])
            · simp only [sx_cc, Classical.not_not] at g
              conv => whnf
              refine ⟨fun g => ?_, fun g => ?_⟩
              · simp only [sx_cc, Classical.not_not] at g
                conv => whnf
                refine ⟨fun g => ?_, fun g => ?_⟩
                · exact absurd g (by simp [sx_cc])
                · skip
                  conv => whnf
                  refine ⟨fun g => ?_, fun g => ?_⟩
                  · skip
                    conv => whnf
                    refine ⟨(by first | assumption | rfl), ?_⟩
                    try simp (disch := omega) only [Int.cast_ofNat_Int, up_s, up_a, up_i, mp_a, mp_ge]
                    try simp only [x0]
                    try simp only [x1]
                    try simp only [en]
                    try simp only [t0]
                    try simp only [lk_125]
                    conv => whnf
                    refine ⟨(by first | assumption | rfl), ?_⟩
                    try simp (disch := omega) only [Int.cast_ofNat_Int, up_s, up_a, up_i, mp_a, mp_ge]
                    try simp only [x0]
                    try simp only [x1]
                    try simp only [en]
                    try simp only [t0]
                    try simp only [lk_125]
                    conv => whnf
                    refine ⟨fun g => ?_, fun g => ?_⟩
                    · simp only [sx_cc, Classical.not_not] at g
                      conv => whnf
                      refine ⟨(by first | assumption | rfl), ?_⟩
                      try simp (disch := omega) only [Int.cast_ofNat_Int, up_s, up_a, up_i, mp_a, mp_ge]
                      try simp only [x0]
                      try simp only [x1]
                      try simp only [en]
                      try simp only [t0]
                      try simp only [lk_125]
                      conv => whnf
                      refine ⟨fun g => ?_, fun g => ?_⟩
                      · simp only [sx_cc, Classical.not_not] at g
                        conv => whnf
                        refine ⟨fun g => ?_, fun g => ?_⟩
                        · skip
                          conv => whnf
                          refine ⟨(by first | assumption | rfl), ?_⟩
                          try simp (disch := omega) only [Int.cast_ofNat_Int, up_s, up_a, up_i, mp_a, mp_ge]
                          try simp only [x0]
                          try simp only [x1]
                          try simp only [en]
                          try simp only [t0]
                          try simp only [lk_125]
                          conv => whnf
                          refine ⟨rfl, ?_⟩
                          refine h _ (fun a j z9 => by unfold FRt at z9; repeat (first | rw [up_n (by omega)] | rfl)) (by repeat (first | rw [up_i (by decide)] | rfl)) ?_ ?_
                          · repeat rw [up_i (by decide)]
                            rw [up_s]
                            rw [e0]
                            first
                            | (rw [e1]; first | (rw [if_pos (by unfold fTwo; omega)]; omega) | rw [if_neg (by unfold fTwo; omega)])
                            | rw [if_neg (by unfold fTwo; omega)]
                          · rw [e0]
                            try rw [e1]
                            simp (disch := omega) only [up_s, up_i]
                            first
                            | exact Or.inl ⟨by omega, by omega, by omega, by omega⟩
                            | exact Or.inr (Or.inl ⟨by omega, by omega, by omega, by omega⟩)
                            | exact Or.inr (Or.inr (Or.inl ⟨by omega, by omega, by omega, by omega, by omega⟩))
                            | exact Or.inr (Or.inr (Or.inr (Or.inl ⟨by omega, by omega, by omega⟩)))
                            | exact Or.inr (Or.inr (Or.inr (Or.inr (Or.inl ⟨by omega, by omega, by omega, by omega⟩))))
                            | exact Or.inr (Or.inr (Or.inr (Or.inr (Or.inr (Or.inl ⟨by omega, by omega, by omega, by omega⟩)))))
                            | exact Or.inr (Or.inr (Or.inr (Or.inr (Or.inr (Or.inr (Or.inl ⟨by omega, by omega, by omega⟩))))))
                            | exact Or.inr (Or.inr (Or.inr (Or.inr (Or.inr (Or.inr (Or.inr ⟨fun z => by rcases z with z | z | z | z | z | z | z | z | z | z | z <;> omega, by omega⟩))))))
                        · exact absurd g (by simp [sx_cc])
                      · simp only [sx_cc, Classical.not_not] at g
                        conv => whnf
                        refine ⟨fun g => ?_, fun g => ?_⟩
                        · skip
                          conv => whnf
                          refine ⟨fun g => ?_, fun g => ?_⟩
                          · skip
                            conv => whnf
                            refine ⟨(by first | assumption | rfl), ?_⟩
                            try simp (disch := omega) only [Int.cast_ofNat_Int, up_s, up_a, up_i, mp_a, mp_ge]
                            try simp only [x0]
                            try simp only [x1]
                            try simp only [en]
                            try simp only [t0]
                            try simp only [lk_125]
                            conv => whnf
                            refine ⟨rfl, ?_⟩
                            refine h _ (fun a j z9 => by unfold FRt at z9; repeat (first | rw [up_n (by omega)] | rfl)) (by repeat (first | rw [up_i (by decide)] | rfl)) ?_ ?_
                            · repeat rw [up_i (by decide)]
                              rw [up_s]
                              rw [e0]
                              first
                              | (rw [e1]; first | (rw [if_pos (by unfold fTwo; omega)]; omega) | rw [if_neg (by unfold fTwo; omega)])
                              | rw [if_neg (by unfold fTwo; omega)]
                            · rw [e0]
                              try rw [e1]
                              simp (disch := omega) only [up_s, up_i]
                              first
                              | exact Or.inl ⟨by omega, by omega, by omega, by omega⟩
                              | exact Or.inr (Or.inl ⟨by omega, by omega, by omega, by omega⟩)
                              | exact Or.inr (Or.inr (Or.inl ⟨by omega, by omega, by omega, by omega, by omega⟩))
                              | exact Or.inr (Or.inr (Or.inr (Or.inl ⟨by omega, by omega, by omega⟩)))
                              | exact Or.inr (Or.inr (Or.inr (Or.inr (Or.inl ⟨by omega, by omega, by omega, by omega⟩))))
                              | exact Or.inr (Or.inr (Or.inr (Or.inr (Or.inr (Or.inl ⟨by omega, by omega, by omega, by omega⟩)))))
                              | exact Or.inr (Or.inr (Or.inr (Or.inr (Or.inr (Or.inr (Or.inl ⟨by omega, by omega, by omega⟩))))))
                              | exact Or.inr (Or.inr (Or.inr (Or.inr (Or.inr (Or.inr (Or.inr ⟨fun z => by rcases z with z | z | z | z | z | z | z | z | z | z | z <;> omega, by omega⟩))))))
                          · exact absurd g (by simp [sx_cc])
                        · exact absurd g (by simp [sx_cc])
                    · simp only [sx_cc, Classical.not_not] at g
                      conv => whnf
                      refine ⟨(by first | assumption | rfl), ?_⟩
                      try simp (disch := omega) only [Int.cast_ofNat_Int, up_s, up_a, up_i, mp_a, mp_ge]
                      try simp only [x0]
                      try simp only [x1]
                      try simp only [en]
                      try simp only [t0]
                      try simp only [lk_125]
                      conv => whnf
                      refine ⟨rfl, ?_⟩
                      refine h _ (fun a j z9 => by unfold FRt at z9; repeat (first | rw [up_n (by omega)] | rfl)) (by repeat (first | rw [up_i (by decide)] | rfl)) ?_ ?_
                      · repeat rw [up_i (by decide)]
                        rw [up_s]
                        rw [e0]
                        first
                        | (rw [e1]; first | (rw [if_pos (by unfold fTwo; omega)]; omega) | rw [if_neg (by unfold fTwo; omega)])
                        | rw [if_neg (by unfold fTwo; omega)]
                      · rw [e0]
                        try rw [e1]
                        simp (disch := omega) only [up_s, up_i]
                        first
                        | exact Or.inl ⟨by omega, by omega, by omega, by omega⟩
                        | exact Or.inr (Or.inl ⟨by omega, by omega, by omega, by omega⟩)
                        | exact Or.inr (Or.inr (Or.inl ⟨by omega, by omega, by omega, by omega, by omega⟩))
                        | exact Or.inr (Or.inr (Or.inr (Or.inl ⟨by omega, by omega, by omega⟩)))
                        | exact Or.inr (Or.inr (Or.inr (Or.inr (Or.inl ⟨by omega, by omega, by omega, by omega⟩))))
                        | exact Or.inr (Or.inr (Or.inr (Or.inr (Or.inr (Or.inl ⟨by omega, by omega, by omega, by omega⟩)))))
                        | exact Or.inr (Or.inr (Or.inr (Or.inr (Or.inr (Or.inr (Or.inl ⟨by omega, by omega, by omega⟩))))))
                        | exact Or.inr (Or.inr (Or.inr (Or.inr (Or.inr (Or.inr (Or.inr ⟨fun z => by rcases z with z | z | z | z | z | z | z | z | z | z | z <;> omega, by omega⟩))))))
                  · exact absurd g (by simp [sx_cc])
              · simp only [sx_cc, Classical.not_not] at g
                conv => whnf
                refine ⟨fun g => ?_, fun g => ?_⟩
                · exact absurd g (by simp [sx_cc])
                · skip
                  conv => whnf
                  refine ⟨fun g => ?_, fun g => ?_⟩
                  · exact absurd g (by simp [sx_cc])
                  · skip
                    conv => whnf
                    refine ⟨(by first | assumption | rfl), ?_⟩
                    try simp (disch := omega) only [Int.cast_ofNat_Int, up_s, up_a, up_i, mp_a, mp_ge]
                    try simp only [x0]
                    try simp only [x1]
                    try simp only [en]
                    try simp only [t0]
                    try simp only [lk_125]
                    conv => whnf
                    refine ⟨⟨by omega, by omega⟩, ?_⟩
                    conv => whnf
                    refine ⟨(by first | assumption | rfl), ?_⟩
                    try simp (disch := omega) only [Int.cast_ofNat_Int, up_s, up_a, up_i, mp_a, mp_ge]
                    try simp only [x0]
                    try simp only [x1]
                    try simp only [en]
                    try simp only [t0]
                    try simp only [lk_125]
                    conv => whnf
                    refine ⟨(by first | assumption | rfl), ?_⟩
                    try simp (disch := omega) only [Int.cast_ofNat_Int, up_s, up_a, up_i, mp_a, mp_ge]
                    try simp only [x0]
                    try simp only [x1]
                    try simp only [en]
                    try simp only [t0]
                    try simp only [lk_125]
                    conv => whnf
                    refine ⟨(by first | assumption | rfl), ?_⟩
                    try simp (disch := omega) only [Int.cast_ofNat_Int, up_s, up_a, up_i, mp_a, mp_ge]
                    try simp only [x0]
                    try simp only [x1]
                    try simp only [en]
                    try simp only [t0]
                    try simp only [lk_125]
                    conv => whnf
                    refine ⟨fun g => ?_, fun g => ?_⟩
                    · simp only [sx_cc, Classical.not_not] at g
                      conv => whnf
                      refine ⟨(by first | assumption | rfl), ?_⟩
                      try simp (disch := omega) only [Int.cast_ofNat_Int, up_s, up_a, up_i, mp_a, mp_ge]
                      try simp only [x0]
                      try simp only [x1]
                      try simp only [en]
                      try simp only [t0]
                      try simp only [lk_125]
                      conv => whnf
                      refine ⟨fun g => ?_, fun g => ?_⟩
                      · simp only [sx_cc, Classical.not_not] at g
                        conv => whnf
                        refine ⟨fun g => ?_, fun g => ?_⟩
                        · skip
                          conv => whnf
                          refine ⟨(by first | assumption | rfl), ?_⟩
                          try simp (disch := omega) only [Int.cast_ofNat_Int, up_s, up_a, up_i, mp_a, mp_ge]
                          try simp only [x0]
                          try simp only [x1]
                          try simp only [en]
                          try simp only [t0]
                          try simp only [lk_125]
                          conv => whnf
                          refine ⟨rfl, ?_⟩
                          refine h _ (fun a j z9 => by unfold FRt at z9; repeat (first | rw [up_n (by omega)] | rfl)) (by repeat (first | rw [up_i (by decide)] | rfl)) ?_ ?_
                          · repeat rw [up_i (by decide)]
                            rw [up_s]
                            rw [e0]
                            first
                            | (rw [e1]; first | (rw [if_pos (by unfold fTwo; omega)]; omega) | rw [if_neg (by unfold fTwo; omega)])
                            | rw [if_neg (by unfold fTwo; omega)]
                          · rw [e0]
                            try rw [e1]
                            simp (disch := omega) only [up_s, up_i]
                            first
                            | exact Or.inl ⟨by omega, by omega, by omega, by omega⟩
                            | exact Or.inr (Or.inl ⟨by omega, by omega, by omega, by omega⟩)
                            | exact Or.inr (Or.inr (Or.inl ⟨by omega, by omega, by omega, by omega, by omega⟩))
                            | exact Or.inr (Or.inr (Or.inr (Or.inl ⟨by omega, by omega, by omega⟩)))
                            | exact Or.inr (Or.inr (Or.inr (Or.inr (Or.inl ⟨by omega, by omega, by omega, by omega⟩))))
                            | exact Or.inr (Or.inr (Or.inr (Or.inr (Or.inr (Or.inl ⟨by omega, by omega, by omega, by omega⟩)))))
                            | exact Or.inr (Or.inr (Or.inr (Or.inr (Or.inr (Or.inr (Or.inl ⟨by omega, by omega, by omega⟩))))))
                            | exact Or.inr (Or.inr (Or.inr (Or.inr (Or.inr (Or.inr (Or.inr ⟨fun z => by rcases z with z | z | z | z | z | z | z | z | z | z | z <;> omega, by omega⟩))))))
                        · exact absurd g (by simp [sx_cc])
                      · simp only [sx_cc, Classical.not_not] at g
                        conv => whnf
                        refine ⟨fun g => ?_, fun g => ?_⟩
                        · skip
                          conv => whnf
                          refine ⟨fun g => ?_, fun g => ?_⟩
                          · exact absurd g (by simp [sx_cc])
                          · skip
                            conv => whnf
                            refine ⟨(by first | assumption | rfl), ?_⟩
                            try simp (disch := omega) only [Int.cast_ofNat_Int, up_s, up_a, up_i, mp_a, mp_ge]
                            try simp only [x0]
                            try simp only [x1]
                            try simp only [en]
                            try simp only [t0]
                            try simp only [lk_125]
                            conv => whnf
                            refine ⟨rfl, ?_⟩
                            refine h _ (fun a j z9 => by unfold FRt at z9; repeat (first | rw [up_n (by omega)] | rfl)) (by repeat (first | rw [up_i (by decide)] | rfl)) ?_ ?_
                            · repeat rw [up_i (by decide)]
                              rw [up_s]
                              rw [e0]
                              first
                              | (rw [e1]; first | (rw [if_pos (by unfold fTwo; omega)]; omega) | rw [if_neg (by unfold fTwo; omega)])
                              | rw [if_neg (by unfold fTwo; omega)]
                            · rw [e0]
                              try rw [e1]
                              simp (disch := omega) only [up_s, up_i]
                              first
                              | exact Or.inl ⟨by omega, by omega, by omega, by omega⟩
                              | exact Or.inr (Or.inl ⟨by omega, by omega, by omega, by omega⟩)
                              | exact Or.inr (Or.inr (Or.inl ⟨by omega, by omega, by omega, by omega, by omega⟩))
                              | exact Or.inr (Or.inr (Or.inr (Or.inl ⟨by omega, by omega, by omega⟩)))
                              | exact Or.inr (Or.inr (Or.inr (Or.inr (Or.inl ⟨by omega, by omega, by omega, by omega⟩))))
                              | exact Or.inr (Or.inr (Or.inr (Or.inr (Or.inr (Or.inl ⟨by omega, by omega, by omega, by omega⟩)))))
                              | exact Or.inr (Or.inr (Or.inr (Or.inr (Or.inr (Or.inr (Or.inl ⟨by omega, by omega, by omega⟩))))))
                              | exact Or.inr (Or.inr (Or.inr (Or.inr (Or.inr (Or.inr (Or.inr ⟨fun z => by rcases z with z | z | z | z | z | z | z | z | z | z | z <;> omega, by omega⟩))))))
                        · exact absurd g (by simp [sx_cc])
                    · simp only [sx_cc, Classical.not_not] at g
                      conv => whnf
                      refine ⟨(by first | assumption | rfl), ?_⟩
                      try simp (disch := omega) only [Int.cast_ofNat_Int, up_s, up_a, up_i, mp_a, mp_ge]
                      try simp only [x0]
                      try simp only [x1]
                      try simp only [en]
                      try simp only [t0]
                      try simp only [lk_125]
                      conv => whnf
                      refine ⟨rfl, ?_⟩
                      refine h _ (fun a j z9 => by unfold FRt at z9; repeat (first | rw [up_n (by omega)] | rfl)) (by repeat (first | rw [up_i (by decide)] | rfl)) ?_ ?_
                      · repeat rw [up_i (by decide)]
                        rw [up_s]
                        rw [e0]
                        first
                        | (rw [e1]; first | (rw [if_pos (by unfold fTwo; omega)]; omega) | rw [if_neg (by unfold fTwo; omega)])
                        | rw [if_neg (by unfold fTwo; omega)]
                      · rw [e0]
                        try rw [e1]
                        simp (disch := omega) only [up_s, up_i]
                        first
                        | exact Or.inl ⟨by omega, by omega, by omega, by omega⟩
                        | exact Or.inr (Or.inl ⟨by omega, by omega, by omega, by omega⟩)
                        | exact Or.inr (Or.inr (Or.inl ⟨by omega, by omega, by omega, by omega, by omega⟩))
                        | exact Or.inr (Or.inr (Or.inr (Or.inl ⟨by omega, by omega, by omega⟩)))
                        | exact Or.inr (Or.inr (Or.inr (Or.inr (Or.inl ⟨by omega, by omega, by omega, by omega⟩))))
                        | exact Or.inr (Or.inr (Or.inr (Or.inr (Or.inr (Or.inl ⟨by omega, by omega, by omega, by omega⟩)))))
                        | exact Or.inr (Or.inr (Or.inr (Or.inr (Or.inr (Or.inr (Or.inl ⟨by omega, by omega, by omega⟩))))))
                        | exact Or.inr (Or.inr (Or.inr (Or.inr (Or.inr (Or.inr (Or.inr ⟨fun z => by rcases z with z | z | z | z | z | z | z | z | z | z | z <;> omega, by omega⟩))))))
          · simp only [sx_cc, Classical.not_not] at g
            conv => whnf
            refine ⟨(by first | assumption | rfl), ?_⟩
            try simp (disch := omega) only [Int.cast_ofNat_Int, up_s, up_a, up_i, mp_a, mp_ge]
            try simp only [x0]
            try simp only [x1]
            try simp only [en]
            try simp only [t0]
            try simp only [lk_125]
            conv => whnf
            refine ⟨fun g => ?_, fun g => ?_⟩
            · simp only [sx_cc, Classical.not_not] at g
              conv => whnf
              refine ⟨fun g => ?_, fun g => ?_⟩
              · skip
                conv => whnf
                refine ⟨(by first | assumption | rfl), ?_⟩
                try simp (disch := omega) only [Int.cast_ofNat_Int, up_s, up_a, up_i, mp_a, mp_ge]
                try simp only [x0]
                try simp only [x1]
                try simp only [en]
                try simp only [t0]
                try simp only [lk_125]
                conv => whnf
                refine ⟨⟨by omega, by omega⟩, ?_⟩
                conv => whnf
                refine ⟨(by first | assumption | rfl), ?_⟩
                try simp (disch := omega) only [Int.cast_ofNat_Int, up_s, up_a, up_i, mp_a, mp_ge]
                try simp only [x0]
                try simp only [x1]
                try simp only [en]
                try simp only [t0]
                try simp only [lk_125]
                conv => whnf
                refine ⟨(by first | assumption | rfl), ?_⟩
                try simp (disch := omega) only [Int.cast_ofNat_Int, up_s, up_a, up_i, mp_a, mp_ge]
                try simp only [x0]
                try simp only [x1]
                try simp only [en]
                try simp only [t0]
                try simp only [lk_125]
                conv => whnf
                refine ⟨(by first | assumption | rfl), ?_⟩
                try simp (disch := omega) only [Int.cast_ofNat_Int, up_s, up_a, up_i, mp_a, mp_ge]
                try simp only [x0]
                try simp only [x1]
                try simp only [en]
                try simp only [t0]
                try simp only [lk_125]
                conv => whnf
                refine ⟨fun g => ?_, fun g => ?_⟩
                · simp only [sx_cc, Classical.not_not] at g
                  conv => whnf
                  refine ⟨(by first | assumption | rfl), ?_⟩
                  try simp (disch := omega) only [Int.cast_ofNat_Int, up_s, up_a, up_i, mp_a, mp_ge]
                  try simp only [x0]
                  try simp only [x1]
                  try simp only [en]
                  try simp only [t0]
                  try simp only [lk_125]
                  conv => whnf
                  refine ⟨fun g => ?_, fun g => ?_⟩
                  · simp only [sx_cc, Classical.not_not] at g
                    conv => whnf
                    refine ⟨fun g => ?_, fun g => ?_⟩
                    · exact absurd g (by simp [sx_cc])
                    · skip
                      conv => whnf
                      refine ⟨(by first | assumption | rfl), ?_⟩
                      try simp (disch := omega) only [Int.cast_ofNat_Int, up_s, up_a, up_i, mp_a, mp_ge]
                      try simp only [x0]
                      try simp only [x1]
                      try simp only [en]
                      try simp only [t0]
                      try simp only [lk_125]
                      conv => whnf
                      refine ⟨rfl, ?_⟩
                      refine h _ (fun a j z9 => by unfold FRt at z9; repeat (first | rw [up_n (by omega)] | rfl)) (by repeat (first | rw [up_i (by decide)] | rfl)) ?_ ?_
                      · repeat rw [up_i (by decide)]
                        rw [up_s]
                        rw [e0]
                        first
                        | (rw [e1]; first | (rw [if_pos (by unfold fTwo; omega)]; omega) | rw [if_neg (by unfold fTwo; omega)])
                        | rw [if_neg (by unfold fTwo; omega)]
                      · rw [e0]
                        try rw [e1]
                        simp (disch := omega) only [up_s, up_i]
                        first
                        | exact Or.inl ⟨by omega, by omega, by omega, by omega⟩
                        | exact Or.inr (Or.inl ⟨by omega, by omega, by omega, by omega⟩)
                        | exact Or.inr (Or.inr (Or.inl ⟨by omega, by omega, by omega, by omega, by omega⟩))
                        | exact Or.inr (Or.inr (Or.inr (Or.inl ⟨by omega, by omega, by omega⟩)))
                        | exact Or.inr (Or.inr (Or.inr (Or.inr (Or.inl ⟨by omega, by omega, by omega, by omega⟩))))
                        | exact Or.inr (Or.inr (Or.inr (Or.inr (Or.inr (Or.inl ⟨by omega, by omega, by omega, by omega⟩)))))
                        | exact Or.inr (Or.inr (Or.inr (Or.inr (Or.inr (Or.inr (Or.inl ⟨by omega, by omega, by omega⟩))))))
                        | exact Or.inr (Or.inr (Or.inr (Or.inr (Or.inr (Or.inr (Or.inr ⟨fun z => by rcases z with z | z | z | z | z | z | z | z | z | z | z <;> omega, by omega⟩))))))
                  · simp only [sx_cc, Classical.not_not] at g
                    conv => whnf
                    refine ⟨fun g => ?_, fun g => ?_⟩
                    · exact absurd g (by simp [sx_cc])
                    · skip
                      conv => whnf
                      refine ⟨(by first | assumption | rfl), ?_⟩
                      try simp (disch := omega) only [Int.cast_ofNat_Int, up_s, up_a, up_i, mp_a, mp_ge]
                      try simp only [x0]
                      try simp only [x1]
                      try simp only [en]
                      try simp only [t0]
                      try simp only [lk_125]
                      conv => whnf
                      refine ⟨rfl, ?_⟩
                      refine h _ (fun a j z9 => by unfold FRt at z9; repeat (first | rw [up_n (by omega)] | rfl)) (by repeat (first | rw [up_i (by decide)] | rfl)) ?_ ?_
                      · repeat rw [up_i (by decide)]
                        rw [up_s]
                        rw [e0]
                        first
                        | (rw [e1]; first | (rw [if_pos (by unfold fTwo; omega)]; omega) | rw [if_neg (by unfold fTwo; omega)])
                        | rw [if_neg (by unfold fTwo; omega)]
                      · rw [e0]
                        try rw [e1]
                        simp (disch := omega) only [up_s, up_i]
                        first
                        | exact Or.inl ⟨by omega, by omega, by omega, by omega⟩
                        | exact Or.inr (Or.inl ⟨by omega, by omega, by omega, by omega⟩)
                        | exact Or.inr (Or.inr (Or.inl ⟨by omega, by omega, by omega, by omega, by omega⟩))
                        | exact Or.inr (Or.inr (Or.inr (Or.inl ⟨by omega, by omega, by omega⟩)))
                        | exact Or.inr (Or.inr (Or.inr (Or.inr (Or.inl ⟨by omega, by omega, by omega, by omega⟩))))
                        | exact Or.inr (Or.inr (Or.inr (Or.inr (Or.inr (Or.inl ⟨by omega, by omega, by omega, by omega⟩)))))
                        | exact Or.inr (Or.inr (Or.inr (Or.inr (Or.inr (Or.inr (Or.inl ⟨by omega, by omega, by omega⟩))))))
                        | exact Or.inr (Or.inr (Or.inr (Or.inr (Or.inr (Or.inr (Or.inr ⟨fun z => by rcases z with z | z | z | z | z | z | z | z | z | z | z <;> omega, by omega⟩))))))
                · simp only [sx_cc, Classical.not_not] at g
                  conv => whnf
                  refine ⟨(by first | assumption | rfl), ?_⟩
                  try simp (disch := omega) only [Int.cast_ofNat_Int, up_s, up_a, up_i, mp_a, mp_ge]
                  try simp only [x0]
                  try simp only [x1]
                  try simp only [en]
                  try simp only [t0]
                  try simp only [lk_125]
                  conv => whnf
                  refine ⟨rfl, ?_⟩
                  refine h _ (fun a j z9 => by unfold FRt at z9; repeat (first | rw [up_n (by omega)] | rfl)) (by repeat (first | rw [up_i (by decide)] | rfl)) ?_ ?_
                  · repeat rw [up_i (by decide)]
                    rw [up_s]
                    rw [e0]
                    first
                    | (rw [e1]; first | (rw [if_pos (by unfold fTwo; omega)]; omega) | rw [if_neg (by unfold fTwo; omega)])
                    | rw [if_neg (by unfold fTwo; omega)]
                  · rw [e0]
                    try rw [e1]
                    simp (disch := omega) only [up_s, up_i]
                    first
                    | exact Or.inl ⟨by omega, by omega, by omega, by omega⟩
                    | exact Or.inr (Or.inl ⟨by omega, by omega, by omega, by omega⟩)
                    | exact Or.inr (Or.inr (Or.inl ⟨by omega, by omega, by omega, by omega, by omega⟩))
                    | exact Or.inr (Or.inr (Or.inr (Or.inl ⟨by omega, by omega, by omega⟩)))
                    | exact Or.inr (Or.inr (Or.inr (Or.inr (Or.inl ⟨by omega, by omega, by omega, by omega⟩))))
                    | exact Or.inr (Or.inr (Or.inr (Or.inr (Or.inr (Or.inl ⟨by omega, by omega, by omega, by omega⟩)))))
                    | exact Or.inr (Or.inr (Or.inr (Or.inr (Or.inr (Or.inr (Or.inl ⟨by omega, by omega, by omega⟩))))))
                    | exact Or.inr (Or.inr (Or.inr (Or.inr (Or.inr (Or.inr (Or.inr ⟨fun z => by rcases z with z | z | z | z | z | z | z | z | z | z | z <;> omega, by omega⟩))))))
              · exact absurd g (by simp [sx_cc])
            · simp only [sx_cc, Classical.not_not] at g
              conv => whnf
              refine ⟨fun g => ?_, fun g => ?_⟩
              · simp only [sx_cc, Classical.not_not] at g
                conv => whnf
                refine ⟨fun g => ?_, fun g => ?_⟩
                · skip
                  conv => whnf
                  refine ⟨(by first | assumption | rfl), ?_⟩
                  try simp (disch := omega) only [Int.cast_ofNat_Int, up_s, up_a, up_i, mp_a, mp_ge]
                  try simp only [x0]
                  try simp only [x1]
                  try simp only [en]
                  try simp only [t0]
                  try simp only [lk_125]
                  conv => whnf
                  refine ⟨⟨by omega, by omega⟩, ?_⟩
                  conv => whnf
                  refine ⟨(by first | assumption | rfl), ?_⟩
                  try simp (disch := omega) only [Int.cast_ofNat_Int, up_s, up_a, up_i, mp_a, mp_ge]
                  try simp only [x0]
                  try simp only [x1]
                  try simp only [en]
                  try simp only [t0]
                  try simp only [lk_125]
                  conv => whnf
                  refine ⟨(by first | assumption | rfl), ?_⟩
                  try simp (disch := omega) only [Int.cast_ofNat_Int, up_s, up_a, up_i, mp_a, mp_ge]
                  try simp only [x0]
                  try simp only [x1]
                  try simp only [en]
                  try simp only [t0]
                  try simp only [lk_125]
                  conv => whnf
                  refine ⟨(by first | assumption | rfl), ?_⟩
                  try simp (disch := omega) only [Int.cast_ofNat_Int, up_s, up_a, up_i, mp_a, mp_ge]
                  try simp only [x0]
                  try simp only [x1]
                  try simp only [en]
                  try simp only [t0]
                  try simp only [lk_125]
                  conv => whnf
                  refine ⟨fun g => ?_, fun g => ?_⟩
                  · simp only [sx_cc, Classical.not_not] at g
                    conv => whnf
                    refine ⟨(by first | assumption | rfl), ?_⟩
                    try simp (disch := omega) only [Int.cast_ofNat_Int, up_s, up_a, up_i, mp_a, mp_ge]
                    try simp only [x0]
                    try simp only [x1]
                    try simp only [en]
                    try simp only [t0]
                    try simp only [lk_125]
                    conv => whnf
                    refine ⟨fun g => ?_, fun g => ?_⟩
                    · simp only [sx_cc, Classical.not_not] at g
                      conv => whnf
                      refine ⟨fun g => ?_, fun g => ?_⟩
                      · exact absurd g (by simp [sx_cc])
                      · skip
                        conv => whnf
                        refine ⟨(by first | assumption | rfl), ?_⟩
                        try simp (disch := omega) only [Int.cast_ofNat_Int, up_s, up_a, up_i, mp_a, mp_ge]
                        try simp only [x0]
                        try simp only [x1]
                        try simp only [en]
                        try simp only [t0]
                        try simp only [lk_125]
                        conv => whnf
                        refine ⟨rfl, ?_⟩
                        refine h _ (fun a j z9 => by unfold FRt at z9; repeat (first | rw [up_n (by omega)] | rfl)) (by repeat (first | rw [up_i (by decide)] | rfl)) ?_ ?_
                        · repeat rw [up_i (by decide)]
                          rw [up_s]
                          rw [e0]
                          first
                          | (rw [e1]; first | (rw [if_pos (by unfold fTwo; omega)]; omega) | rw [if_neg (by unfold fTwo; omega)])
                          | rw [if_neg (by unfold fTwo; omega)]
                        · rw [e0]
                          try rw [e1]
                          simp (disch := omega) only [up_s, up_i]
                          first
                          | exact Or.inl ⟨by omega, by omega, by omega, by omega⟩
                          | exact Or.inr (Or.inl ⟨by omega, by omega, by omega, by omega⟩)
                          | exact Or.inr (Or.inr (Or.inl ⟨by omega, by omega, by omega, by omega, by omega⟩))
                          | exact Or.inr (Or.inr (Or.inr (Or.inl ⟨by omega, by omega, by omega⟩)))
                          | exact Or.inr (Or.inr (Or.inr (Or.inr (Or.inl ⟨by omega, by omega, by omega, by omega⟩))))
                          | exact Or.inr (Or.inr (Or.inr (Or.inr (Or.inr (Or.inl ⟨by omega, by omega, by omega, by omega⟩)))))
                          | exact Or.inr (Or.inr (Or.inr (Or.inr (Or.inr (Or.inr (Or.inl ⟨by omega, by omega, by omega⟩))))))
                          | exact Or.inr (Or.inr (Or.inr (Or.inr (Or.inr (Or.inr (Or.inr ⟨fun z => by rcases z with z | z | z | z | z | z | z | z | z | z | z <;> omega, by omega⟩))))))
                    · simp only [sx_cc, Classical.not_not] at g
                      conv => whnf
                      refine ⟨fun g => ?_, fun g => ?_⟩
                      · exact absurd g (by simp [sx_cc])
                      · skip
                        conv => whnf
                        refine ⟨(by first | assumption | rfl), ?_⟩
                        try simp (disch := omega) only [Int.cast_ofNat_Int, up_s, up_a, up_i, mp_a, mp_ge]
                        try simp only [x0]
                        try simp only [x1]
                        try simp only [en]
                        try simp only [t0]
                        try simp only [lk_125]
                        conv => whnf
                        refine ⟨rfl, ?_⟩
                        refine h _ (fun a j z9 => by unfold FRt at z9; repeat (first | rw [up_n (by omega)] | rfl)) (by repeat (first | rw [up_i (by decide)] | rfl)) ?_ ?_
                        · repeat rw [up_i (by decide)]
                          rw [up_s]
                          rw [e0]
                          first
                          | (rw [e1]; first | (rw [if_pos (by unfold fTwo; omega)]; omega) | rw [if_neg (by unfold fTwo; omega)])
                          | rw [if_neg (by unfold fTwo; omega)]
                        · rw [e0]
                          try rw [e1]
                          simp (disch := omega) only [up_s, up_i]
                          first
                          | exact Or.inl ⟨by omega, by omega, by omega, by omega⟩
                          | exact Or.inr (Or.inl ⟨by omega, by omega, by omega, by omega⟩)
                          | exact Or.inr (Or.inr (Or.inl ⟨by omega, by omega, by omega, by omega, by omega⟩))
                          | exact Or.inr (Or.inr (Or.inr (Or.inl ⟨by omega, by omega, by omega⟩)))
                          | exact Or.inr (Or.inr (Or.inr (Or.inr (Or.inl ⟨by omega, by omega, by omega, by omega⟩))))
                          | exact Or.inr (Or.inr (Or.inr (Or.inr (Or.inr (Or.inl ⟨by omega, by omega, by omega, by omega⟩)))))
                          | exact Or.inr (Or.inr (Or.inr (Or.inr (Or.inr (Or.inr (Or.inl ⟨by omega, by omega, by omega⟩))))))
                          | exact Or.inr (Or.inr (Or.inr (Or.inr (Or.inr (Or.inr (Or.inr ⟨fun z => by rcases z with z | z | z | z | z | z | z | z | z | z | z <;> omega, by omega⟩))))))
                  · simp only [sx_cc, Classical.not_not] at g
                    conv => whnf
                    refine ⟨(by first | assumption | rfl), ?_⟩
                    try simp (disch := omega) only [Int.cast_ofNat_Int, up_s, up_a, up_i, mp_a, mp_ge]
                    try simp only [x0]
                    try simp only [x1]
                    try simp only [en]
                    try simp only [t0]
                    try simp only [lk_125]
                    conv => whnf
                    refine ⟨rfl, ?_⟩
                    refine h _ (fun a j z9 => by unfold FRt at z9; repeat (first | rw [up_n (by omega)] | rfl)) (by repeat (first | rw [up_i (by decide)] | rfl)) ?_ ?_
                    · repeat rw [up_i (by decide)]
                      rw [up_s]
                      rw [e0]
                      first
                      | (rw [e1]; first | (rw [if_pos (by unfold fTwo; omega)]; omega) | rw [if_neg (by unfold fTwo; omega)])
                      | rw [if_neg (by unfold fTwo; omega)]
                    · rw [e0]
                      try rw [e1]
                      simp (disch := omega) only [up_s, up_i]
                      first
                      | exact Or.inl ⟨by omega, by omega, by omega, by omega⟩
                      | exact Or.inr (Or.inl ⟨by omega, by omega, by omega, by omega⟩)
                      | exact Or.inr (Or.inr (Or.inl ⟨by omega, by omega, by omega, by omega, by omega⟩))
                      | exact Or.inr (Or.inr (Or.inr (Or.inl ⟨by omega, by omega, by omega⟩)))
                      | exact Or.inr (Or.inr (Or.inr (Or.inr (Or.inl ⟨by omega, by omega, by omega, by omega⟩))))
                      | exact Or.inr (Or.inr (Or.inr (Or.inr (Or.inr (Or.inl ⟨by omega, by omega, by omega, by omega⟩)))))
                      | exact Or.inr (Or.inr (Or.inr (Or.inr (Or.inr (Or.inr (Or.inl ⟨by omega, by omega, by omega⟩))))))
                      | exact Or.inr (Or.inr (Or.inr (Or.inr (Or.inr (Or.inr (Or.inr ⟨fun z => by rcases z with z | z | z | z | z | z | z | z | z | z | z <;> omega, by omega⟩))))))
                · exact absurd g (by simp [sx_cc])
              · simp only [sx_cc, Classical.not_not] at g
                conv => whnf
                refine ⟨fun g => ?_, fun g => ?_⟩
                · skip
                  conv => whnf
                  refine ⟨(by first | assumption | rfl), ?_⟩
                  try simp (disch := omega) only [Int.cast_ofNat_Int, up_s, up_a, up_i, mp_a, mp_ge]
                  try simp only [x0]
                  try simp only [x1]
                  try simp only [en]
                  try simp only [t0]
                  try simp only [lk_125]
                  conv => whnf
                  refine ⟨⟨by omega, by omega⟩, ?_⟩
                  conv => whnf
                  refine ⟨(by first | assumption | rfl), ?_⟩
                  try simp (disch := omega) only [Int.cast_ofNat_Int, up_s, up_a, up_i, mp_a, mp_ge]
                  try simp only [x0]
                  try simp only [x1]
                  try simp only [en]
                  try simp only [t0]
                  try simp only [lk_125]
                  conv => whnf
                  refine ⟨(by first | assumption | rfl), ?_⟩
                  try simp (disch := omega) only [Int.cast_ofNat_Int, up_s, up_a, up_i, mp_a, mp_ge]
                  try simp only [x0]
                  try simp only [x1]
                  try simp only [en]
                  try simp only [t0]
                  try simp only [lk_125]
                  conv => whnf
                  refine ⟨(by first | assumption | rfl), ?_⟩
                  try simp (disch := omega) only [Int.cast_ofNat_Int, up_s, up_a, up_i, mp_a, mp_ge]
                  try simp only [x0]
                  try simp only [x1]
                  try simp only [en]
                  try simp only [t0]
                  try simp only [lk_125]
                  conv => whnf
                  refine ⟨fun g => ?_, fun g => ?_⟩
                  · simp only [sx_cc, Classical.not_not] at g
                    conv => whnf
                    refine ⟨(by first | assumption | rfl), ?_⟩
                    try simp (disch := omega) only [Int.cast_ofNat_Int, up_s, up_a, up_i, mp_a, mp_ge]
                    try simp only [x0]
                    try simp only [x1]
                    try simp only [en]
                    try simp only [t0]
                    try simp only [lk_125]
                    conv => whnf
                    refine ⟨fun g => ?_, fun g => ?_⟩
                    · simp only [sx_cc, Classical.not_not] at g
                      conv => whnf
                      refine ⟨fun g => ?_, fun g => ?_⟩
                      · exact absurd g (by simp [sx_cc])
                      · skip
                        conv => whnf
                        refine ⟨(by first | assumption | rfl), ?_⟩
                        try simp (disch := omega) only [Int.cast_ofNat_Int, up_s, up_a, up_i, mp_a, mp_ge]
                        try simp only [x0]
                        try simp only [x1]
                        try simp only [en]
                        try simp only [t0]
                        try simp only [lk_125]
                        conv => whnf
                        refine ⟨rfl, ?_⟩
                        refine h _ (fun a j z9 => by unfold FRt at z9; repeat (first | rw [up_n (by omega)] | rfl)) (by repeat (first | rw [up_i (by decide)] | rfl)) ?_ ?_
                        · repeat rw [up_i (by decide)]
                          rw [up_s]
                          rw [e0]
                          first
                          | (rw [e1]; first | (rw [if_pos (by unfold fTwo; omega)]; omega) | rw [if_neg (by unfold fTwo; omega)])
                          | rw [if_neg (by unfold fTwo; omega)]
                        · rw [e0]
                          try rw [e1]
                          simp (disch := omega) only [up_s, up_i]
                          first
                          | exact Or.inl ⟨by omega, by omega, by omega, by omega⟩
                          | exact Or.inr (Or.inl ⟨by omega, by omega, by omega, by omega⟩)
                          | exact Or.inr (Or.inr (Or.inl ⟨by omega, by omega, by omega, by omega, by omega⟩))
                          | exact Or.inr (Or.inr (Or.inr (Or.inl ⟨by omega, by omega, by omega⟩)))
                          | exact Or.inr (Or.inr (Or.inr (Or.inr (Or.inl ⟨by omega, by omega, by omega, by omega⟩))))
                          | exact Or.inr (Or.inr (Or.inr (Or.inr (Or.inr (Or.inl ⟨by omega, by omega, by omega, by omega⟩)))))
                          | exact Or.inr (Or.inr (Or.inr (Or.inr (Or.inr (Or.inr (Or.inl ⟨by omega, by omega, by omega⟩))))))
                          | exact Or.inr (Or.inr (Or.inr (Or.inr (Or.inr (Or.inr (Or.inr ⟨fun z => by rcases z with z | z | z | z | z | z | z | z | z | z | z <;> omega, by omega⟩))))))
                    · simp only [sx_cc, Classical.not_not] at g
                      conv => whnf
                      refine ⟨fun g => ?_, fun g => ?_⟩
                      · exact absurd g (by simp [sx_cc])
                      · skip
                        conv => whnf
                        refine ⟨(by first | assumption | rfl), ?_⟩
                        try simp (disch := omega) only [Int.cast_ofNat_Int, up_s, up_a, up_i, mp_a, mp_ge]
                        try simp only [x0]
                        try simp only [x1]
                        try simp only [en]
                        try simp only [t0]
                        try simp only [lk_125]
                        conv => whnf
                        refine ⟨rfl, ?_⟩
                        refine h _ (fun a j z9 => by unfold FRt at z9; repeat (first | rw [up_n (by omega)] | rfl)) (by repeat (first | rw [up_i (by decide)] | rfl)) ?_ ?_
                        · repeat rw [up_i (by decide)]
                          rw [up_s]
                          rw [e0]
                          first
                          | (rw [e1]; first | (rw [if_pos (by unfold fTwo; omega)]; omega) | rw [if_neg (by unfold fTwo; omega)])
                          | rw [if_neg (by unfold fTwo; omega)]
                        · rw [e0]
                          try rw [e1]
                          simp (disch := omega) only [up_s, up_i]
                          first
                          | exact Or.inl ⟨by omega, by omega, by omega, by omega⟩
                          | exact Or.inr (Or.inl ⟨by omega, by omega, by omega, by omega⟩)
                          | exact Or.inr (Or.inr (Or.inl ⟨by omega, by omega, by omega, by omega, by omega⟩))
                          | exact Or.inr (Or.inr (Or.inr (Or.inl ⟨by omega, by omega, by omega⟩)))
                          | exact Or.inr (Or.inr (Or.inr (Or.inr (Or.inl ⟨by omega, by omega, by omega, by omega⟩))))
                          | exact Or.inr (Or.inr (Or.inr (Or.inr (Or.inr (Or.inl ⟨by omega, by omega, by omega, by omega⟩)))))
                          | exact Or.inr (Or.inr (Or.inr (Or.inr (Or.inr (Or.inr (Or.inl ⟨by omega, by omega, by omega⟩))))))
                          | exact Or.inr (Or.inr (Or.inr (Or.inr (Or.inr (Or.inr (Or.inr ⟨fun z => by rcases z with z | z | z | z | z | z | z | z | z | z | z <;> omega, by omega⟩))))))
                  · simp only [sx_cc, Classical.not_not] at g
                    conv => whnf
                    refine ⟨(by first | assumption | rfl), ?_⟩
                    try simp (disch := omega) only [Int.cast_ofNat_Int, up_s, up_a, up_i, mp_a, mp_ge]
                    try simp only [x0]
                    try simp only [x1]
                    try simp only [en]
                    try simp only [t0]
                    try simp only [lk_125]
                    conv => whnf
                    refine ⟨rfl, ?_⟩
                    refine h _ (fun a j z9 => by unfold FRt at z9; repeat (first | rw [up_n (by omega)] | rfl)) (by repeat (first | rw [up_i (by decide)] | rfl)) ?_ ?_
                    · repeat rw [up_i (by decide)]
                      rw [up_s]
                      rw [e0]
                      first
                      | (rw [e1]; first | (rw [if_pos (by unfold fTwo; omega)]; omega) | rw [if_neg (by unfold fTwo; omega)])
                      | rw [if_neg (by unfold fTwo; omega)]
                    · rw [e0]
                      try rw [e1]
                      simp (disch := omega) only [up_s, up_i]
                      first
                      | exact Or.inl ⟨by omega, by omega, by omega, by omega⟩
                      | exact Or.inr (Or.inl ⟨by omega, by omega, by omega, by omega⟩)
                      | exact Or.inr (Or.inr (Or.inl ⟨by omega, by omega, by omega, by omega, by omega⟩))
                      | exact Or.inr (Or.inr (Or.inr (Or.inl ⟨by omega, by omega, by omega⟩)))
                      | exact Or.inr (Or.inr (Or.inr (Or.inr (Or.inl ⟨by omega, by omega, by omega, by omega⟩))))
                      | exact Or.inr (Or.inr (Or.inr (Or.inr (Or.inr (Or.inl ⟨by omega, by omega, by omega, by omega⟩)))))
                      | exact Or.inr (Or.inr (Or.inr (Or.inr (Or.inr (Or.inr (Or.inl ⟨by omega, by omega, by omega⟩))))))
                      | exact Or.inr (Or.inr (Or.inr (Or.inr (Or.inr (Or.inr (Or.inr ⟨fun z => by rcases z with z | z | z | z | z | z | z | z | z | z | z <;> omega, by omega⟩))))))
                · exact absurd g (by simp [sx_cc])
    · simp only [sx_cc, Classical.not_not] at g
      conv => whnf
      refine ⟨(by first | assumption | rfl), ?_⟩
      try simp (disch := omega) only [Int.cast_ofNat_Int, up_s, up_a, up_i, mp_a, mp_ge]
      try simp only [x0]
      try simp only [x1]
      try simp only [en]
      try simp only [t0]
      try simp only [lk_125]
      conv => whnf
      refine ⟨fun g => ?_, fun g => ?_⟩
      · simp only [sx_cc, Classical.not_not] at g
        conv => whnf
        refine ⟨(by first | assumption | rfl), ?_⟩
        try simp (disch := omega) only [Int.cast_ofNat_Int, up_s, up_a, up_i, mp_a, mp_ge]
        try simp only [x0]
        try simp only [x1]
        try simp only [en]
        try simp only [t0]
        try simp only [lk_125]
        conv => whnf
        refine ⟨fun g => ?_, fun g => ?_⟩
        · simp only [sx_cc, Classical.not_not] at g
          conv => whnf
          refine ⟨fun g => ?_, fun g => ?_⟩
          · exact absurd g (by simp [sx_cc])
          · skip
            conv => whnf
            refine ⟨(by first | assumption | rfl), ?_⟩
            try simp (disch := omega) only [Int.cast_ofNat_Int, up_s, up_a, up_i, mp_a, mp_ge]
            try simp only [x0]
            try simp only [x1]
            try simp only [en]
            try simp only [t0]
            try simp only [lk_125]
            conv => whnf
            refine ⟨rfl, ?_⟩
            refine h _ (fun a j z9 => by unfold FRt at z9; repeat (first | rw [up_n (by omega)] | rfl)) (by repeat (first | rw [up_i (by decide)] | rfl)) ?_ ?_
            · repeat rw [up_i (by decide)]
              rw [up_s]
              rw [e0]
              first
              | (rw [e1]; first | (rw [if_pos (by unfold fTwo; omega)]; omega) | rw [if_neg (by unfold fTwo; omega)])
              | rw [if_neg (by unfold fTwo; omega)]
            · rw [e0]
              try rw [e1]
              simp (disch := omega) only [up_s, up_i]
              first
              | exact Or.inl ⟨by omega, by omega, by omega, by omega⟩
              | exact Or.inr (Or.inl ⟨by omega, by omega, by omega, by omega⟩)
              | exact Or.inr (Or.inr (Or.inl ⟨by omega, by omega, by omega, by omega, by omega⟩))
              | exact Or.inr (Or.inr (Or.inr (Or.inl ⟨by omega, by omega, by omega⟩)))
              | exact Or.inr (Or.inr (Or.inr (Or.inr (Or.inl ⟨by omega, by omega, by omega, by omega⟩))))
              | exact Or.inr (Or.inr (Or.inr (Or.inr (Or.inr (Or.inl ⟨by omega, by omega, by omega, by omega⟩)))))
              | exact Or.inr (Or.inr (Or.inr (Or.inr (Or.inr (Or.inr (Or.inl ⟨by omega, by omega, by omega⟩))))))
              | exact Or.inr (Or.inr (Or.inr (Or.inr (Or.inr (Or.inr (Or.inr ⟨fun z => by rcases z with z | z | z | z | z | z | z | z | z | z | z <;> omega, by omega⟩))))))
        · simp only [sx_cc, Classical.not_not] at g
          conv => whnf
          refine ⟨(by first | assumption | rfl), ?_⟩
          try simp (disch := omega) only [Int.cast_ofNat_Int, up_s, up_a, up_i, mp_a, mp_ge]
          try simp only [x0]
          try simp only [x1]
          try simp only [en]
          try simp only [t0]
          try simp only [lk_125]
          conv => whnf
          refine ⟨fun g => ?_, fun g => ?_⟩
          · simp only [sx_cc, Classical.not_not] at g
            conv => whnf
            refine ⟨fun g => ?_, fun g => ?_⟩
            · exact absurd g (by simp [sx_cc])
            · skip
              conv => whnf
              refine ⟨(by first | assumption | rfl), ?_⟩
              try simp (disch := omega) only [Int.cast_ofNat_Int, up_s, up_a, up_i, mp_a, mp_ge]
              try simp only [x0]
              try simp only [x1]
              try simp only [en]
              try simp only [t0]
              try simp only [lk_125]
              conv => whnf
              refine ⟨rfl, ?_⟩
              refine h _ (fun a j z9 => by unfold FRt at z9; repeat (first | rw [up_n (by omega)] | rfl)) (by repeat (first | rw [up_i (by decide)] | rfl)) ?_ ?_
              · repeat rw [up_i (by decide)]
                rw [up_s]
                rw [e0]
                first
                | (rw [e1]; first | (rw [if_pos (by unfold fTwo; omega)]; omega) | rw [if_neg (by unfold fTwo; omega)])
                | rw [if_neg (by unfold fTwo; omega)]
              · rw [e0]
                try rw [e1]
                simp (disch := omega) only [up_s, up_i]
                first
                | exact Or.inl ⟨by omega, by omega, by omega, by omega⟩
                | exact Or.inr (Or.inl ⟨by omega, by omega, by omega, by omega⟩)
                | exact Or.inr (Or.inr (Or.inl ⟨by omega, by omega, by omega, by omega, by omega⟩))
                | exact Or.inr (Or.inr (Or.inr (Or.inl ⟨by omega, by omega, by omega⟩)))
                | exact Or.inr (Or.inr (Or.inr (Or.inr (Or.inl ⟨by omega, by omega, by omega, by omega⟩))))
                | exact Or.inr (Or.inr (Or.inr (Or.inr (Or.inr (Or.inl ⟨by omega, by omega, by omega, by omega⟩)))))
                | exact Or.inr (Or.inr (Or.inr (Or.inr (Or.inr (Or.inr (Or.inl ⟨by omega, by omega, by omega⟩))))))
                | exact Or.inr (Or.inr (Or.inr (Or.inr (Or.inr (Or.inr (Or.inr ⟨fun z => by rcases z with z | z | z | z | z | z | z | z | z | z | z <;> omega, by omega⟩))))))
          · simp only [sx_cc, Classical.not_not] at g
            conv => whnf
            refine ⟨(by first | assumption | rfl), ?_⟩
            try simp (disch := omega) only [Int.cast_ofNat_Int, up_s, up_a, up_i, mp_a, mp_ge]
            try simp only [x0]
            try simp only [x1]
            try simp only [en]
            try simp only [t0]
            try simp only [lk_125]
            conv => whnf
            refine ⟨fun g => ?_, fun g => ?_⟩
            · simp only [sx_cc, Classical.not_not] at g
              conv => whnf
              refine ⟨fun g => ?_, fun g => ?_⟩
              · exact absurd g (by simp [sx_cc])
              · skip
                conv => whnf
                refine ⟨(by first | assumption | rfl), ?_⟩
                try simp (disch := omega) only [Int.cast_ofNat_Int, up_s, up_a, up_i, mp_a, mp_ge]
                try simp only [x0]
                try simp only [x1]
                try simp only [en]
                try simp only [t0]
                try simp only [lk_125]
                conv => whnf
                refine ⟨rfl, ?_⟩
                refine h _ (fun a j z9 => by unfold FRt at z9; repeat (first | rw [up_n (by omega)] | rfl)) (by repeat (first | rw [up_i (by decide)] | rfl)) ?_ ?_
                · repeat rw [up_i (by decide)]
                  rw [up_s]
                  rw [e0]
                  first
                  | (rw [e1]; first | (rw [if_pos (by unfold fTwo; omega)]; omega) | rw [if_neg (by unfold fTwo; omega)])
                  | rw [if_neg (by unfold fTwo; omega)]
                · rw [e0]
                  try rw [e1]
                  simp (disch := omega) only [up_s, up_i]
                  first
                  | exact Or.inl ⟨by omega, by omega, by omega, by omega⟩
                  | exact Or.inr (Or.inl ⟨by omega, by omega, by omega, by omega⟩)
                  | exact Or.inr (Or.inr (Or.inl ⟨by omega, by omega, by omega, by omega, by omega⟩))
                  | exact Or.inr (Or.inr (Or.inr (Or.inl ⟨by omega, by omega, by omega⟩)))
                  | exact Or.inr (Or.inr (Or.inr (Or.inr (Or.inl ⟨by omega, by omega, by omega, by omega⟩))))
                  | exact Or.inr (Or.inr (Or.inr (Or.inr (Or.inr (Or.inl ⟨by omega, by omega, by omega, by omega⟩)))))
                  | exact Or.inr (Or.inr (Or.inr (Or.inr (Or.inr (Or.inr (Or.inl ⟨by omega, by omega, by omega⟩))))))
                  | exact Or.inr (Or.inr (Or.inr (Or.inr (Or.inr (Or.inr (Or.inr ⟨fun z => by rcases z with z | z | z | z | z | z | z | z | z | z | z <;> omega, by omega⟩))))))
            · simp only [sx_cc, Classical.not_not] at g
              conv => whnf
              refine ⟨(by first | assumption | rfl), ?_⟩
              try simp (disch := omega) only [Int.cast_ofNat_Int, up_s, up_a, up_i, mp_a, mp_ge]
              try simp only [x0]
              try simp only [x1]
              try simp only [en]
              try simp only [t0]
              try simp only [lk_125]
              conv => whnf
              refine ⟨fun g => ?_, fun g => ?_⟩
              · simp only [sx_cc, Classical.not_not] at g
                conv => whnf
                refine ⟨fun g => ?_, fun g => ?_⟩
                · exact absurd g (by simp [sx_cc])
                · skip
                  conv => whnf
                  refine ⟨(by first | assumption | rfl), ?_⟩
                  try simp (disch := omega) only [Int.cast_ofNat_Int, up_s, up_a, up_i, mp_a, mp_ge]
                  try simp only [x0]
                  try simp only [x1]
                  try simp only [en]
                  try simp only [t0]
                  try simp only [lk_125]
                  conv => whnf
                  refine ⟨rfl, ?_⟩
                  refine h _ (fun a j z9 => by unfold FRt at z9; repeat (first | rw [up_n (by omega)] | rfl)) (by repeat (first | rw [up_i (by decide)] | rfl)) ?_ ?_
                  · repeat rw [up_i (by decide)]
                    rw [up_s]
                    rw [e0]
                    first
                    | (rw [e1]; first | (rw [if_pos (by unfold fTwo; omega)]; omega) | rw [if_neg (by unfold fTwo; omega)])
                    | rw [if_neg (by unfold fTwo; omega)]
                  · rw [e0]
                    try rw [e1]
                    simp (disch := omega) only [up_s, up_i]
                    first
                    | exact Or.inl ⟨by omega, by omega, by omega, by omega⟩
                    | exact Or.inr (Or.inl ⟨by omega, by omega, by omega, by omega⟩)
                    | exact Or.inr (Or.inr (Or.inl ⟨by omega, by omega, by omega, by omega, by omega⟩))
                    | exact Or.inr (Or.inr (Or.inr (Or.inl ⟨by omega, by omega, by omega⟩)))
                    | exact Or.inr (Or.inr (Or.inr (Or.inr (Or.inl ⟨by omega, by omega, by omega, by omega⟩))))
                    | exact Or.inr (Or.inr (Or.inr (Or.inr (Or.inr (Or.inl ⟨by omega, by omega, by omega, by omega⟩)))))
                    | exact Or.inr (Or.inr (Or.inr (Or.inr (Or.inr (Or.inr (Or.inl ⟨by omega, by omega, by omega⟩))))))
                    | exact Or.inr (Or.inr (Or.inr (Or.inr (Or.inr (Or.inr (Or.inr ⟨fun z => by rcases z with z | z | z | z | z | z | z | z | z | z | z <;> omega, by omega⟩))))))
              · simp only [sx_cc, Classical.not_not] at g
                conv => whnf
                refine ⟨(by first | assumption | rfl), ?_⟩
                try simp (disch := omega) only [Int.cast_ofNat_Int, up_s, up_a, up_i, mp_a, mp_ge]
                try simp only [x0]
                try simp only [x1]
                try simp only [en]
                try simp only [t0]
                try simp only [lk_125]
                conv => whnf
                refine ⟨fun g => ?_, fun g => ?_⟩
                · simp only [sx_cc, Classical.not_not] at g
                  conv => whnf
                  refine ⟨fun g => ?_, fun g => ?_⟩
                  · exact absurd g (by simp [sx_cc])
                  · skip
                    conv => whnf
                    refine ⟨(by first | assumption | rfl), ?_⟩
                    try simp (disch := omega) only [Int.cast_ofNat_Int, up_s, up_a, up_i, mp_a, mp_ge]
                    try simp only [x0]
                    try simp only [x1]
                    try simp only [en]
                    try simp only [t0]
                    try simp only [lk_125]
                    conv => whnf
                    refine ⟨rfl, ?_⟩
                    refine h _ (fun a j z9 => by unfold FRt at z9; repeat (first | rw [up_n (by omega)] | rfl)) (by repeat (first | rw [up_i (by decide)] | rfl)) ?_ ?_
                    · repeat rw [up_i (by decide)]
                      rw [up_s]
                      rw [e0]
                      first
                      | (rw [e1]; first | (rw [if_pos (by unfold fTwo; omega)]; omega) | rw [if_neg (by unfold fTwo; omega)])
                      | rw [if_neg (by unfold fTwo; omega)]
                    · rw [e0]
                      try rw [e1]
                      simp (disch := omega) only [up_s, up_i]
                      first
                      | exact Or.inl ⟨by omega, by omega, by omega, by omega⟩
                      | exact Or.inr (Or.inl ⟨by omega, by omega, by omega, by omega⟩)
                      | exact Or.inr (Or.inr (Or.inl ⟨by omega, by omega, by omega, by omega, by omega⟩))
                      | exact Or.inr (Or.inr (Or.inr (Or.inl ⟨by omega, by omega, by omega⟩)))
                      | exact Or.inr (Or.inr (Or.inr (Or.inr (Or.inl ⟨by omega, by omega, by omega, by omega⟩))))
                      | exact Or.inr (Or.inr (Or.inr (Or.inr (Or.inr (Or.inl ⟨by omega, by omega, by omega, by omega⟩)))))
                      | exact Or.inr (Or.inr (Or.inr (Or.inr (Or.inr (Or.inr (Or.inl ⟨by omega, by omega, by omega⟩))))))
                      | exact Or.inr (Or.inr (Or.inr (Or.inr (Or.inr (Or.inr (Or.inr ⟨fun z => by rcases z with z | z | z | z | z | z | z | z | z | z | z <;> omega, by omega⟩))))))
                · simp only [sx_cc, Classical.not_not] at g
                  conv => whnf
                  refine ⟨(by first | assumption | rfl), ?_⟩
                  try simp (disch := omega) only [Int.cast_ofNat_Int, up_s, up_a, up_i, mp_a, mp_ge]
                  try simp only [x0]
                  try simp only [x1]
                  try simp only [en]
                  try simp only [t0]
                  try simp only [lk_125]
                  conv => whnf
                  refine ⟨fun g => ?_, fun g => ?_⟩
                  · simp only [sx_cc, Classical.not_not] at g
                    conv => whnf
                    refine ⟨fun g => ?_, fun g => ?_⟩
                    · exact absurd g (by simp [sx_cc])
                    · skip
                      conv => whnf
                      refine ⟨(by first | assumption | rfl), ?_⟩
                      try simp (disch := omega) only [Int.cast_ofNat_Int, up_s, up_a, up_i, mp_a, mp_ge]
                      try simp only [x0]
                      try simp only [x1]
                      try simp only [en]
                      try simp only [t0]
                      try simp only [lk_125]
                      conv => whnf
                      refine ⟨rfl, ?_⟩
                      refine h _ (fun a j z9 => by unfold FRt at z9; repeat (first | rw [up_n (by omega)] | rfl)) (by repeat (first | rw [up_i (by decide)] | rfl)) ?_ ?_
                      · repeat rw [up_i (by decide)]
                        rw [up_s]
                        rw [e0]
                        first
                        | (rw [e1]; first | (rw [if_pos (by unfold fTwo; omega)]; omega) | rw [if_neg (by unfold fTwo; omega)])
                        | rw [if_neg (by unfold fTwo; omega)]
                      · rw [e0]
                        try rw [e1]
                        simp (disch := omega) only [up_s, up_i]
                        first
                        | exact Or.inl ⟨by omega, by omega, by omega, by omega⟩
                        | exact Or.inr (Or.inl ⟨by omega, by omega, by omega, by omega⟩)
                        | exact Or.inr (Or.inr (Or.inl ⟨by omega, by omega, by omega, by omega, by omega⟩))
                        | exact Or.inr (Or.inr (Or.inr (Or.inl ⟨by omega, by omega, by omega⟩)))
                        | exact Or.inr (Or.inr (Or.inr (Or.inr (Or.inl ⟨by omega, by omega, by omega, by omega⟩))))
                        | exact Or.inr (Or.inr (Or.inr (Or.inr (Or.inr (Or.inl ⟨by omega, by omega, by omega, by omega⟩)))))
                        | exact Or.inr (Or.inr (Or.inr (Or.inr (Or.inr (Or.inr (Or.inl ⟨by omega, by omega, by omega⟩))))))
                        | exact Or.inr (Or.inr (Or.inr (Or.inr (Or.inr (Or.inr (Or.inr ⟨fun z => by rcases z with z | z | z | z | z | z | z | z | z | z | z <;> omega, by omega⟩))))))
                  · simp only [sx_cc, Classical.not_not] at g
                    conv => whnf
                    refine ⟨(by first | assumption | rfl), ?_⟩
                    try simp (disch := omega) only [Int.cast_ofNat_Int, up_s, up_a, up_i, mp_a, mp_ge]
                    try simp only [x0]
                    try simp only [x1]
                    try simp only [en]
                    try simp only [t0]
                    try simp only [lk_125]
                    conv => whnf
                    refine ⟨fun g => ?_, fun g => ?_⟩
                    · simp only [sx_cc, Classical.not_not] at g
                      conv => whnf
                      refine ⟨fun g => ?_, fun g => ?_⟩
                      · exact absurd g (by simp [sx_cc])
                      · skip
                        conv => whnf
                        refine ⟨(by first | assumption | rfl), ?_⟩
                        try simp (disch := omega) only [Int.cast_ofNat_Int, up_s, up_a, up_i, mp_a, mp_ge]
                        try simp only [x0]
                        try simp only [x1]
                        try simp only [en]
                        try simp only [t0]
                        try simp only [lk_125]
                        conv => whnf
                        refine ⟨rfl, ?_⟩
                        refine h _ (fun a j z9 => by unfold FRt at z9; repeat (first | rw [up_n (by omega)] | rfl)) (by repeat (first | rw [up_i (by decide)] | rfl)) ?_ ?_
                        · repeat rw [up_i (by decide)]
                          rw [up_s]
                          rw [e0]
                          first
                          | (rw [e1]; first | (rw [if_pos (by unfold fTwo; omega)]; omega) | rw [if_neg (by unfold fTwo; omega)])
                          | rw [if_neg (by unfold fTwo; omega)]
                        · rw [e0]
                          try rw [e1]
                          simp (disch := omega) only [up_s, up_i]
                          first
                          | exact Or.inl ⟨by omega, by omega, by omega, by omega⟩
                          | exact Or.inr (Or.inl ⟨by omega, by omega, by omega, by omega⟩)
                          | exact Or.inr (Or.inr (Or.inl ⟨by omega, by omega, by omega, by omega, by omega⟩))
                          | exact Or.inr (Or.inr (Or.inr (Or.inl ⟨by omega, by omega, by omega⟩)))
                          | exact Or.inr (Or.inr (Or.inr (Or.inr (Or.inl ⟨by omega, by omega, by omega, by omega⟩))))
                          | exact Or.inr (Or.inr (Or.inr (Or.inr (Or.inr (Or.inl ⟨by omega, by omega, by omega, by omega⟩)))))
                          | exact Or.inr (Or.inr (Or.inr (Or.inr (Or.inr (Or.inr (Or.inl ⟨by omega, by omega, by omega⟩))))))
                          | exact Or.inr (Or.inr (Or.inr (Or.inr (Or.inr (Or.inr (Or.inr ⟨fun z => by rcases z with z | z | z | z | z | z | z | z | z | z | z <;> omega, by omega⟩))))))
                    · simp only [sx_cc, Classical.not_not] at g
                      conv => whnf
                      refine ⟨(by first | assumption | rfl), ?_⟩
                      try simp (disch := omega) only [Int.cast_ofNat_Int, up_s, up_a, up_i, mp_a, mp_ge]
                      try simp only [x0]
                      try simp only [x1]
                      try simp only [en]
                      try simp only [t0]
                      try simp only [lk_125]
                      conv => whnf
                      refine ⟨fun g => ?_, fun g => ?_⟩
                      · simp only [sx_cc, Classical.not_not] at g
                        conv => whnf
                        refine ⟨fun g => ?_, fun g => ?_⟩
                        · skip
                          conv => whnf
                          refine ⟨(by first | assumption | rfl), ?_⟩
                          try simp (disch := omega) only [Int.cast_ofNat_Int, up_s, up_a, up_i, mp_a, mp_ge]
                          try simp only [x0]
                          try simp only [x1]
                          try simp only [en]
                          try simp only [t0]
                          try simp only [lk_125]
                          conv => whnf
                          refine ⟨rfl, ?_⟩
                          refine h _ (fun a j z9 => by unfold FRt at z9; repeat (first | rw [up_n (by omega)] | rfl)) (by repeat (first | rw [up_i (by decide)] | rfl)) ?_ ?_
                          · repeat rw [up_i (by decide)]
                            rw [up_s]
                            rw [e0]
                            first
                            | (rw [e1]; first | (rw [if_pos (by unfold fTwo; omega)]; omega) | rw [if_neg (by unfold fTwo; omega)])
                            | rw [if_neg (by unfold fTwo; omega)]
                          · rw [e0]
                            try rw [e1]
                            simp (disch := omega) only [up_s, up_i]
                            first
                            | exact Or.inl ⟨by omega, by omega, by omega, by omega⟩
                            | exact Or.inr (Or.inl ⟨by omega, by omega, by omega, by omega⟩)
                            | exact Or.inr (Or.inr (Or.inl ⟨by omega, by omega, by omega, by omega, by omega⟩))
                            | exact Or.inr (Or.inr (Or.inr (Or.inl ⟨by omega, by omega, by omega⟩)))
                            | exact Or.inr (Or.inr (Or.inr (Or.inr (Or.inl ⟨by omega, by omega, by omega, by omega⟩))))
                            | exact Or.inr (Or.inr (Or.inr (Or.inr (Or.inr (Or.inl ⟨by omega, by omega, by omega, by omega⟩)))))
                            | exact Or.inr (Or.inr (Or.inr (Or.inr (Or.inr (Or.inr (Or.inl ⟨by omega, by omega, by omega⟩))))))
                            | exact Or.inr (Or.inr (Or.inr (Or.inr (Or.inr (Or.inr (Or.inr ⟨fun z => by rcases z with z | z | z | z | z | z | z | z | z | z | z <;> omega, by omega⟩))))))
                        · exact absurd g (by simp [sx_cc])
                      · simp only [sx_cc, Classical.not_not] at g
                        conv => whnf
                        refine ⟨fun g => ?_, fun g => ?_⟩
                        · exact absurd g (by simp [sx_cc])
                        · skip
                          conv => whnf
                          refine ⟨(by first | assumption | rfl), ?_⟩
                          try simp (disch := omega) only [Int.cast_ofNat_Int, up_s, up_a, up_i, mp_a, mp_ge]
                          try simp only [x0]
                          try simp only [x1]
                          try simp only [en]
                          try simp only [t0]
                          try simp only [lk_125]
                          conv => whnf
                          refine ⟨rfl, ?_⟩
                          refine h _ (fun a j z9 => by unfold FRt at z9; repeat (first | rw [up_n (by omega)] | rfl)) (by repeat (first | rw [up_i (by decide)] | rfl)) ?_ ?_
                          · repeat rw [up_i (by decide)]
                            rw [up_s]
                            rw [e0]
                            first
                            | (rw [e1]; first | (rw [if_pos (by unfold fTwo; omega)]; omega) | rw [if_neg (by unfold fTwo; omega)])
                            | rw [if_neg (by unfold fTwo; omega)]
                          · rw [e0]
                            try rw [e1]
                            simp (disch := omega) only [up_s, up_i]
                            first
                            | exact Or.inl ⟨by omega, by omega, by omega, by omega⟩
                            | exact Or.inr (Or.inl ⟨by omega, by omega, by omega, by omega⟩)
                            | exact Or.inr (Or.inr (Or.inl ⟨by omega, by omega, by omega, by omega, by omega⟩))
                            | exact Or.inr (Or.inr (Or.inr (Or.inl ⟨by omega, by omega, by omega⟩)))
                            | exact Or.inr (Or.inr (Or.inr (Or.inr (Or.inl ⟨by omega, by omega, by omega, by omega⟩))))
                            | exact Or.inr (Or.inr (Or.inr (Or.inr (Or.inr (Or.inl ⟨by omega, by omega, by omega, by omega⟩)))))
                            | exact Or.inr (Or.inr (Or.inr (Or.inr (Or.inr (Or.inr (Or.inl ⟨by omega, by omega, by omega⟩))))))
                            | exact Or.inr (Or.inr (Or.inr (Or.inr (Or.inr (Or.inr (Or.inr ⟨fun z => by rcases z with z | z | z | z | z | z | z | z | z | z | z <;> omega, by omega⟩))))))
      · simp only [sx_cc, Classical.not_not] at g
        conv => whnf
        refine ⟨(by first | assumption | rfl), ?_⟩
        try simp (disch := omega) only [Int.cast_ofNat_Int, up_s, up_a, up_i, mp_a, mp_ge]
        try simp only [x0]
        try simp only [x1]
        try simp only [en]
        try simp only [t0]
        try simp only [lk_125]
        conv => whnf
        refine ⟨(by first | assumption | rfl), ?_⟩
        try simp (disch := omega) only [Int.cast_ofNat_Int, up_s, up_a, up_i, mp_a, mp_ge]
        try simp only [x0]
        try simp only [x1]
        try simp only [en]
        try simp only [t0]
        try simp only [lk_125]
        conv => whnf
        refine ⟨fun g => ?_, fun g => ?_⟩
        · simp only [sx_cc, Classical.not_not] at g
          have e1 : fTx tx n9 (y + 1) = 0 := fTx_n (by omega)
          conv => whnf
          refine ⟨(by first | assumption | rfl), ?_⟩
          try simp (disch := omega) only [Int.cast_ofNat_Int, up_s, up_a, up_i, mp_a, mp_ge]
          try simp only [x0]
          try simp only [x1]
          try simp only [en]
          try simp only [t0]
          try simp only [lk_125]
          conv => whnf
          refine ⟨fun g => ?_, fun g => ?_⟩
          · simp only [sx_cc, Classical.not_not] at g
            conv => whnf
            refine ⟨(by first | assumption | rfl), ?_⟩
            try simp (disch := omega) only [Int.cast_ofNat_Int, up_s, up_a, up_i, mp_a, mp_ge]
            try simp only [x0]
            try simp only [x1]
            try simp only [en]
            try simp only [t0]
            try simp only [lk_125]
            conv => whnf
            refine ⟨fun g => ?_, fun g => ?_⟩
            · simp only [sx_cc, Classical.not_not] at g
              conv => whnf
              refine ⟨fun g => ?_, fun g => ?_⟩
              · exact absurd g (by simp [sx_cc])
              · skip
                conv => whnf
                refine ⟨fun g => ?_, fun g => ?_⟩
                · skip
                  conv => whnf
                  refine ⟨(by first | assumption | rfl), ?_⟩
                  try simp (disch := omega) only [Int.cast_ofNat_Int, up_s, up_a, up_i, mp_a, mp_ge]
                  try simp only [x0]
                  try simp only [x1]
                  try simp only [en]
                  try simp only [t0]
                  try simp only [lk_125]
                  conv => whnf
                  refine ⟨(by first | assumption | rfl), ?_⟩
                  try simp (disch := omega) only [Int.cast_ofNat_Int, up_s, up_a, up_i, mp_a, mp_ge]
                  try simp only [x0]
                  try simp only [x1]
                  try simp only [en]
                  try simp only [t0]
                  try simp only [lk_125]
                  conv => whnf
                  refine ⟨fun g => ?_, fun g => ?_⟩
                  · simp only [sx_cc, Classical.not_not] at g
                    conv => whnf
                    refine ⟨(by first | assumption | rfl), ?_⟩
                    try simp (disch := omega) only [Int.cast_ofNat_Int, up_s, up_a, up_i, mp_a, mp_ge]
                    try simp only [x0]
                    try simp only [x1]
                    try simp only [en]
                    try simp only [t0]
                    try simp only [lk_125]
                    conv => whnf
                    refine ⟨fun g => ?_, fun g => ?_⟩
                    · simp only [sx_cc, Classical.not_not] at g
                      conv => whnf
                      refine ⟨fun g => ?_, fun g => ?_⟩
                      · skip
                        conv => whnf
                        refine ⟨(by first | assumption | rfl), ?_⟩
                        try simp (disch := omega) only [Int.cast_ofNat_Int, up_s, up_a, up_i, mp_a, mp_ge]
                        try simp only [x0]
                        try simp only [x1]
                        try simp only [en]
                        try simp only [t0]
                        try simp only [lk_125]
                        conv => whnf
                        refine ⟨rfl, ?_⟩
                        refine h _ (fun a j z9 => by unfold FRt at z9; repeat (first | rw [up_n (by omega)] | rfl)) (by repeat (first | rw [up_i (by decide)] | rfl)) ?_ ?_
                        · repeat rw [up_i (by decide)]
                          rw [up_s]
                          rw [e0]
                          first
                          | (rw [e1]; first | (rw [if_pos (by unfold fTwo; omega)]; omega) | rw [if_neg (by unfold fTwo; omega)])
                          | rw [if_neg (by unfold fTwo; omega)]
                        · rw [e0]
                          try rw [e1]
                          simp (disch := omega) only [up_s, up_i]
                          first
                          | exact Or.inl ⟨by omega, by omega, by omega, by omega⟩
                          | exact Or.inr (Or.inl ⟨by omega, by omega, by omega, by omega⟩)
                          | exact Or.inr (Or.inr (Or.inl ⟨by omega, by omega, by omega, by omega, by omega⟩))
                          | exact Or.inr (Or.inr (Or.inr (Or.inl ⟨by omega, by omega, by omega⟩)))
                          | exact Or.inr (Or.inr (Or.inr (Or.inr (Or.inl ⟨by omega, by omega, by omega, by omega⟩))))
                          | exact Or.inr (Or.inr (Or.inr (Or.inr (Or.inr (Or.inl ⟨by omega, by omega, by omega, by omega⟩)))))
                          | exact Or.inr (Or.inr (Or.inr (Or.inr (Or.inr (Or.inr (Or.inl ⟨by omega, by omega, by omega⟩))))))
                          | exact Or.inr (Or.inr (Or.inr (Or.inr (Or.inr (Or.inr (Or.inr ⟨fun z => by rcases z with z | z | z | z | z | z | z | z | z | z | z <;> omega, by omega⟩))))))
                      · exact absurd g (by simp [sx_cc])
                    · simp only [sx_cc, Classical.not_not] at g
                      conv => whnf
                      refine ⟨fun g => ?_, fun g => ?_⟩
                      · skip
                        conv => whnf
                        refine ⟨fun g => ?_, fun g => ?_⟩
                        · skip
                          conv => whnf
                          refine ⟨(by first | assumption | rfl), ?_⟩
                          try simp (disch := omega) only [Int.cast_ofNat_Int, up_s, up_a, up_i, mp_a, mp_ge]
                          try simp only [x0]
                          try simp only [x1]
                          try simp only [en]
                          try simp only [t0]
                          try simp only [lk_125]
                          conv => whnf
                          refine ⟨rfl, ?_⟩
                          refine h _ (fun a j z9 => by unfold FRt at z9; repeat (first | rw [up_n (by omega)] | rfl)) (by repeat (first | rw [up_i (by decide)] | rfl)) ?_ ?_
                          · repeat rw [up_i (by decide)]
                            rw [up_s]
                            rw [e0]
                            first
                            | (rw [e1]; first | (rw [if_pos (by unfold fTwo; omega)]; omega) | rw [if_neg (by unfold fTwo; omega)])
                            | rw [if_neg (by unfold fTwo; omega)]
                          · rw [e0]
                            try rw [e1]
                            simp (disch := omega) only [up_s, up_i]
                            first
                            | exact Or.inl ⟨by omega, by omega, by omega, by omega⟩
                            | exact Or.inr (Or.inl ⟨by omega, by omega, by omega, by omega⟩)
                            | exact Or.inr (Or.inr (Or.inl ⟨by omega, by omega, by omega, by omega, by omega⟩))
                            | exact Or.inr (Or.inr (Or.inr (Or.inl ⟨by omega, by omega, by omega⟩)))
                            | exact Or.inr (Or.inr (Or.inr (Or.inr (Or.inl ⟨by omega, by omega, by omega, by omega⟩))))
                            | exact Or.inr (Or.inr (Or.inr (Or.inr (Or.inr (Or.inl ⟨by omega, by omega, by omega, by omega⟩)))))
                            | exact Or.inr (Or.inr (Or.inr (Or.inr (Or.inr (Or.inr (Or.inl ⟨by omega, by omega, by omega⟩))))))
                            | exact Or.inr (Or.inr (Or.inr (Or.inr (Or.inr (Or.inr (Or.inr ⟨fun z => by rcases z with z | z | z | z | z | z | z | z | z | z | z <;> omega, by omega⟩))))))
                        · exact absurd g (by simp [sx_cc])
                      · exact absurd g (by simp [sx_cc])
                  · simp only [sx_cc, Classical.not_not] at g
                    conv => whnf
                    refine ⟨(by first | assumption | rfl), ?_⟩
                    try simp (disch := omega) only [Int.cast_ofNat_Int, up_s, up_a, up_i, mp_a, mp_ge]
                    try simp only [x0]
                    try simp only [x1]
                    try simp only [en]
                    try simp only [t0]
                    try simp only [lk_125]
                    conv => whnf
                    refine ⟨rfl, ?_⟩
                    refine h _ (fun a j z9 => by unfold FRt at z9; repeat (first | rw [up_n (by omega)] | rfl)) (by repeat (first | rw [up_i (by decide)] | rfl)) ?_ ?_
                    · repeat rw [up_i (by decide)]
                      rw [up_s]
                      rw [e0]
                      first
                      | (rw [e1]; first | (rw [if_pos (by unfold fTwo; omega)]; omega) | rw [if_neg (by unfold fTwo; omega)])
                      | rw [if_neg (by unfold fTwo; omega)]
                    · rw [e0]
                      try rw [e1]
                      simp (disch := omega) only [up_s, up_i]
                      first
                      | exact Or.inl ⟨by omega, by omega, by omega, by omega⟩
                      | exact Or.inr (Or.inl ⟨by omega, by omega, by omega, by omega⟩)
                      | exact Or.inr (Or.inr (Or.inl ⟨by omega, by omega, by omega, by omega, by omega⟩))
                      | exact Or.inr (Or.inr (Or.inr (Or.inl ⟨by omega, by omega, by omega⟩)))
                      | exact Or.inr (Or.inr (Or.inr (Or.inr (Or.inl ⟨by omega, by omega, by omega, by omega⟩))))
                      | exact Or.inr (Or.inr (Or.inr (Or.inr (Or.inr (Or.inl ⟨by omega, by omega, by omega, by omega⟩)))))
                      | exact Or.inr (Or.inr (Or.inr (Or.inr (Or.inr (Or.inr (Or.inl ⟨by omega, by omega, by omega⟩))))))
                      | exact Or.inr (Or.inr (Or.inr (Or.inr (Or.inr (Or.inr (Or.inr ⟨fun z => by rcases z with z | z | z | z | z | z | z | z | z | z | z <;> omega, by omega⟩))))))
                · exact absurd g (by simp [sx_cc])
            · simp only [sx_cc, Classical.not_not] at g
              conv => whnf
              refine ⟨fun g => ?_, fun g => ?_⟩
              · skip
                conv => whnf
                refine ⟨fun g => ?_, fun g => ?_⟩
                · exact absurd g (by simp [sx_cc])
                · skip
                  conv => whnf
                  refine ⟨fun g => ?_, fun g => ?_⟩
                  · skip
                    conv => whnf
                    refine ⟨(by first | assumption | rfl), ?_⟩
                    try simp (disch := omega) only [Int.cast_ofNat_Int, up_s, up_a, up_i, mp_a, mp_ge]
                    try simp only [x0]
                    try simp only [x1]
                    try simp only [en]
                    try simp only [t0]
                    try simp only [lk_125]
                    conv => whnf
                    refine ⟨(by first | assumption | rfl), ?_⟩
                    try simp (disch := omega) only [Int.cast_ofNat_Int, up_s, up_a, up_i, mp_a, mp_ge]
                    try simp only [x0]
                    try simp only [x1]
                    try simp only [en]
                    try simp only [t0]
                    try simp only [lk_125]
                    conv => whnf
                    refine ⟨fun g => ?_, fun g => ?_⟩
                    · simp only [sx_cc, Classical.not_not] at g
                      conv => whnf
                      refine ⟨(by first | assumption | rfl), ?_⟩
                      try simp (disch := omega) only [Int.cast_ofNat_Int, up_s, up_a, up_i, mp_a, mp_ge]
                      try simp only [x0]
                      try simp only [x1]
                      try simp only [en]
                      try simp only [t0]
                      try simp only [lk_125]
                      conv => whnf
                      refine ⟨fun g => ?_, fun g => ?_⟩
                      · simp only [sx_cc, Classical.not_not] at g
                        conv => whnf
                        refine ⟨fun g => ?_, fun g => ?_⟩
                        · skip
                          conv => whnf
                          refine ⟨(by first | assumption | rfl), ?_⟩
                          try simp (disch := omega) only [Int.cast_ofNat_Int, up_s, up_a, up_i, mp_a, mp_ge]
                          try simp only [x0]
                          try simp only [x1]
                          try simp only [en]
                          try simp only [t0]
                          try simp only [lk_125]
                          conv => whnf
                          refine ⟨rfl, ?_⟩
                          refine h _ (fun a j z9 => by unfold FRt at z9; repeat (first | rw [up_n (by omega)] | rfl)) (by repeat (first | rw [up_i (by decide)] | rfl)) ?_ ?_
                          · repeat rw [up_i (by decide)]
                            rw [up_s]
                            rw [e0]
                            first
                            | (rw [e1]; first | (rw [if_pos (by unfold fTwo; omega)]; omega) | rw [if_neg (by unfold fTwo; omega)])
                            | rw [if_neg (by unfold fTwo; omega)]
                          · rw [e0]
                            try rw [e1]
                            simp (disch := omega) only [up_s, up_i]
                            first
                            | exact Or.inl ⟨by omega, by omega, by omega, by omega⟩
                            | exact Or.inr (Or.inl ⟨by omega, by omega, by omega, by omega⟩)
                            | exact Or.inr (Or.inr (Or.inl ⟨by omega, by omega, by omega, by omega, by omega⟩))
                            | exact Or.inr (Or.inr (Or.inr (Or.inl ⟨by omega, by omega, by omega⟩)))
                            | exact Or.inr (Or.inr (Or.inr (Or.inr (Or.inl ⟨by omega, by omega, by omega, by omega⟩))))
                            | exact Or.inr (Or.inr (Or.inr (Or.inr (Or.inr (Or.inl ⟨by omega, by omega, by omega, by omega⟩)))))
                            | exact Or.inr (Or.inr (Or.inr (Or.inr (Or.inr (Or.inr (Or.inl ⟨by omega, by omega, by omega⟩))))))
                            | exact Or.inr (Or.inr (Or.inr (Or.inr (Or.inr (Or.inr (Or.inr ⟨fun z => by rcases z with z | z | z | z | z | z | z | z | z | z | z <;> omega, by omega⟩))))))
                        · exact absurd g (by simp [sx_cc])
                      · simp only [sx_cc, Classical.not_not] at g
                        conv => whnf
                        refine ⟨fun g => ?_, fun g => ?_⟩
                        · skip
                          conv => whnf
                          refine ⟨fun g => ?_, fun g => ?_⟩
                          · skip
                            conv => whnf
                            refine ⟨(by first | assumption | rfl), ?_⟩
                            try simp (disch := omega) only [Int.cast_ofNat_Int, up_s, up_a, up_i, mp_a, mp_ge]
                            try simp only [x0]
                            try simp only [x1]
                            try simp only [en]
                            try simp only [t0]
                            try simp only [lk_125]
                            conv => whnf
                            refine ⟨rfl, ?_⟩
                            refine h _ (fun a j z9 => by unfold FRt at z9; repeat (first | rw [up_n (by omega)] | rfl)) (by repeat (first | rw [up_i (by decide)] | rfl)) ?_ ?_
                            · repeat rw [up_i (by decide)]
                              rw [up_s]
                              rw [e0]
                              first
                              | (rw [e1]; first | (rw [if_pos (by unfold fTwo; omega)]; omega) | rw [if_neg (by unfold fTwo; omega)])
                              | rw [if_neg (by unfold fTwo; omega)]
                            · rw [e0]
                              try rw [e1]
                              simp (disch := omega) only [up_s, up_i]
                              first
                              | exact Or.inl ⟨by omega, by omega, by omega, by omega⟩
                              | exact Or.inr (Or.inl ⟨by omega, by omega, by omega, by omega⟩)
                              | exact Or.inr (Or.inr (Or.inl ⟨by omega, by omega, by omega, by omega, by omega⟩))
                              | exact Or.inr (Or.inr (Or.inr (Or.inl ⟨by omega, by omega, by omega⟩)))
                              | exact Or.inr (Or.inr (Or.inr (Or.inr (Or.inl ⟨by omega, by omega, by omega, by omega⟩))))
                              | exact Or.inr (Or.inr (Or.inr (Or.inr (Or.inr (Or.inl ⟨by omega, by omega, by omega, by omega⟩)))))
                              | exact Or.inr (Or.inr (Or.inr (Or.inr (Or.inr (Or.inr (Or.inl ⟨by omega, by omega, by omega⟩))))))
                              | exact Or.inr (Or.inr (Or.inr (Or.inr (Or.inr (Or.inr (Or.inr ⟨fun z => by rcases z with z | z | z | z | z | z | z | z | z | z | z <;> omega, by omega⟩))))))
                          · exact absurd g (by simp [sx_cc])
                        · exact absurd g (by simp [sx_cc])
                    · simp only [sx_cc, Classical.not_not] at g
                      conv => whnf
                      refine ⟨(by first | assumption | rfl), ?_⟩
                      try simp (disch := omega) only [Int.cast_ofNat_Int, up_s, up_a, up_i, mp_a, mp_ge]
                      try simp only [x0]
                      try simp only [x1]
                      try simp only [en]
                      try simp only [t0]
                      try simp only [lk_125]
                      conv => whnf
                      refine ⟨rfl, ?_⟩
                      refine h _ (fun a j z9 => by unfold FRt at z9; repeat (first | rw [up_n (by omega)] | rfl)) (by repeat (first | rw [up_i (by decide)] | rfl)) ?_ ?_
                      · repeat rw [up_i (by decide)]
                        rw [up_s]
                        rw [e0]
                        first
                        | (rw [e1]; first | (rw [if_pos (by unfold fTwo; omega)]; omega) | rw [if_neg (by unfold fTwo; omega)])
                        | rw [if_neg (by unfold fTwo; omega)]
                      · rw [e0]
                        try rw [e1]
                        simp (disch := omega) only [up_s, up_i]
                        first
                        | exact Or.inl ⟨by omega, by omega, by omega, by omega⟩
                        | exact Or.inr (Or.inl ⟨by omega, by omega, by omega, by omega⟩)
                        | exact Or.inr (Or.inr (Or.inl ⟨by omega, by omega, by omega, by omega, by omega⟩))
                        | exact Or.inr (Or.inr (Or.inr (Or.inl ⟨by omega, by omega, by omega⟩)))
                        | exact Or.inr (Or.inr (Or.inr (Or.inr (Or.inl ⟨by omega, by omega, by omega, by omega⟩))))
                        | exact Or.inr (Or.inr (Or.inr (Or.inr (Or.inr (Or.inl ⟨by omega, by omega, by omega, by omega⟩)))))
                        | exact Or.inr (Or.inr (Or.inr (Or.inr (Or.inr (Or.inr (Or.inl ⟨by omega, by omega, by omega⟩))))))
                        | exact Or.inr (Or.inr (Or.inr (Or.inr (Or.inr (Or.inr (Or.inr ⟨fun z => by rcases z with z | z | z | z | z | z | z | z | z | z | z <;> omega, by omega⟩))))))
                  · exact absurd g (by simp [sx_cc])
              · exact absurd g (by simp [sx_cc])
          · simp only [sx_cc, Classical.not_not] at g
            conv => whnf
            refine ⟨fun g => ?_, fun g => ?_⟩
            · skip
              conv => whnf
              refine ⟨(by first | assumption | rfl), ?_⟩
              try simp (disch := omega) only [Int.cast_ofNat_Int, up_s, up_a, up_i, mp_a, mp_ge]
              try simp only [x0]
              try simp only [x1]
              try simp only [en]
              try simp only [t0]
              try simp only [lk_125]
              conv => whnf
              refine ⟨fun g => ?_, fun g => ?_⟩
              · simp only [sx_cc, Classical.not_not] at g
                conv => whnf
                refine ⟨fun g => ?_, fun g => ?_⟩
                · exact absurd g (by simp [sx_cc])
                · skip
                  conv => whnf
                  refine ⟨fun g => ?_, fun g => ?_⟩
                  · skip
                    conv => whnf
                    refine ⟨(by first | assumption | rfl), ?_⟩
                    try simp (disch := omega) only [Int.cast_ofNat_Int, up_s, up_a, up_i, mp_a, mp_ge]
                    try simp only [x0]
                    try simp only [x1]
                    try simp only [en]
                    try simp only [t0]
                    try simp only [lk_125]
                    conv => whnf
                    refine ⟨(by first | assumption | rfl), ?_⟩
                    try simp (disch := omega) only [Int.cast_ofNat_Int, up_s, up_a, up_i, mp_a, mp_ge]
                    try simp only [x0]
                    try simp only [x1]
                    try simp only [en]
                    try simp only [t0]
                    try simp only [lk_125]
                    conv => whnf
                    refine ⟨fun g => ?_, fun g => ?_⟩
                    · simp only [sx_cc, Classical.not_not] at g
                      conv => whnf
                      refine ⟨(by first | assumption | rfl), ?_⟩
                      try simp (disch := omega) only [Int.cast_ofNat_Int, up_s, up_a, up_i, mp_a, mp_ge]
                      try simp only [x0]
                      try simp only [x1]
                      try simp only [en]
                      try simp only [t0]
                      try simp only [lk_125]
                      conv => whnf
                      refine ⟨fun g => ?_, fun g => ?_⟩
                      · simp only [sx_cc, Classical.not_not] at g
                        conv => whnf
                        refine ⟨fun g => ?_, fun g => ?_⟩
                        · skip
                          conv => whnf
                          refine ⟨(by first | assumption | rfl), ?_⟩
                          try simp (disch := omega) only [Int.cast_ofNat_Int, up_s, up_a, up_i, mp_a, mp_ge]
                          try simp only [x0]
                          try simp only [x1]
                          try simp only [en]
                          try simp only [t0]
                          try simp only [lk_125]
                          conv => whnf
                          refine ⟨rfl, ?_⟩
                          refine h _ (fun a j z9 => by unfold FRt at z9; repeat (first | rw [up_n (by omega)] | rfl)) (by repeat (first | rw [up_i (by decide)] | rfl)) ?_ ?_
                          · repeat rw [up_i (by decide)]
                            rw [up_s]
                            rw [e0]
                            first
                            | (rw [e1]; first | (rw [if_pos (by unfold fTwo; omega)]; omega) | rw [if_neg (by unfold fTwo; omega)])
                            | rw [if_neg (by unfold fTwo; omega)]
                          · rw [e0]
                            try rw [e1]
                            simp (disch := omega) only [up_s, up_i]
                            first
                            | exact Or.inl ⟨by omega, by omega, by omega, by omega⟩
                            | exact Or.inr (Or.inl ⟨by omega, by omega, by omega, by omega⟩)
                            | exact Or.inr (Or.inr (Or.inl ⟨by omega, by omega, by omega, by omega, by omega⟩))
                            | exact Or.inr (Or.inr (Or.inr (Or.inl ⟨by omega, by omega, by omega⟩)))
                            | exact Or.inr (Or.inr (Or.inr (Or.inr (Or.inl ⟨by omega, by omega, by omega, by omega⟩))))
                            | exact Or.inr (Or.inr (Or.inr (Or.inr (Or.inr (Or.inl ⟨by omega, by omega, by omega, by omega⟩)))))
                            | exact Or.inr (Or.inr (Or.inr (Or.inr (Or.inr (Or.inr (Or.inl ⟨by omega, by omega, by omega⟩))))))
                            | exact Or.inr (Or.inr (Or.inr (Or.inr (Or.inr (Or.inr (Or.inr ⟨fun z => by rcases z with z | z | z | z | z | z | z | z | z | z | z <;> omega, by omega⟩))))))
                        · exact absurd g (by simp [sx_cc])
                      · simp only [sx_cc, Classical.not_not] at g
                        conv => whnf
                        refine ⟨fun g => ?_, fun g => ?_⟩
                        · skip
                          conv => whnf
                          refine ⟨fun g => ?_, fun g => ?_⟩
                          · skip
                            conv => whnf
                            refine ⟨(by first | assumption | rfl), ?_⟩
                            try simp (disch := omega) only [Int.cast_ofNat_Int, up_s, up_a, up_i, mp_a, mp_ge]
                            try simp only [x0]
                            try simp only [x1]
                            try simp only [en]
                            try simp only [t0]
                            try simp only [lk_125]
                            conv => whnf
                            refine ⟨rfl, ?_⟩
                            refine h _ (fun a j z9 => by unfold FRt at z9; repeat (first | rw [up_n (by omega)] | rfl)) (by repeat (first | rw [up_i (by decide)] | rfl)) ?_ ?_
                            · repeat rw [up_i (by decide)]
                              rw [up_s]
                              rw [e0]
                              first
                              | (rw [e1]; first | (rw [if_pos (by unfold fTwo; omega)]; omega) | rw [if_neg (by unfold fTwo; omega)])
                              | rw [if_neg (by unfold fTwo; omega)]
                            · rw [e0]
                              try rw [e1]
                              simp (disch := omega) only [up_s, up_i]
                              first
                              | exact Or.inl ⟨by omega, by omega, by omega, by omega⟩
                              | exact Or.inr (Or.inl ⟨by omega, by omega, by omega, by omega⟩)
                              | exact Or.inr (Or.inr (Or.inl ⟨by omega, by omega, by omega, by omega, by omega⟩))
                              | exact Or.inr (Or.inr (Or.inr (Or.inl ⟨by omega, by omega, by omega⟩)))
                              | exact Or.inr (Or.inr (Or.inr (Or.inr (Or.inl ⟨by omega, by omega, by omega, by omega⟩))))
                              | exact Or.inr (Or.inr (Or.inr (Or.inr (Or.inr (Or.inl ⟨by omega, by omega, by omega, by omega⟩)))))
                              | exact Or.inr (Or.inr (Or.inr (Or.inr (Or.inr (Or.inr (Or.inl ⟨by omega, by omega, by omega⟩))))))
                              | exact Or.inr (Or.inr (Or.inr (Or.inr (Or.inr (Or.inr (Or.inr ⟨fun z => by rcases z with z | z | z | z | z | z | z | z | z | z | z <;> omega, by omega⟩))))))
                          · exact absurd g (by simp [sx_cc])
                        · exact absurd g (by simp [sx_cc])
                    · simp only [sx_cc, Classical.not_not] at g
                      conv => whnf
                      refine ⟨(by first | assumption | rfl), ?_⟩
                      try simp (disch := omega) only [Int.cast_ofNat_Int, up_s, up_a, up_i, mp_a, mp_ge]
                      try simp only [x0]
                      try simp only [x1]
                      try simp only [en]
                      try simp only [t0]
                      try simp only [lk_125]
                      conv => whnf
                      refine ⟨rfl, ?_⟩
                      refine h _ (fun a j z9 => by unfold FRt at z9; repeat (first | rw [up_n (by omega)] | rfl)) (by repeat (first | rw [up_i (by decide)] | rfl)) ?_ ?_
                      · repeat rw [up_i (by decide)]
                        rw [up_s]
                        rw [e0]
                        first
                        | (rw [e1]; first | (rw [if_pos (by unfold fTwo; omega)]; omega) | rw [if_neg (by unfold fTwo; omega)])
                        | rw [if_neg (by unfold fTwo; omega)]
                      · rw [e0]
                        try rw [e1]
                        simp (disch := omega) only [up_s, up_i]
                        first
                        | exact Or.inl ⟨by omega, by omega, by omega, by omega⟩
                        | exact Or.inr (Or.inl ⟨by omega, by omega, by omega, by omega⟩)
                        | exact Or.inr (Or.inr (Or.inl ⟨by omega, by omega, by omega, by omega, by omega⟩))
                        | exact Or.inr (Or.inr (Or.inr (Or.inl ⟨by omega, by omega, by omega⟩)))
                        | exact Or.inr (Or.inr (Or.inr (Or.inr (Or.inl ⟨by omega, by omega, by omega, by omega⟩))))
                        | exact Or.inr (Or.inr (Or.inr (Or.inr (Or.inr (Or.inl ⟨by omega, by omega, by omega, by omega⟩)))))
                        | exact Or.inr (Or.inr (Or.inr (Or.inr (Or.inr (Or.inr (Or.inl ⟨by omega, by omega, by omega⟩))))))
                        | exact Or.inr (Or.inr (Or.inr (Or.inr (Or.inr (Or.inr (Or.inr ⟨fun z => by rcases z with z | z | z | z | z | z | z | z | z | z | z <;> omega, by omega⟩))))))
                  · exact absurd g (by simp [sx_cc])
              · simp only [sx_cc, Classical.not_not] at g
                conv => whnf
                refine ⟨fun g => ?_, fun g => ?_⟩
                · skip
                  conv => whnf
                  refine ⟨fun g => ?_, fun g => ?_⟩
                  · exact absurd g (by simp [sx_cc])
                  · skip
                    conv => whnf
                    refine ⟨fun g => ?_, fun g => ?_⟩
                    · skip
                      conv => whnf
                      refine ⟨(by first | assumption | rfl), ?_⟩
                      try simp (disch := omega) only [Int.cast_ofNat_Int, up_s, up_a, up_i, mp_a, mp_ge]
                      try simp only [x0]
                      try simp only [x1]
                      try simp only [en]
                      try simp only [t0]
                      try simp only [lk_125]
                      conv => whnf
                      refine ⟨(by first | assumption | rfl), ?_⟩
                      try simp (disch := omega) only [Int.cast_ofNat_Int, up_s, up_a, up_i, mp_a, mp_ge]
                      try simp only [x0]
                      try simp only [x1]
                      try simp only [en]
                      try simp only [t0]
                      try simp only [lk_125]
                      conv => whnf
                      refine ⟨fun g => ?_, fun g => ?_⟩
                      · simp only [sx_cc, Classical.not_not] at g
                        conv => whnf
                        refine ⟨(by first | assumption | rfl), ?_⟩
                        try simp (disch := omega) only [Int.cast_ofNat_Int, up_s, up_a, up_i, mp_a, mp_ge]
                        try simp only [x0]
                        try simp only [x1]
                        try simp only [en]
                        try simp only [t0]
                        try simp only [lk_125]
                        conv => whnf
                        refine ⟨fun g => ?_, fun g => ?_⟩
                        · simp only [sx_cc, Classical.not_not] at g
                          conv => whnf
                          refine ⟨fun g => ?_, fun g => ?_⟩
                          · skip
                            conv => whnf
                            refine ⟨(by first | assumption | rfl), ?_⟩
                            try simp (disch := omega) only [Int.cast_ofNat_Int, up_s, up_a, up_i, mp_a, mp_ge]
                            try simp only [x0]
                            try simp only [x1]
                            try simp only [en]
                            try simp only [t0]
                            try simp only [lk_125]
                            conv => whnf
                            refine ⟨rfl, ?_⟩
                            refine h _ (fun a j z9 => by unfold FRt at z9; repeat (first | rw [up_n (by omega)] | rfl)) (by repeat (first | rw [up_i (by decide)] | rfl)) ?_ ?_
                            · repeat rw [up_i (by decide)]
                              rw [up_s]
                              rw [e0]
                              first
                              | (rw [e1]; first | (rw [if_pos (by unfold fTwo; omega)]; omega) | rw [if_neg (by unfold fTwo; omega)])
                              | rw [if_neg (by unfold fTwo; omega)]
                            · rw [e0]
                              try rw [e1]
                              simp (disch := omega) only [up_s, up_i]
                              first
                              | exact Or.inl ⟨by omega, by omega, by omega, by omega⟩
                              | exact Or.inr (Or.inl ⟨by omega, by omega, by omega, by omega⟩)
                              | exact Or.inr (Or.inr (Or.inl ⟨by omega, by omega, by omega, by omega, by omega⟩))
                              | exact Or.inr (Or.inr (Or.inr (Or.inl ⟨by omega, by omega, by omega⟩)))
                              | exact Or.inr (Or.inr (Or.inr (Or.inr (Or.inl ⟨by omega, by omega, by omega, by omega⟩))))
                              | exact Or.inr (Or.inr (Or.inr (Or.inr (Or.inr (Or.inl ⟨by omega, by omega, by omega, by omega⟩)))))
                              | exact Or.inr (Or.inr (Or.inr (Or.inr (Or.inr (Or.inr (Or.inl ⟨by omega, by omega, by omega⟩))))))
                              | exact Or.inr (Or.inr (Or.inr (Or.inr (Or.inr (Or.inr (Or.inr ⟨fun z => by rcases z with z | z | z | z | z | z | z | z | z | z | z <;> omega, by omega⟩))))))
                          · exact absurd g (by simp [sx_cc])
                        · simp only [sx_cc, Classical.not_not] at g
                          conv => whnf
                          refine ⟨fun g => ?_, fun g => ?_⟩
                          · skip
                            conv => whnf
                            refine ⟨fun g => ?_, fun g => ?_⟩
                            · skip
                              conv => whnf
                              refine ⟨(by first | assumption | rfl), ?_⟩
                              try simp (disch := omega) only [Int.cast_ofNat_Int, up_s, up_a, up_i, mp_a, mp_ge]
                              try simp only [x0]
                              try simp only [x1]
                              try simp only [en]
                              try simp only [t0]
                              try simp only [lk_125]
                              conv => whnf
                              refine ⟨rfl, ?_⟩
                              refine h _ (fun a j z9 => by unfold FRt at z9; repeat (first | rw [up_n (by omega)] | rfl)) (by repeat (first | rw [up_i (by decide)] | rfl)) ?_ ?_
                              · repeat rw [up_i (by decide)]
                                rw [up_s]
                                rw [e0]
                                first
                                | (rw [e1]; first | (rw [if_pos (by unfold fTwo; omega)]; omega) | rw [if_neg (by unfold fTwo; omega)])
                                | rw [if_neg (by unfold fTwo; omega)]
                              · rw [e0]
                                try rw [e1]
                                simp (disch := omega) only [up_s, up_i]
                                first
                                | exact Or.inl ⟨by omega, by omega, by omega, by omega⟩
                                | exact Or.inr (Or.inl ⟨by omega, by omega, by omega, by omega⟩)
                                | exact Or.inr (Or.inr (Or.inl ⟨by omega, by omega, by omega, by omega, by omega⟩))
                                | exact Or.inr (Or.inr (Or.inr (Or.inl ⟨by omega, by omega, by omega⟩)))
                                | exact Or.inr (Or.inr (Or.inr (Or.inr (Or.inl ⟨by omega, by omega, by omega, by omega⟩))))
                                | exact Or.inr (Or.inr (Or.inr (Or.inr (Or.inr (Or.inl ⟨by omega, by omega, by omega, by omega⟩)))))
                                | exact Or.inr (Or.inr (Or.inr (Or.inr (Or.inr (Or.inr (Or.inl ⟨by omega, by omega, by omega⟩))))))
                                | exact Or.inr (Or.inr (Or.inr (Or.inr (Or.inr (Or.inr (Or.inr ⟨fun z => by rcases z with z | z | z | z | z | z | z | z | z | z | z <;> omega, by omega⟩))))))
                            · exact absurd g (by simp [sx_cc])
                          · exact absurd g (by simp [sx_cc])
                      · simp only [sx_cc, Classical.not_not] at g
                        conv => whnf
                        refine ⟨(by first | assumption | rfl), ?_⟩
                        try simp (disch := omega) only [Int.cast_ofNat_Int, up_s, up_a, up_i, mp_a, mp_ge]
                        try simp only [x0]
                        try simp only [x1]
                        try simp only [en]
                        try simp only [t0]
                        try simp only [lk_125]
                        conv => whnf
                        refine ⟨rfl, ?_⟩
                        refine h _ (fun a j z9 => by unfold FRt at z9; repeat (first | rw [up_n (by omega)] | rfl)) (by repeat (first | rw [up_i (by decide)] | rfl)) ?_ ?_
                        · repeat rw [up_i (by decide)]
                          rw [up_s]
                          rw [e0]
                          first
                          | (rw [e1]; first | (rw [if_pos (by unfold fTwo; omega)]; omega) | rw [if_neg (by unfold fTwo; omega)])
                          | rw [if_neg (by unfold fTwo; omega)]
                        · rw [e0]
                          try rw [e1]
                          simp (disch := omega) only [up_s, up_i]
                          first
                          | exact Or.inl ⟨by omega, by omega, by omega, by omega⟩
                          | exact Or.inr (Or.inl ⟨by omega, by omega, by omega, by omega⟩)
                          | exact Or.inr (Or.inr (Or.inl ⟨by omega, by omega, by omega, by omega, by omega⟩))
                          | exact Or.inr (Or.inr (Or.inr (Or.inl ⟨by omega, by omega, by omega⟩)))
                          | exact Or.inr (Or.inr (Or.inr (Or.inr (Or.inl ⟨by omega, by omega, by omega, by omega⟩))))
                          | exact Or.inr (Or.inr (Or.inr (Or.inr (Or.inr (Or.inl ⟨by omega, by omega, by omega, by omega⟩)))))
                          | exact Or.inr (Or.inr (Or.inr (Or.inr (Or.inr (Or.inr (Or.inl ⟨by omega, by omega, by omega⟩))))))
                          | exact Or.inr (Or.inr (Or.inr (Or.inr (Or.inr (Or.inr (Or.inr ⟨fun z => by rcases z with z | z | z | z | z | z | z | z | z | z | z <;> omega, by omega⟩))))))
                    · exact absurd g (by simp [sx_cc])
                · exact absurd g (by simp [sx_cc])
            · exact absurd g (by simp [sx_cc])
        · simp only [sx_cc, Classical.not_not] at g
          have e1 : fTx tx n9 (y + 1) = tx (y + 1) := fTx_p (by omega)
          have t1 := x3 (y + 1) (by omega) (by omega)
          conv => whnf
          refine ⟨(by first | assumption | rfl), ?_⟩
          try simp (disch := omega) only [Int.cast_ofNat_Int, up_s, up_a, up_i, mp_a, mp_ge]
          try simp only [x0]
          try simp only [x1]
          try simp only [en]
          try simp only [t0]
          try simp only [lk_125]
          conv => whnf
          refine ⟨(by first | assumption | rfl), ?_⟩
          try simp (disch := omega) only [Int.cast_ofNat_Int, up_s, up_a, up_i, mp_a, mp_ge]
          try simp only [x0]
          try simp only [x1]
          try simp only [en]
          try simp only [t0]
          try simp only [lk_125]
          conv => whnf
          refine ⟨sx_ixI (by first | assumption | rfl) (by omega) (by omega), ?_⟩
          try simp (disch := omega) only [Int.cast_ofNat_Int, up_s, up_a, up_i, mp_a, mp_ge]
          try simp only [x0]
          try simp only [x1]
          try simp only [en]
          try simp only [t0]
          try simp only [lk_125]
          conv => whnf
          refine ⟨(by first | assumption | rfl), ?_⟩
          try simp (disch := omega) only [Int.cast_ofNat_Int, up_s, up_a, up_i, mp_a, mp_ge]
          try simp only [x0]
          try simp only [x1]
          try simp only [en]
          try simp only [t0]
          try simp only [lk_125]
          conv => whnf
          refine ⟨fun g => ?_, fun g => ?_⟩
          · simp only [sx_cc, Classical.not_not] at g
            conv => whnf
            refine ⟨(by first | assumption | rfl), ?_⟩
            try simp (disch := omega) only [Int.cast_ofNat_Int, up_s, up_a, up_i, mp_a, mp_ge]
            try simp only [x0]
            try simp only [x1]
            try simp only [en]
            try simp only [t0]
            try simp only [lk_125]
            conv => whnf
            refine ⟨fun g => ?_, fun g => ?_⟩
            · simp only [sx_cc, Classical.not_not] at g
              conv => whnf
              refine ⟨fun g => ?_, fun g => ?_⟩
              · exact absurd g (by simp [sx_cc])
              · skip
                conv => whnf
                refine ⟨fun g => ?_, fun g => ?_⟩
                · skip
                  conv => whnf
                  refine ⟨(by first | assumption | rfl), ?_⟩
                  try simp (disch := omega) only [Int.cast_ofNat_Int, up_s, up_a, up_i, mp_a, mp_ge]
                  try simp only [x0]
                  try simp only [x1]
                  try simp only [en]
                  try simp only [t0]
                  try simp only [lk_125]
                  conv => whnf
                  refine ⟨(by first | assumption | rfl), ?_⟩
                  try simp (disch := omega) only [Int.cast_ofNat_Int, up_s, up_a, up_i, mp_a, mp_ge]
                  try simp only [x0]
                  try simp only [x1]
                  try simp only [en]
                  try simp only [t0]
                  try simp only [lk_125]
                  conv => whnf
                  refine ⟨fun g => ?_, fun g => ?_⟩
                  · simp only [sx_cc, Classical.not_not] at g
                    conv => whnf
                    refine ⟨(by first | assumption | rfl), ?_⟩
                    try simp (disch := omega) only [Int.cast_ofNat_Int, up_s, up_a, up_i, mp_a, mp_ge]
                    try simp only [x0]
                    try simp only [x1]
                    try simp only [en]
                    try simp only [t0]
                    try simp only [lk_125]
                    conv => whnf
                    refine ⟨fun g => ?_, fun g => ?_⟩
                    · simp only [sx_cc, Classical.not_not] at g
                      conv => whnf
                      refine ⟨fun g => ?_, fun g => ?_⟩
                      · skip
                        conv => whnf
                        refine ⟨(by first | assumption | rfl), ?_⟩
                        try simp (disch := omega) only [Int.cast_ofNat_Int, up_s, up_a, up_i, mp_a, mp_ge]
                        try simp only [x0]
                        try simp only [x1]
                        try simp only [en]
                        try simp only [t0]
                        try simp only [lk_125]
                        conv => whnf
                        refine ⟨rfl, ?_⟩
                        refine h _ (fun a j z9 => by unfold FRt at z9; repeat (first | rw [up_n (by omega)] | rfl)) (by repeat (first | rw [up_i (by decide)] | rfl)) ?_ ?_
                        · repeat rw [up_i (by decide)]
                          rw [up_s]
                          rw [e0]
                          first
                          | (rw [e1]; first | (rw [if_pos (by unfold fTwo; omega)]; omega) | rw [if_neg (by unfold fTwo; omega)])
                          | rw [if_neg (by unfold fTwo; omega)]
                        · rw [e0]
                          try rw [e1]
                          simp (disch := omega) only [up_s, up_i]
                          first
                          | exact Or.inl ⟨by omega, by omega, by omega, by omega⟩
                          | exact Or.inr (Or.inl ⟨by omega, by omega, by omega, by omega⟩)
                          | exact Or.inr (Or.inr (Or.inl ⟨by omega, by omega, by omega, by omega, by omega⟩))
                          | exact Or.inr (Or.inr (Or.inr (Or.inl ⟨by omega, by omega, by omega⟩)))
                          | exact Or.inr (Or.inr (Or.inr (Or.inr (Or.inl ⟨by omega, by omega, by omega, by omega⟩))))
                          | exact Or.inr (Or.inr (Or.inr (Or.inr (Or.inr (Or.inl ⟨by omega, by omega, by omega, by omega⟩)))))
                          | exact Or.inr (Or.inr (Or.inr (Or.inr (Or.inr (Or.inr (Or.inl ⟨by omega, by omega, by omega⟩))))))
                          | exact Or.inr (Or.inr (Or.inr (Or.inr (Or.inr (Or.inr (Or.inr ⟨fun z => by rcases z with z | z | z | z | z | z | z | z | z | z | z <;> omega, by omega⟩))))))
                      · exact absurd g (by simp [sx_cc])
                    · simp only [sx_cc, Classical.not_not] at g
                      conv => whnf
                      refine ⟨fun g => ?_, fun g => ?_⟩
                      · skip
                        conv => whnf
                        refine ⟨fun g => ?_, fun g => ?_⟩
                        · skip
                          conv => whnf
                          refine ⟨(by first | assumption | rfl), ?_⟩
                          try simp (disch := omega) only [Int.cast_ofNat_Int, up_s, up_a, up_i, mp_a, mp_ge]
                          try simp only [x0]
                          try simp only [x1]
                          try simp only [en]
                          try simp only [t0]
                          try simp only [lk_125]
                          conv => whnf
                          refine ⟨rfl, ?_⟩
                          refine h _ (fun a j z9 => by unfold FRt at z9; repeat (first | rw [up_n (by omega)] | rfl)) (by repeat (first | rw [up_i (by decide)] | rfl)) ?_ ?_
                          · repeat rw [up_i (by decide)]
                            rw [up_s]
                            rw [e0]
                            first
                            | (rw [e1]; first | (rw [if_pos (by unfold fTwo; omega)]; omega) | rw [if_neg (by unfold fTwo; omega)])
                            | rw [if_neg (by unfold fTwo; omega)]
                          · rw [e0]
                            try rw [e1]
                            simp (disch := omega) only [up_s, up_i]
                            first
                            | exact Or.inl ⟨by omega, by omega, by omega, by omega⟩
                            | exact Or.inr (Or.inl ⟨by omega, by omega, by omega, by omega⟩)
                            | exact Or.inr (Or.inr (Or.inl ⟨by omega, by omega, by omega, by omega, by omega⟩))
                            | exact Or.inr (Or.inr (Or.inr (Or.inl ⟨by omega, by omega, by omega⟩)))
                            | exact Or.inr (Or.inr (Or.inr (Or.inr (Or.inl ⟨by omega, by omega, by omega, by omega⟩))))
                            | exact Or.inr (Or.inr (Or.inr (Or.inr (Or.inr (Or.inl ⟨by omega, by omega, by omega, by omega⟩)))))
                            | exact Or.inr (Or.inr (Or.inr (Or.inr (Or.inr (Or.inr (Or.inl ⟨by omega, by omega, by omega⟩))))))
                            | exact Or.inr (Or.inr (Or.inr (Or.inr (Or.inr (Or.inr (Or.inr ⟨fun z => by rcases z with z | z | z | z | z | z | z | z | z | z | z <;> omega, by omega⟩))))))
                        · exact absurd g (by simp [sx_cc])
                      · exact absurd g (by simp [sx_cc])
                  · simp only [sx_cc, Classical.not_not] at g
                    conv => whnf
                    refine ⟨(by first | assumption | rfl), ?_⟩
                    try simp (disch := omega) only [Int.cast_ofNat_Int, up_s, up_a, up_i, mp_a, mp_ge]
                    try simp only [x0]
                    try simp only [x1]
                    try simp only [en]
                    try simp only [t0]
                    try simp only [lk_125]
                    conv => whnf
                    refine ⟨rfl, ?_⟩
                    refine h _ (fun a j z9 => by unfold FRt at z9; repeat (first | rw [up_n (by omega)] | rfl)) (by repeat (first | rw [up_i (by decide)] | rfl)) ?_ ?_
                    · repeat rw [up_i (by decide)]
                      rw [up_s]
                      rw [e0]
                      first
                      | (rw [e1]; first | (rw [if_pos (by unfold fTwo; omega)]; omega) | rw [if_neg (by unfold fTwo; omega)])
                      | rw [if_neg (by unfold fTwo; omega)]
                    · rw [e0]
                      try rw [e1]
                      simp (disch := omega) only [up_s, up_i]
                      first
                      | exact Or.inl ⟨by omega, by omega, by omega, by omega⟩
                      | exact Or.inr (Or.inl ⟨by omega, by omega, by omega, by omega⟩)
                      | exact Or.inr (Or.inr (Or.inl ⟨by omega, by omega, by omega, by omega, by omega⟩))
                      | exact Or.inr (Or.inr (Or.inr (Or.inl ⟨by omega, by omega, by omega⟩)))
                      | exact Or.inr (Or.inr (Or.inr (Or.inr (Or.inl ⟨by omega, by omega, by omega, by omega⟩))))
                      | exact Or.inr (Or.inr (Or.inr (Or.inr (Or.inr (Or.inl ⟨by omega, by omega, by omega, by omega⟩)))))
                      | exact Or.inr (Or.inr (Or.inr (Or.inr (Or.inr (Or.inr (Or.inl ⟨by omega, by omega, by omega⟩))))))
                      | exact Or.inr (Or.inr (Or.inr (Or.inr (Or.inr (Or.inr (Or.inr ⟨fun z => by rcases z with z | z | z | z | z | z | z | z | z | z | z <;> omega, by omega⟩))))))
                · exact absurd g (by simp [sx_cc])
            · simp only [sx_cc, Classical.not_not] at g
              conv => whnf
              refine ⟨fun g => ?_, fun g => ?_⟩
              · simp only [sx_cc, Classical.not_not] at g
                conv => whnf
                refine ⟨fun g => ?_, fun g => ?_⟩
                · exact absurd g (by simp [sx_cc])
                · skip
                  conv => whnf
                  refine ⟨fun g => ?_, fun g => ?_⟩
                  · skip
                    conv => whnf
                    refine ⟨(by first | assumption | rfl), ?_⟩
                    try simp (disch := omega) only [Int.cast_ofNat_Int, up_s, up_a, up_i, mp_a, mp_ge]
                    try simp only [x0]
                    try simp only [x1]
                    try simp only [en]
                    try simp only [t0]
                    try simp only [lk_125]
                    conv => whnf
                    refine ⟨(by first | assumption | rfl), ?_⟩
                    try simp (disch := omega) only [Int.cast_ofNat_Int, up_s, up_a, up_i, mp_a, mp_ge]
                    try simp only [x0]
                    try simp only [x1]
                    try simp only [en]
                    try simp only [t0]
                    try simp only [lk_125]
                    conv => whnf
                    refine ⟨fun g => ?_, fun g => ?_⟩
                    · simp only [sx_cc, Classical.not_not] at g
                      conv => whnf
                      refine ⟨(by first | assumption | rfl), ?_⟩
                      try simp (disch := omega) only [Int.cast_ofNat_Int, up_s, up_a, up_i, mp_a, mp_ge]
                      try simp only [x0]
                      try simp only [x1]
                      try simp only [en]
                      try simp only [t0]
                      try simp only [lk_125]
                      conv => whnf
                      refine ⟨fun g => ?_, fun g => ?_⟩
                      · simp only [sx_cc, Classical.not_not] at g
                        conv => whnf
                        refine ⟨fun g => ?_, fun g => ?_⟩
                        · skip
                          conv => whnf
                          refine ⟨(by first | assumption | rfl), ?_⟩
                          try simp (disch := omega) only [Int.cast_ofNat_Int, up_s, up_a, up_i, mp_a, mp_ge]
                          try simp only [x0]
                          try simp only [x1]
                          try simp only [en]
                          try simp only [t0]
                          try simp only [lk_125]
                          conv => whnf
                          refine ⟨rfl, ?_⟩
                          refine h _ (fun a j z9 => by unfold FRt at z9; repeat (first | rw [up_n (by omega)] | rfl)) (by repeat (first | rw [up_i (by decide)] | rfl)) ?_ ?_
                          · repeat rw [up_i (by decide)]
                            rw [up_s]
                            rw [e0]
                            first
                            | (rw [e1]; first | (rw [if_pos (by unfold fTwo; omega)]; omega) | rw [if_neg (by unfold fTwo; omega)])
                            | rw [if_neg (by unfold fTwo; omega)]
                          · rw [e0]
                            try rw [e1]
                            simp (disch := omega) only [up_s, up_i]
                            first
                            | exact Or.inl ⟨by omega, by omega, by omega, by omega⟩
                            | exact Or.inr (Or.inl ⟨by omega, by omega, by omega, by omega⟩)
                            | exact Or.inr (Or.inr (Or.inl ⟨by omega, by omega, by omega, by omega, by omega⟩))
                            | exact Or.inr (Or.inr (Or.inr (Or.inl ⟨by omega, by omega, by omega⟩)))
                            | exact Or.inr (Or.inr (Or.inr (Or.inr (Or.inl ⟨by omega, by omega, by omega, by omega⟩))))
                            | exact Or.inr (Or.inr (Or.inr (Or.inr (Or.inr (Or.inl ⟨by omega, by omega, by omega, by omega⟩)))))
                            | exact Or.inr (Or.inr (Or.inr (Or.inr (Or.inr (Or.inr (Or.inl ⟨by omega, by omega, by omega⟩))))))
                            | exact Or.inr (Or.inr (Or.inr (Or.inr (Or.inr (Or.inr (Or.inr ⟨fun z => by rcases z with z | z | z | z | z | z | z | z | z | z | z <;> omega, by omega⟩))))))
                        · exact absurd g (by simp [sx_cc])
                      · simp only [sx_cc, Classical.not_not] at g
                        conv => whnf
                        refine ⟨fun g => ?_, fun g => ?_⟩
                        · skip
                          conv => whnf
                          refine ⟨fun g => ?_, fun g => ?_⟩
                          · skip
                            conv => whnf
                            refine ⟨(by first | assumption | rfl), ?_⟩
                            try simp (disch := omega) only [Int.cast_ofNat_Int, up_s, up_a, up_i, mp_a, mp_ge]
                            try simp only [x0]
                            try simp only [x1]
                            try simp only [en]
                            try simp only [t0]
                            try simp only [lk_125]
                            conv => whnf
                            refine ⟨rfl, ?_⟩
                            refine h _ (fun a j z9 => by unfold FRt at z9; repeat (first | rw [up_n (by omega)] | rfl)) (by repeat (first | rw [up_i (by decide)] | rfl)) ?_ ?_
                            · repeat rw [up_i (by decide)]
                              rw [up_s]
                              rw [e0]
                              first
                              | (rw [e1]; first | (rw [if_pos (by unfold fTwo; omega)]; omega) | rw [if_neg (by unfold fTwo; omega)])
                              | rw [if_neg (by unfold fTwo; omega)]
                            · rw [e0]
                              try rw [e1]
                              simp (disch := omega) only [up_s, up_i]
                              first
                              | exact Or.inl ⟨by omega, by omega, by omega, by omega⟩
                              | exact Or.inr (Or.inl ⟨by omega, by omega, by omega, by omega⟩)
                              | exact Or.inr (Or.inr (Or.inl ⟨by omega, by omega, by omega, by omega, by omega⟩))
                              | exact Or.inr (Or.inr (Or.inr (Or.inl ⟨by omega, by omega, by omega⟩)))
                              | exact Or.inr (Or.inr (Or.inr (Or.inr (Or.inl ⟨by omega, by omega, by omega, by omega⟩))))
                              | exact Or.inr (Or.inr (Or.inr (Or.inr (Or.inr (Or.inl ⟨by omega, by omega, by omega, by omega⟩)))))
                              | exact Or.inr (Or.inr (Or.inr (Or.inr (Or.inr (Or.inr (Or.inl ⟨by omega, by omega, by omega⟩))))))
                              | exact Or.inr (Or.inr (Or.inr (Or.inr (Or.inr (Or.inr (Or.inr ⟨fun z => by rcases z with z | z | z | z | z | z | z | z | z | z | z <;> omega, by omega⟩))))))
                          · exact absurd g (by simp [sx_cc])
                        · exact absurd g (by simp [sx_cc])
                    · simp only [sx_cc, Classical.not_not] at g
                      conv => whnf
                      refine ⟨(by first | assumption | rfl), ?_⟩
                      try simp (disch := omega) only [Int.cast_ofNat_Int, up_s, up_a, up_i, mp_a, mp_ge]
                      try simp only [x0]
                      try simp only [x1]
                      try simp only [en]
                      try simp only [t0]
                      try simp only [lk_125]
                      conv => whnf
                      refine ⟨rfl, ?_⟩
                      refine h _ (fun a j z9 => by unfold FRt at z9; repeat (first | rw [up_n (by omega)] | rfl)) (by repeat (first | rw [up_i (by decide)] | rfl)) ?_ ?_
                      · repeat rw [up_i (by decide)]
                        rw [up_s]
                        rw [e0]
                        first
                        | (rw [e1]; first | (rw [if_pos (by unfold fTwo; omega)]; omega) | rw [if_neg (by unfold fTwo; omega)])
                        | rw [if_neg (by unfold fTwo; omega)]
                      · rw [e0]
                        try rw [e1]
                        simp (disch := omega) only [up_s, up_i]
                        first
                        | exact Or.inl ⟨by omega, by omega, by omega, by omega⟩
                        | exact Or.inr (Or.inl ⟨by omega, by omega, by omega, by omega⟩)
                        | exact Or.inr (Or.inr (Or.inl ⟨by omega, by omega, by omega, by omega, by omega⟩))
                        | exact Or.inr (Or.inr (Or.inr (Or.inl ⟨by omega, by omega, by omega⟩)))
                        | exact Or.inr (Or.inr (Or.inr (Or.inr (Or.inl ⟨by omega, by omega, by omega, by omega⟩))))
                        | exact Or.inr (Or.inr (Or.inr (Or.inr (Or.inr (Or.inl ⟨by omega, by omega, by omega, by omega⟩)))))
                        | exact Or.inr (Or.inr (Or.inr (Or.inr (Or.inr (Or.inr (Or.inl ⟨by omega, by omega, by omega⟩))))))
                        | exact Or.inr (Or.inr (Or.inr (Or.inr (Or.inr (Or.inr (Or.inr ⟨fun z => by rcases z with z | z | z | z | z | z | z | z | z | z | z <;> omega, by omega⟩))))))
                  · exact absurd g (by simp [sx_cc])
              · simp only [sx_cc, Classical.not_not] at g
                conv => whnf
                refine ⟨fun g => ?_, fun g => ?_⟩
                · exact absurd g (by simp [sx_cc])
                · skip
                  conv => whnf
                  refine ⟨fun g => ?_, fun g => ?_⟩
                  · exact absurd g (by simp [sx_cc])
                  · skip
                    conv => whnf
                    refine ⟨(by first | assumption | rfl), ?_⟩
                    try simp (disch := omega) only [Int.cast_ofNat_Int, up_s, up_a, up_i, mp_a, mp_ge]
                    try simp only [x0]
                    try simp only [x1]
                    try simp only [en]
                    try simp only [t0]
                    try simp only [lk_125]
                    conv => whnf
                    refine ⟨⟨by omega, by omega⟩, ?_⟩
                    conv => whnf
                    refine ⟨(by first | assumption | rfl), ?_⟩
                    try simp (disch := omega) only [Int.cast_ofNat_Int, up_s, up_a, up_i, mp_a, mp_ge]
                    try simp only [x0]
                    try simp only [x1]
                    try simp only [en]
                    try simp only [t0]
                    try simp only [lk_125]
                    conv => whnf
                    refine ⟨(by first | assumption | rfl), ?_⟩
                    try simp (disch := omega) only [Int.cast_ofNat_Int, up_s, up_a, up_i, mp_a, mp_ge]
                    try simp only [x0]
                    try simp only [x1]
                    try simp only [en]
                    try simp only [t0]
                    try simp only [lk_125]
                    conv => whnf
                    refine ⟨(by first | assumption | rfl), ?_⟩
                    try simp (disch := omega) only [Int.cast_ofNat_Int, up_s, up_a, up_i, mp_a, mp_ge]
                    try simp only [x0]
                    try simp only [x1]
                    try simp only [en]
                    try simp only [t0]
                    try simp only [lk_125]
                    conv => whnf
                    refine ⟨fun g => ?_, fun g => ?_⟩
                    · simp only [sx_cc, Classical.not_not] at g
                      conv => whnf
                      refine ⟨(by first | assumption | rfl), ?_⟩
                      try simp (disch := omega) only [Int.cast_ofNat_Int, up_s, up_a, up_i, mp_a, mp_ge]
                      try simp only [x0]
                      try simp only [x1]
                      try simp only [en]
                      try simp only [t0]
                      try simp only [lk_125]
                      conv => whnf
                      refine ⟨fun g => ?_, fun g => ?_⟩
                      · simp only [sx_cc, Classical.not_not] at g
                        conv => whnf
                        refine ⟨fun g => ?_, fun g => ?_⟩
                        · skip
                          conv => whnf
                          refine ⟨(by first | assumption | rfl), ?_⟩
                          try simp (disch := omega) only [Int.cast_ofNat_Int, up_s, up_a, up_i, mp_a, mp_ge]
                          try simp only [x0]
                          try simp only [x1]
                          try simp only [en]
                          try simp only [t0]
                          try simp only [lk_125]
                          conv => whnf
                          refine ⟨rfl, ?_⟩
                          refine h _ (fun a j z9 => by unfold FRt at z9; repeat (first | rw [up_n (by omega)] | rfl)) (by repeat (first | rw [up_i (by decide)] | rfl)) ?_ ?_
                          · repeat rw [up_i (by decide)]
                            rw [up_s]
                            rw [e0]
                            first
                            | (rw [e1]; first | (rw [if_pos (by unfold fTwo; omega)]; omega) | rw [if_neg (by unfold fTwo; omega)])
                            | rw [if_neg (by unfold fTwo; omega)]
                          · rw [e0]
                            try rw [e1]
                            simp (disch := omega) only [up_s, up_i]
                            first
                            | exact Or.inl ⟨by omega, by omega, by omega, by omega⟩
                            | exact Or.inr (Or.inl ⟨by omega, by omega, by omega, by omega⟩)
                            | exact Or.inr (Or.inr (Or.inl ⟨by omega, by omega, by omega, by omega, by omega⟩))
                            | exact Or.inr (Or.inr (Or.inr (Or.inl ⟨by omega, by omega, by omega⟩)))
                            | exact Or.inr (Or.inr (Or.inr (Or.inr (Or.inl ⟨by omega, by omega, by omega, by omega⟩))))
                            | exact Or.inr (Or.inr (Or.inr (Or.inr (Or.inr (Or.inl ⟨by omega, by omega, by omega, by omega⟩)))))
                            | exact Or.inr (Or.inr (Or.inr (Or.inr (Or.inr (Or.inr (Or.inl ⟨by omega, by omega, by omega⟩))))))
                            | exact Or.inr (Or.inr (Or.inr (Or.inr (Or.inr (Or.inr (Or.inr ⟨fun z => by rcases z with z | z | z | z | z | z | z | z | z | z | z <;> omega, by omega⟩))))))
                        · exact absurd g (by simp [sx_cc])
                      · simp only [sx_cc, Classical.not_not] at g
                        conv => whnf
                        refine ⟨fun g => ?_, fun g => ?_⟩
                        · skip
                          conv => whnf
                          refine ⟨fun g => ?_, fun g => ?_⟩
                          · exact absurd g (by simp [sx_cc])
                          · skip
                            conv => whnf
                            refine ⟨(by first | assumption | rfl), ?_⟩
                            try simp (disch := omega) only [Int.cast_ofNat_Int, up_s, up_a, up_i, mp_a, mp_ge]
                            try simp only [x0]
                            try simp only [x1]
                            try simp only [en]
                            try simp only [t0]
                            try simp only [lk_125]
                            conv => whnf
                            refine ⟨rfl, ?_⟩
                            refine h _ (fun a j z9 => by unfold FRt at z9; repeat (first | rw [up_n (by omega)] | rfl)) (by repeat (first | rw [up_i (by decide)] | rfl)) ?_ ?_
                            · repeat rw [up_i (by decide)]
                              rw [up_s]
                              rw [e0]
                              first
                              | (rw [e1]; first | (rw [if_pos (by unfold fTwo; omega)]; omega) | rw [if_neg (by unfold fTwo; omega)])
                              | rw [if_neg (by unfold fTwo; omega)]
                            · rw [e0]
                              try rw [e1]
                              simp (disch := omega) only [up_s, up_i]
                              first
                              | exact Or.inl ⟨by omega, by omega, by omega, by omega⟩
                              | exact Or.inr (Or.inl ⟨by omega, by omega, by omega, by omega⟩)
                              | exact Or.inr (Or.inr (Or.inl ⟨by omega, by omega, by omega, by omega, by omega⟩))
                              | exact Or.inr (Or.inr (Or.inr (Or.inl ⟨by omega, by omega, by omega⟩)))
                              | exact Or.inr (Or.inr (Or.inr (Or.inr (Or.inl ⟨by omega, by omega, by omega, by omega⟩))))
                              | exact Or.inr (Or.inr (Or.inr (Or.inr (Or.inr (Or.inl ⟨by omega, by omega, by omega, by omega⟩)))))
                              | exact Or.inr (Or.inr (Or.inr (Or.inr (Or.inr (Or.inr (Or.inl ⟨by omega, by omega, by omega⟩))))))
                              | exact Or.inr (Or.inr (Or.inr (Or.inr (Or.inr (Or.inr (Or.inr ⟨fun z => by rcases z with z | z | z | z | z | z | z | z | z | z | z <;> omega, by omega⟩))))))
                        · exact absurd g (by simp [sx_cc])
                    · simp only [sx_cc, Classical.not_not] at g
                      conv => whnf
                      refine ⟨(by first | assumption | rfl), ?_⟩
                      try simp (disch := omega) only [Int.cast_ofNat_Int, up_s, up_a, up_i, mp_a, mp_ge]
                      try simp only [x0]
                      try simp only [x1]
                      try simp only [en]
                      try simp only [t0]
                      try simp only [lk_125]
                      conv => whnf
                      refine ⟨rfl, ?_⟩
                      refine h _ (fun a j z9 => by unfold FRt at z9; repeat (first | rw [up_n (by omega)] | rfl)) (by repeat (first | rw [up_i (by decide)] | rfl)) ?_ ?_
                      · repeat rw [up_i (by decide)]
                        rw [up_s]
                        rw [e0]
                        first
                        | (rw [e1]; first | (rw [if_pos (by unfold fTwo; omega)]; omega) | rw [if_neg (by unfold fTwo; omega)])
                        | rw [if_neg (by unfold fTwo; omega)]
                      · rw [e0]
                        try rw [e1]
                        simp (disch := omega) only [up_s, up_i]
                        first
                        | exact Or.inl ⟨by omega, by omega, by omega, by omega⟩
                        | exact Or.inr (Or.inl ⟨by omega, by omega, by omega, by omega⟩)
                        | exact Or.inr (Or.inr (Or.inl ⟨by omega, by omega, by omega, by omega, by omega⟩))
                        | exact Or.inr (Or.inr (Or.inr (Or.inl ⟨by omega, by omega, by omega⟩)))
                        | exact Or.inr (Or.inr (Or.inr (Or.inr (Or.inl ⟨by omega, by omega, by omega, by omega⟩))))
                        | exact Or.inr (Or.inr (Or.inr (Or.inr (Or.inr (Or.inl ⟨by omega, by omega, by omega, by omega⟩)))))
                        | exact Or.inr (Or.inr (Or.inr (Or.inr (Or.inr (Or.inr (Or.inl ⟨by omega, by omega, by omega⟩))))))
                        | exact Or.inr (Or.inr (Or.inr (Or.inr (Or.inr (Or.inr (Or.inr ⟨fun z => by rcases z with z | z | z | z | z | z | z | z | z | z | z <;> omega, by omega⟩))))))
          · simp only [sx_cc, Classical.not_not] at g
            conv => whnf
            refine ⟨fun g => ?_, fun g => ?_⟩
            · simp only [sx_cc, Classical.not_not] at g
              conv => whnf
              refine ⟨(by first | assumption | rfl), ?_⟩
              try simp (disch := omega) only [Int.cast_ofNat_Int, up_s, up_a, up_i, mp_a, mp_ge]
              try simp only [x0]
              try simp only [x1]
              try simp only [en]
              try simp only [t0]
              try simp only [lk_125]
              conv => whnf
              refine ⟨fun g => ?_, fun g => ?_⟩
              · simp only [sx_cc, Classical.not_not] at g
                conv => whnf
                refine ⟨fun g => ?_, fun g => ?_⟩
                · exact absurd g (by simp [sx_cc])
                · skip
                  conv => whnf
                  refine ⟨fun g => ?_, fun g => ?_⟩
                  · skip
                    conv => whnf
                    refine ⟨(by first | assumption | rfl), ?_⟩
                    try simp (disch := omega) only [Int.cast_ofNat_Int, up_s, up_a, up_i, mp_a, mp_ge]
                    try simp only [x0]
                    try simp only [x1]
                    try simp only [en]
                    try simp only [t0]
                    try simp only [lk_125]
                    conv => whnf
                    refine ⟨(by first | assumption | rfl), ?_⟩
                    try simp (disch := omega) only [Int.cast_ofNat_Int, up_s, up_a, up_i, mp_a, mp_ge]
                    try simp only [x0]
                    try simp only [x1]
                    try simp only [en]
                    try simp only [t0]
                    try simp only [lk_125]
                    conv => whnf
                    refine ⟨fun g => ?_, fun g => ?_⟩
                    · simp only [sx_cc, Classical.not_not] at g
                      conv => whnf
                      refine ⟨(by first | assumption | rfl), ?_⟩
                      try simp (disch := omega) only [Int.cast_ofNat_Int, up_s, up_a, up_i, mp_a, mp_ge]
                      try simp only [x0]
                      try simp only [x1]
                      try simp only [en]
                      try simp only [t0]
                      try simp only [lk_125]
                      conv => whnf
                      refine ⟨fun g => ?_, fun g => ?_⟩
                      · simp only [sx_cc, Classical.not_not] at g
                        conv => whnf
                        refine ⟨fun g => ?_, fun g => ?_⟩
                        · skip
                          conv => whnf
                          refine ⟨(by first | assumption | rfl), ?_⟩
                          try simp (disch := omega) only [Int.cast_ofNat_Int, up_s, up_a, up_i, mp_a, mp_ge]
                          try simp only [x0]
                          try simp only [x1]
                          try simp only [en]
                          try simp only [t0]
                          try simp only [lk_125]
                          conv => whnf
                          refine ⟨rfl, ?_⟩
                          refine h _ (fun a j z9 => by unfold FRt at z9; repeat (first | rw [up_n (by omega)] | rfl)) (by repeat (first | rw [up_i (by decide)] | rfl)) ?_ ?_
                          · repeat rw [up_i (by decide)]
                            rw [up_s]
                            rw [e0]
                            first
                            | (rw [e1]; first | (rw [if_pos (by unfold fTwo; omega)]; omega) | rw [if_neg (by unfold fTwo; omega)])
                            | rw [if_neg (by unfold fTwo; omega)]
                          · rw [e0]
                            try rw [e1]
                            simp (disch := omega) only [up_s, up_i]
                            first
                            | exact Or.inl ⟨by omega, by omega, by omega, by omega⟩
                            | exact Or.inr (Or.inl ⟨by omega, by omega, by omega, by omega⟩)
                            | exact Or.inr (Or.inr (Or.inl ⟨by omega, by omega, by omega, by omega, by omega⟩))
                            | exact Or.inr (Or.inr (Or.inr (Or.inl ⟨by omega, by omega, by omega⟩)))
                            | exact Or.inr (Or.inr (Or.inr (Or.inr (Or.inl ⟨by omega, by omega, by omega, by omega⟩))))
                            | exact Or.inr (Or.inr (Or.inr (Or.inr (Or.inr (Or.inl ⟨by omega, by omega, by omega, by omega⟩)))))
                            | exact Or.inr (Or.inr (Or.inr (Or.inr (Or.inr (Or.inr (Or.inl ⟨by omega, by omega, by omega⟩))))))
                            | exact Or.inr (Or.inr (Or.inr (Or.inr (Or.inr (Or.inr (Or.inr ⟨fun z => by rcases z with z | z | z | z | z | z | z | z | z | z | z <;> omega, by omega⟩))))))
                        · exact absurd g (by simp [sx_cc])
                      · simp only [sx_cc, Classical.not_not] at g
                        conv => whnf
                        refine ⟨fun g => ?_, fun g => ?_⟩
                        · skip
                          conv => whnf
                          refine ⟨fun g => ?_, fun g => ?_⟩
                          · skip
                            conv => whnf
                            refine ⟨(by first | assumption | rfl), ?_⟩
                            try simp (disch := omega) only [Int.cast_ofNat_Int, up_s, up_a, up_i, mp_a, mp_ge]
                            try simp only [x0]
                            try simp only [x1]
                            try simp only [en]
                            try simp only [t0]
                            try simp only [lk_125]
                            conv => whnf
                            refine ⟨rfl, ?_⟩
                            refine h _ (fun a j z9 => by unfold FRt at z9; repeat (first | rw [up_n (by omega)] | rfl)) (by repeat (first | rw [up_i (by decide)] | rfl)) ?_ ?_
                            · repeat rw [up_i (by decide)]
                              rw [up_s]
                              rw [e0]
                              first
                              | (rw [e1]; first | (rw [if_pos (by unfold fTwo; omega)]; omega) | rw [if_neg (by unfold fTwo; omega)])
                              | rw [if_neg (by unfold fTwo; omega)]
                            · rw [e0]
                              try rw [e1]
                              simp (disch := omega) only [up_s, up_i]
                              first
                              | exact Or.inl ⟨by omega, by omega, by omega, by omega⟩
                              | exact Or.inr (Or.inl ⟨by omega, by omega, by omega, by omega⟩)
                              | exact Or.inr (Or.inr (Or.inl ⟨by omega, by omega, by omega, by omega, by omega⟩))
                              | exact Or.inr (Or.inr (Or.inr (Or.inl ⟨by omega, by omega, by omega⟩)))
                              | exact Or.inr (Or.inr (Or.inr (Or.inr (Or.inl ⟨by omega, by omega, by omega, by omega⟩))))
                              | exact Or.inr (Or.inr (Or.inr (Or.inr (Or.inr (Or.inl ⟨by omega, by omega, by omega, by omega⟩)))))
                              | exact Or.inr (Or.inr (Or.inr (Or.inr (Or.inr (Or.inr (Or.inl ⟨by omega, by omega, by omega⟩))))))
                              | exact Or.inr (Or.inr (Or.inr (Or.inr (Or.inr (Or.inr (Or.inr ⟨fun z => by rcases z with z | z | z | z | z | z | z | z | z | z | z <;> omega, by omega⟩))))))
                          · exact absurd g (by simp [sx_cc])
                        · exact absurd g (by simp [sx_cc])
                    · simp only [sx_cc, Classical.not_not] at g
                      conv => whnf
                      refine ⟨(by first | assumption | rfl), ?_⟩
                      try simp (disch := omega) only [Int.cast_ofNat_Int, up_s, up_a, up_i, mp_a, mp_ge]
                      try simp only [x0]
                      try simp only [x1]
                      try simp only [en]
                      try simp only [t0]
                      try simp only [lk_125]
                      conv => whnf
                      refine ⟨rfl, ?_⟩
                      refine h _ (fun a j z9 => by unfold FRt at z9; repeat (first | rw [up_n (by omega)] | rfl)) (by repeat (first | rw [up_i (by decide)] | rfl)) ?_ ?_
                      · repeat rw [up_i (by decide)]
                        rw [up_s]
                        rw [e0]
                        first
                        | (rw [e1]; first | (rw [if_pos (by unfold fTwo; omega)]; omega) | rw [if_neg (by unfold fTwo; omega)])
                        | rw [if_neg (by unfold fTwo; omega)]
                      · rw [e0]
                        try rw [e1]
                        simp (disch := omega) only [up_s, up_i]
                        first
                        | exact Or.inl ⟨by omega, by omega, by omega, by omega⟩
                        | exact Or.inr (Or.inl ⟨by omega, by omega, by omega, by omega⟩)
                        | exact Or.inr (Or.inr (Or.inl ⟨by omega, by omega, by omega, by omega, by omega⟩))
                        | exact Or.inr (Or.inr (Or.inr (Or.inl ⟨by omega, by omega, by omega⟩)))
                        | exact Or.inr (Or.inr (Or.inr (Or.inr (Or.inl ⟨by omega, by omega, by omega, by omega⟩))))
                        | exact Or.inr (Or.inr (Or.inr (Or.inr (Or.inr (Or.inl ⟨by omega, by omega, by omega, by omega⟩)))))
                        | exact Or.inr (Or.inr (Or.inr (Or.inr (Or.inr (Or.inr (Or.inl ⟨by omega, by omega, by omega⟩))))))
                        | exact Or.inr (Or.inr (Or.inr (Or.inr (Or.inr (Or.inr (Or.inr ⟨fun z => by rcases z with z | z | z | z | z | z | z | z | z | z | z <;> omega, by omega⟩))))))
                  · exact absurd g (by simp [sx_cc])
              · simp only [sx_cc, Classical.not_not] at g
                conv => whnf
                refine ⟨fun g => ?_, fun g => ?_⟩
                · simp only [sx_cc, Classical.not_not] at g
                  conv => whnf
                  refine ⟨fun g => ?_, fun g => ?_⟩
                  · exact absurd g (by simp [sx_cc])
                  · skip
                    conv => whnf
                    refine ⟨fun g => ?_, fun g => ?_⟩
                    · skip
                      conv => whnf
                      refine ⟨(by first | assumption | rfl), ?_⟩
                      try simp (disch := omega) only [Int.cast_ofNat_Int, up_s, up_a, up_i, mp_a, mp_ge]
                      try simp only [x0]
                      try simp only [x1]
                      try simp only [en]
                      try simp only [t0]
                      try simp only [lk_125]
                      conv => whnf
                      refine ⟨(by first | assumption | rfl), ?_⟩
                      try simp (disch := omega) only [Int.cast_ofNat_Int, up_s, up_a, up_i, mp_a, mp_ge]
                      try simp only [x0]
                      try simp only [x1]
                      try simp only [en]
                      try simp only [t0]
                      try simp only [lk_125]
                      conv => whnf
                      refine ⟨fun g => ?_, fun g => ?_⟩
                      · simp only [sx_cc, Classical.not_not] at g
                        conv => whnf
                        refine ⟨(by first | assumption | rfl), ?_⟩
                        try simp (disch := omega) only [Int.cast_ofNat_Int, up_s, up_a, up_i, mp_a, mp_ge]
                        try simp only [x0]
                        try simp only [x1]
                        try simp only [en]
                        try simp only [t0]
                        try simp only [lk_125]
                        conv => whnf
                        refine ⟨fun g => ?_, fun g => ?_⟩
                        · simp only [sx_cc, Classical.not_not] at g
                          conv => whnf
                          refine ⟨fun g => ?_, fun g => ?_⟩
                          · skip
                            conv => whnf
                            refine ⟨(by first | assumption | rfl), ?_⟩
                            try simp (disch := omega) only [Int.cast_ofNat_Int, up_s, up_a, up_i, mp_a, mp_ge]
                            try simp only [x0]
                            try simp only [x1]
                            try simp only [en]
                            try simp only [t0]
                            try simp only [lk_125]
                            conv => whnf
                            refine ⟨rfl, ?_⟩
                            refine h _ (fun a j z9 => by unfold FRt at z9; repeat (first | rw [up_n (by omega)] | rfl)) (by repeat (first | rw [up_i (by decide)] | rfl)) ?_ ?_
                            · repeat rw [up_i (by decide)]
                              rw [up_s]
                              rw [e0]
                              first
                              | (rw [e1]; first | (rw [if_pos (by unfold fTwo; omega)]; omega) | rw [if_neg (by unfold fTwo; omega)])
                              | rw [if_neg (by unfold fTwo; omega)]
                            · rw [e0]
                              try rw [e1]
                              simp (disch := omega) only [up_s, up_i]
                              first
                              | exact Or.inl ⟨by omega, by omega, by omega, by omega⟩
                              | exact Or.inr (Or.inl ⟨by omega, by omega, by omega, by omega⟩)
                              | exact Or.inr (Or.inr (Or.inl ⟨by omega, by omega, by omega, by omega, by omega⟩))
                              | exact Or.inr (Or.inr (Or.inr (Or.inl ⟨by omega, by omega, by omega⟩)))
                              | exact Or.inr (Or.inr (Or.inr (Or.inr (Or.inl ⟨by omega, by omega, by omega, by omega⟩))))
                              | exact Or.inr (Or.inr (Or.inr (Or.inr (Or.inr (Or.inl ⟨by omega, by omega, by omega, by omega⟩)))))
                              | exact Or.inr (Or.inr (Or.inr (Or.inr (Or.inr (Or.inr (Or.inl ⟨by omega, by omega, by omega⟩))))))
                              | exact Or.inr (Or.inr (Or.inr (Or.inr (Or.inr (Or.inr (Or.inr ⟨fun z => by rcases z with z | z | z | z | z | z | z | z | z | z | z <;> omega, by omega⟩))))))
                          · exact absurd g (by simp [sx_cc])
                        · simp only [sx_cc, Classical.not_not] at g
                          conv => whnf
                          refine ⟨fun g => ?_, fun g => ?_⟩
                          · skip
                            conv => whnf
                            refine ⟨fun g => ?_, fun g => ?_⟩
                            · skip
                              conv => whnf
                              refine ⟨(by first | assumption | rfl), ?_⟩
                              try simp (disch := omega) only [Int.cast_ofNat_Int, up_s, up_a, up_i, mp_a, mp_ge]
                              try simp only [x0]
                              try simp only [x1]
                              try simp only [en]
                              try simp only [t0]
                              try simp only [lk_125]
                              conv => whnf
                              refine ⟨rfl, ?_⟩
                              refine h _ (fun a j z9 => by unfold FRt at z9; repeat (first | rw [up_n (by omega)] | rfl)) (by repeat (first | rw [up_i (by decide)] | rfl)) ?_ ?_
                              · repeat rw [up_i (by decide)]
                                rw [up_s]
                                rw [e0]
                                first
                                | (rw [e1]; first | (rw [if_pos (by unfold fTwo; omega)]; omega) | rw [if_neg (by unfold fTwo; omega)])
                                | rw [if_neg (by unfold fTwo; omega)]
                              · rw [e0]
                                try rw [e1]
                                simp (disch := omega) only [up_s, up_i]
                                first
                                | exact Or.inl ⟨by omega, by omega, by omega, by omega⟩
                                | exact Or.inr (Or.inl ⟨by omega, by omega, by omega, by omega⟩)
                                | exact Or.inr (Or.inr (Or.inl ⟨by omega, by omega, by omega, by omega, by omega⟩))
                                | exact Or.inr (Or.inr (Or.inr (Or.inl ⟨by omega, by omega, by omega⟩)))
                                | exact Or.inr (Or.inr (Or.inr (Or.inr (Or.inl ⟨by omega, by omega, by omega, by omega⟩))))
                                | exact Or.inr (Or.inr (Or.inr (Or.inr (Or.inr (Or.inl ⟨by omega, by omega, by omega, by omega⟩)))))
                                | exact Or.inr (Or.inr (Or.inr (Or.inr (Or.inr (Or.inr (Or.inl ⟨by omega, by omega, by omega⟩))))))
                                | exact Or.inr (Or.inr (Or.inr (Or.inr (Or.inr (Or.inr (Or.inr ⟨fun z => by rcases z with z | z | z | z | z | z | z | z | z | z | z <;> omega, by omega⟩))))))
                            · exact absurd g (by simp [sx_cc])
                          · exact absurd g (by simp [sx_cc])
                      · simp only [sx_cc, Classical.not_not] at g
                        conv => whnf
                        refine ⟨(by first | assumption | rfl), ?_⟩
                        try simp (disch := omega) only [Int.cast_ofNat_Int, up_s, up_a, up_i, mp_a, mp_ge]
                        try simp only [x0]
                        try simp only [x1]
                        try simp only [en]
                        try simp only [t0]
                        try simp only [lk_125]
                        conv => whnf
                        refine ⟨rfl, ?_⟩
                        refine h _ (fun a j z9 => by unfold FRt at z9; repeat (first | rw [up_n (by omega)] | rfl)) (by repeat (first | rw [up_i (by decide)] | rfl)) ?_ ?_
                        · repeat rw [up_i (by decide)]
                          rw [up_s]
                          rw [e0]
                          first
                          | (rw [e1]; first | (rw [if_pos (by unfold fTwo; omega)]; omega) | rw [if_neg (by unfold fTwo; omega)])
                          | rw [if_neg (by unfold fTwo; omega)]
                        · rw [e0]
                          try rw [e1]
                          simp (disch := omega) only [up_s, up_i]
                          first
                          | exact Or.inl ⟨by omega, by omega, by omega, by omega⟩
                          | exact Or.inr (Or.inl ⟨by omega, by omega, by omega, by omega⟩)
                          | exact Or.inr (Or.inr (Or.inl ⟨by omega, by omega, by omega, by omega, by omega⟩))
                          | exact Or.inr (Or.inr (Or.inr (Or.inl ⟨by omega, by omega, by omega⟩)))
                          | exact Or.inr (Or.inr (Or.inr (Or.inr (Or.inl ⟨by omega, by omega, by omega, by omega⟩))))
                          | exact Or.inr (Or.inr (Or.inr (Or.inr (Or.inr (Or.inl ⟨by omega, by omega, by omega, by omega⟩)))))
                          | exact Or.inr (Or.inr (Or.inr (Or.inr (Or.inr (Or.inr (Or.inl ⟨by omega, by omega, by omega⟩))))))
                          | exact Or.inr (Or.inr (Or.inr (Or.inr (Or.inr (Or.inr (Or.inr ⟨fun z => by rcases z with z | z | z | z | z | z | z | z | z | z | z <;> omega, by omega⟩))))))
                    · exact absurd g (by simp [sx_cc])
                · simp only [sx_cc, Classical.not_not] at g
                  conv => whnf
                  refine ⟨fun g => ?_, fun g => ?_⟩
                  · exact absurd g (by simp [sx_cc])
                  · skip
                    conv => whnf
                    refine ⟨fun g => ?_, fun g => ?_⟩
                    · exact absurd g (by simp [sx_cc])
                    · skip
                      conv => whnf
                      refine ⟨(by first | assumption | rfl), ?_⟩
                      try simp (disch := omega) only [Int.cast_ofNat_Int, up_s, up_a, up_i, mp_a, mp_ge]
                      try simp only [x0]
                      try simp only [x1]
                      try simp only [en]
                      try simp only [t0]
                      try simp only [lk_125]
                      conv => whnf
                      refine ⟨⟨by omega, by omega⟩, ?_⟩
                      conv => whnf
                      refine ⟨(by first | assumption | rfl), ?_⟩
                      try simp (disch := omega) only [Int.cast_ofNat_Int, up_s, up_a, up_i, mp_a, mp_ge]
                      try simp only [x0]
                      try simp only [x1]
                      try simp only [en]
                      try simp only [t0]
                      try simp only [lk_125]
                      conv => whnf
                      refine ⟨(by first | assumption | rfl), ?_⟩
                      try simp (disch := omega) only [Int.cast_ofNat_Int, up_s, up_a, up_i, mp_a, mp_ge]
                      try simp only [x0]
                      try simp only [x1]
                      try simp only [en]
                      try simp only [t0]
                      try simp only [lk_125]
                      conv => whnf
                      refine ⟨(by first | assumption | rfl), ?_⟩
                      try simp (disch := omega) only [Int.cast_ofNat_Int, up_s, up_a, up_i, mp_a, mp_ge]
                      try simp only [x0]
                      try simp only [x1]
                      try simp only [en]
                      try simp only [t0]
                      try simp only [lk_125]
                      conv => whnf
                      refine ⟨fun g => ?_, fun g => ?_⟩
                      · simp only [sx_cc, Classical.not_not] at g
                        conv => whnf
                        refine ⟨(by first | assumption | rfl), ?_⟩
                        try simp (disch := omega) only [Int.cast_ofNat_Int, up_s, up_a, up_i, mp_a, mp_ge]
                        try simp only [x0]
                        try simp only [x1]
                        try simp only [en]
                        try simp only [t0]
                        try simp only [lk_125]
                        conv => whnf
                        refine ⟨fun g => ?_, fun g => ?_⟩
                        · simp only [sx_cc, Classical.not_not] at g
                          conv => whnf
                          refine ⟨fun g => ?_, fun g => ?_⟩
                          · skip
                            conv => whnf
                            refine ⟨(by first | assumption | rfl), ?_⟩
                            try simp (disch := omega) only [Int.cast_ofNat_Int, up_s, up_a, up_i, mp_a, mp_ge]
                            try simp only [x0]
                            try simp only [x1]
                            try simp only [en]
                            try simp only [t0]
                            try simp only [lk_125]
                            conv => whnf
                            refine ⟨rfl, ?_⟩
                            refine h _ (fun a j z9 => by unfold FRt at z9; repeat (first | rw [up_n (by omega)] | rfl)) (by repeat (first | rw [up_i (by decide)] | rfl)) ?_ ?_
                            · repeat rw [up_i (by decide)]
                              rw [up_s]
                              rw [e0]
                              first
                              | (rw [e1]; first | (rw [if_pos (by unfold fTwo; omega)]; omega) | rw [if_neg (by unfold fTwo; omega)])
                              | rw [if_neg (by unfold fTwo; omega)]
                            · rw [e0]
                              try rw [e1]
                              simp (disch := omega) only [up_s, up_i]
                              first
                              | exact Or.inl ⟨by omega, by omega, by omega, by omega⟩
                              | exact Or.inr (Or.inl ⟨by omega, by omega, by omega, by omega⟩)
                              | exact Or.inr (Or.inr (Or.inl ⟨by omega, by omega, by omega, by omega, by omega⟩))
                              | exact Or.inr (Or.inr (Or.inr (Or.inl ⟨by omega, by omega, by omega⟩)))
                              | exact Or.inr (Or.inr (Or.inr (Or.inr (Or.inl ⟨by omega, by omega, by omega, by omega⟩))))
                              | exact Or.inr (Or.inr (Or.inr (Or.inr (Or.inr (Or.inl ⟨by omega, by omega, by omega, by omega⟩)))))
                              | exact Or.inr (Or.inr (Or.inr (Or.inr (Or.inr (Or.inr (Or.inl ⟨by omega, by omega, by omega⟩))))))
                              | exact Or.inr (Or.inr (Or.inr (Or.inr (Or.inr (Or.inr (Or.inr ⟨fun z => by rcases z with z | z | z | z | z | z | z | z | z | z | z <;> omega, by omega⟩))))))
                          · exact absurd g (by simp [sx_cc])
                        · simp only [sx_cc, Classical.not_not] at g
                          conv => whnf
                          refine ⟨fun g => ?_, fun g => ?_⟩
                          · skip
                            conv => whnf
                            refine ⟨fun g => ?_, fun g => ?_⟩
                            · exact absurd g (by simp [sx_cc])
                            · skip
                              conv => whnf
                              refine ⟨(by first | assumption | rfl), ?_⟩
                              try simp (disch := omega) only [Int.cast_ofNat_Int, up_s, up_a, up_i, mp_a, mp_ge]
                              try simp only [x0]
                              try simp only [x1]
                              try simp only [en]
                              try simp only [t0]
                              try simp only [lk_125]
                              conv => whnf
                              refine ⟨rfl, ?_⟩
                              refine h _ (fun a j z9 => by unfold FRt at z9; repeat (first | rw [up_n (by omega)] | rfl)) (by repeat (first | rw [up_i (by decide)] | rfl)) ?_ ?_
                              · repeat rw [up_i (by decide)]
                                rw [up_s]
                                rw [e0]
                                first
                                | (rw [e1]; first | (rw [if_pos (by unfold fTwo; omega)]; omega) | rw [if_neg (by unfold fTwo; omega)])
                                | rw [if_neg (by unfold fTwo; omega)]
                              · rw [e0]
                                try rw [e1]
                                simp (disch := omega) only [up_s, up_i]
                                first
                                | exact Or.inl ⟨by omega, by omega, by omega, by omega⟩
                                | exact Or.inr (Or.inl ⟨by omega, by omega, by omega, by omega⟩)
                                | exact Or.inr (Or.inr (Or.inl ⟨by omega, by omega, by omega, by omega, by omega⟩))
                                | exact Or.inr (Or.inr (Or.inr (Or.inl ⟨by omega, by omega, by omega⟩)))
                                | exact Or.inr (Or.inr (Or.inr (Or.inr (Or.inl ⟨by omega, by omega, by omega, by omega⟩))))
                                | exact Or.inr (Or.inr (Or.inr (Or.inr (Or.inr (Or.inl ⟨by omega, by omega, by omega, by omega⟩)))))
                                | exact Or.inr (Or.inr (Or.inr (Or.inr (Or.inr (Or.inr (Or.inl ⟨by omega, by omega, by omega⟩))))))
                                | exact Or.inr (Or.inr (Or.inr (Or.inr (Or.inr (Or.inr (Or.inr ⟨fun z => by rcases z with z | z | z | z | z | z | z | z | z | z | z <;> omega, by omega⟩))))))
                          · exact absurd g (by simp [sx_cc])
                      · simp only [sx_cc, Classical.not_not] at g
                        conv => whnf
                        refine ⟨(by first | assumption | rfl), ?_⟩
                        try simp (disch := omega) only [Int.cast_ofNat_Int, up_s, up_a, up_i, mp_a, mp_ge]
                        try simp only [x0]
                        try simp only [x1]
                        try simp only [en]
                        try simp only [t0]
                        try simp only [lk_125]
                        conv => whnf
                        refine ⟨rfl, ?_⟩
                        refine h _ (fun a j z9 => by unfold FRt at z9; repeat (first | rw [up_n (by omega)] | rfl)) (by repeat (first | rw [up_i (by decide)] | rfl)) ?_ ?_
                        · repeat rw [up_i (by decide)]
                          rw [up_s]
                          rw [e0]
                          first
                          | (rw [e1]; first | (rw [if_pos (by unfold fTwo; omega)]; omega) | rw [if_neg (by unfold fTwo; omega)])
                          | rw [if_neg (by unfold fTwo; omega)]
                        · rw [e0]
                          try rw [e1]
                          simp (disch := omega) only [up_s, up_i]
                          first
                          | exact Or.inl ⟨by omega, by omega, by omega, by omega⟩
                          | exact Or.inr (Or.inl ⟨by omega, by omega, by omega, by omega⟩)
                          | exact Or.inr (Or.inr (Or.inl ⟨by omega, by omega, by omega, by omega, by omega⟩))
                          | exact Or.inr (Or.inr (Or.inr (Or.inl ⟨by omega, by omega, by omega⟩)))
                          | exact Or.inr (Or.inr (Or.inr (Or.inr (Or.inl ⟨by omega, by omega, by omega, by omega⟩))))
                          | exact Or.inr (Or.inr (Or.inr (Or.inr (Or.inr (Or.inl ⟨by omega, by omega, by omega, by omega⟩)))))
                          | exact Or.inr (Or.inr (Or.inr (Or.inr (Or.inr (Or.inr (Or.inl ⟨by omega, by omega, by omega⟩))))))
                          | exact Or.inr (Or.inr (Or.inr (Or.inr (Or.inr (Or.inr (Or.inr ⟨fun z => by rcases z with z | z | z | z | z | z | z | z | z | z | z <;> omega, by omega⟩))))))
            · simp only [sx_cc, Classical.not_not] at g
              conv => whnf
              refine ⟨(by first | assumption | rfl), ?_⟩
              try simp (disch := omega) only [Int.cast_ofNat_Int, up_s, up_a, up_i, mp_a, mp_ge]
              try simp only [x0]
              try simp only [x1]
              try simp only [en]
              try simp only [t0]
              try simp only [lk_125]
              conv => whnf
              refine ⟨fun g => ?_, fun g => ?_⟩
              · simp only [sx_cc, Classical.not_not] at g
                conv => whnf
                refine ⟨fun g => ?_, fun g => ?_⟩
                · skip
                  conv => whnf
                  refine ⟨(by first | assumption | rfl), ?_⟩
                  try simp (disch := omega) only [Int.cast_ofNat_Int, up_s, up_a, up_i, mp_a, mp_ge]
                  try simp only [x0]
                  try simp only [x1]
                  try simp only [en]
                  try simp only [t0]
                  try simp only [lk_125]
                  conv => whnf
                  refine ⟨⟨by omega, by omega⟩, ?_⟩
                  conv => whnf
                  refine ⟨(by first | assumption | rfl), ?_⟩
                  try simp (disch := omega) only [Int.cast_ofNat_Int, up_s, up_a, up_i, mp_a, mp_ge]
                  try simp only [x0]
                  try simp only [x1]
                  try simp only [en]
                  try simp only [t0]
                  try simp only [lk_125]
                  conv => whnf
                  refine ⟨(by first | assumption | rfl), ?_⟩
                  try simp (disch := omega) only [Int.cast_ofNat_Int, up_s, up_a, up_i, mp_a, mp_ge]
                  try simp only [x0]
                  try simp only [x1]
                  try simp only [en]
                  try simp only [t0]
                  try simp only [lk_125]
                  conv => whnf
                  refine ⟨(by first | assumption | rfl), ?_⟩
                  try simp (disch := omega) only [Int.cast_ofNat_Int, up_s, up_a, up_i, mp_a, mp_ge]
                  try simp only [x0]
                  try simp only [x1]
                  try simp only [en]
                  try simp only [t0]
                  try simp only [lk_125]
                  conv => whnf
                  refine ⟨fun g => ?_, fun g => ?_⟩
                  · simp only [sx_cc, Classical.not_not] at g
                    conv => whnf
                    refine ⟨(by first | assumption | rfl), ?_⟩
                    try simp (disch := omega) only [Int.cast_ofNat_Int, up_s, up_a, up_i, mp_a, mp_ge]
                    try simp only [x0]
                    try simp only [x1]
                    try simp only [en]
                    try simp only [t0]
                    try simp only [lk_125]
                    conv => whnf
                    refine ⟨fun g => ?_, fun g => ?_⟩
                    · simp only [sx_cc, Classical.not_not] at g
                      conv => whnf
                      refine ⟨fun g => ?_, fun g => ?_⟩
                      · exact absurd g (by simp [sx_cc])
                      · skip
                        conv => whnf
                        refine ⟨(by first | assumption | rfl), ?_⟩
                        try simp (disch := omega) only [Int.cast_ofNat_Int, up_s, up_a, up_i, mp_a, mp_ge]
                        try simp only [x0]
                        try simp only [x1]
                        try simp only [en]
                        try simp only [t0]
                        try simp only [lk_125]
                        conv => whnf
                        refine ⟨rfl, ?_⟩
                        refine h _ (fun a j z9 => by unfold FRt at z9; repeat (first | rw [up_n (by omega)] | rfl)) (by repeat (first | rw [up_i (by decide)] | rfl)) ?_ ?_
                        · repeat rw [up_i (by decide)]
                          rw [up_s]
                          rw [e0]
                          first
                          | (rw [e1]; first | (rw [if_pos (by unfold fTwo; omega)]; omega) | rw [if_neg (by unfold fTwo; omega)])
                          | rw [if_neg (by unfold fTwo; omega)]
                        · rw [e0]
                          try rw [e1]
                          simp (disch := omega) only [up_s, up_i]
                          first
                          | exact Or.inl ⟨by omega, by omega, by omega, by omega⟩
                          | exact Or.inr (Or.inl ⟨by omega, by omega, by omega, by omega⟩)
                          | exact Or.inr (Or.inr (Or.inl ⟨by omega, by omega, by omega, by omega, by omega⟩))
                          | exact Or.inr (Or.inr (Or.inr (Or.inl ⟨by omega, by omega, by omega⟩)))
                          | exact Or.inr (Or.inr (Or.inr (Or.inr (Or.inl ⟨by omega, by omega, by omega, by omega⟩))))
                          | exact Or.inr (Or.inr (Or.inr (Or.inr (Or.inr (Or.inl ⟨by omega, by omega, by omega, by omega⟩)))))
                          | exact Or.inr (Or.inr (Or.inr (Or.inr (Or.inr (Or.inr (Or.inl ⟨by omega, by omega, by omega⟩))))))
                          | exact Or.inr (Or.inr (Or.inr (Or.inr (Or.inr (Or.inr (Or.inr ⟨fun z => by rcases z with z | z | z | z | z | z | z | z | z | z | z <;> omega, by omega⟩))))))
                    · simp only [sx_cc, Classical.not_not] at g
                      conv => whnf
                      refine ⟨fun g => ?_, fun g => ?_⟩
                      · exact absurd g (by simp [sx_cc])
                      · skip
                        conv => whnf
                        refine ⟨(by first | assumption | rfl), ?_⟩
                        try simp (disch := omega) only [Int.cast_ofNat_Int, up_s, up_a, up_i, mp_a, mp_ge]
                        try simp only [x0]
                        try simp only [x1]
                        try simp only [en]
                        try simp only [t0]
                        try simp only [lk_125]
                        conv => whnf
                        refine ⟨rfl, ?_⟩
                        refine h _ (fun a j z9 => by unfold FRt at z9; repeat (first | rw [up_n (by omega)] | rfl)) (by repeat (first | rw [up_i (by decide)] | rfl)) ?_ ?_
                        · repeat rw [up_i (by decide)]
                          rw [up_s]
                          rw [e0]
                          first
                          | (rw [e1]; first | (rw [if_pos (by unfold fTwo; omega)]; omega) | rw [if_neg (by unfold fTwo; omega)])
                          | rw [if_neg (by unfold fTwo; omega)]
                        · rw [e0]
                          try rw [e1]
                          simp (disch := omega) only [up_s, up_i]
                          first
                          | exact Or.inl ⟨by omega, by omega, by omega, by omega⟩
                          | exact Or.inr (Or.inl ⟨by omega, by omega, by omega, by omega⟩)
                          | exact Or.inr (Or.inr (Or.inl ⟨by omega, by omega, by omega, by omega, by omega⟩))
                          | exact Or.inr (Or.inr (Or.inr (Or.inl ⟨by omega, by omega, by omega⟩)))
                          | exact Or.inr (Or.inr (Or.inr (Or.inr (Or.inl ⟨by omega, by omega, by omega, by omega⟩))))
                          | exact Or.inr (Or.inr (Or.inr (Or.inr (Or.inr (Or.inl ⟨by omega, by omega, by omega, by omega⟩)))))
                          | exact Or.inr (Or.inr (Or.inr (Or.inr (Or.inr (Or.inr (Or.inl ⟨by omega, by omega, by omega⟩))))))
                          | exact Or.inr (Or.inr (Or.inr (Or.inr (Or.inr (Or.inr (Or.inr ⟨fun z => by rcases z with z | z | z | z | z | z | z | z | z | z | z <;> omega, by omega⟩))))))
                  · simp only [sx_cc, Classical.not_not] at g
                    conv => whnf
                    refine ⟨(by first | assumption | rfl), ?_⟩
                    try simp (disch := omega) only [Int.cast_ofNat_Int, up_s, up_a, up_i, mp_a, mp_ge]
                    try simp only [x0]
                    try simp only [x1]
                    try simp only [en]
                    try simp only [t0]
                    try simp only [lk_125]
                    conv => whnf
                    refine ⟨rfl, ?_⟩
                    refine h _ (fun a j z9 => by unfold FRt at z9; repeat (first | rw [up_n (by omega)] | rfl)) (by repeat (first | rw [up_i (by decide)] | rfl)) ?_ ?_
                    · repeat rw [up_i (by decide)]
                      rw [up_s]
                      rw [e0]
                      first
                      | (rw [e1]; first | (rw [if_pos (by unfold fTwo; omega)]; omega) | rw [if_neg (by unfold fTwo; omega)])
                      | rw [if_neg (by unfold fTwo; omega)]
                    · rw [e0]
                      try rw [e1]
                      simp (disch := omega) only [up_s, up_i]
                      first
                      | exact Or.inl ⟨by omega, by omega, by omega, by omega⟩
                      | exact Or.inr (Or.inl ⟨by omega, by omega, by omega, by omega⟩)
                      | exact Or.inr (Or.inr (Or.inl ⟨by omega, by omega, by omega, by omega, by omega⟩))
                      | exact Or.inr (Or.inr (Or.inr (Or.inl ⟨by omega, by omega, by omega⟩)))
                      | exact Or.inr (Or.inr (Or.inr (Or.inr (Or.inl ⟨by omega, by omega, by omega, by omega⟩))))
                      | exact Or.inr (Or.inr (Or.inr (Or.inr (Or.inr (Or.inl ⟨by omega, by omega, by omega, by omega⟩)))))
                      | exact Or.inr (Or.inr (Or.inr (Or.inr (Or.inr (Or.inr (Or.inl ⟨by omega, by omega, by omega⟩))))))
                      | exact Or.inr (Or.inr (Or.inr (Or.inr (Or.inr (Or.inr (Or.inr ⟨fun z => by rcases z with z | z | z | z | z | z | z | z | z | z | z <;> omega, by omega⟩))))))
                · exact absurd g (by simp [sx_cc])
              · simp only [sx_cc, Classical.not_not] at g
                conv => whnf
                refine ⟨fun g => ?_, fun g => ?_⟩
                · simp only [sx_cc, Classical.not_not] at g
                  conv => whnf
                  refine ⟨fun g => ?_, fun g => ?_⟩
                  · skip
                    conv => whnf
                    refine ⟨(by first | assumption | rfl), ?_⟩
                    try simp (disch := omega) only [Int.cast_ofNat_Int, up_s, up_a, up_i, mp_a, mp_ge]
                    try simp only [x0]
                    try simp only [x1]
                    try simp only [en]
                    try simp only [t0]
                    try simp only [lk_125]
                    conv => whnf
                    refine ⟨⟨by omega, by omega⟩, ?_⟩
                    conv => whnf
                    refine ⟨(by first | assumption | rfl), ?_⟩
                    try simp (disch := omega) only [Int.cast_ofNat_Int, up_s, up_a, up_i, mp_a, mp_ge]
                    try simp only [x0]
                    try simp only [x1]
                    try simp only [en]
                    try simp only [t0]
                    try simp only [lk_125]
                    conv => whnf
                    refine ⟨(by first | assumption | rfl), ?_⟩
                    try simp (disch := omega) only [Int.cast_ofNat_Int, up_s, up_a, up_i, mp_a, mp_ge]
                    try simp only [x0]
                    try simp only [x1]
                    try simp only [en]
                    try simp only [t0]
                    try simp only [lk_125]
                    conv => whnf
                    refine ⟨(by first | assumption | rfl), ?_⟩
                    try simp (disch := omega) only [Int.cast_ofNat_Int, up_s, up_a, up_i, mp_a, mp_ge]
                    try simp only [x0]
                    try simp only [x1]
                    try simp only [en]
                    try simp only [t0]
                    try simp only [lk_125]
                    conv => whnf
                    refine ⟨fun g => ?_, fun g => ?_⟩
                    · simp only [sx_cc, Classical.not_not] at g
                      conv => whnf
                      refine ⟨(by first | assumption | rfl), ?_⟩
                      try simp (disch := omega) only [Int.cast_ofNat_Int, up_s, up_a, up_i, mp_a, mp_ge]
                      try simp only [x0]
                      try simp only [x1]
                      try simp only [en]
                      try simp only [t0]
                      try simp only [lk_125]
                      conv => whnf
                      refine ⟨fun g => ?_, fun g => ?_⟩
                      · simp only [sx_cc, Classical.not_not] at g
                        conv => whnf
                        refine ⟨fun g => ?_, fun g => ?_⟩
                        · exact absurd g (by simp [sx_cc])
                        · skip
                          conv => whnf
                          refine ⟨(by first | assumption | rfl), ?_⟩
                          try simp (disch := omega) only [Int.cast_ofNat_Int, up_s, up_a, up_i, mp_a, mp_ge]
                          try simp only [x0]
                          try simp only [x1]
                          try simp only [en]
                          try simp only [t0]
                          try simp only [lk_125]
                          conv => whnf
                          refine ⟨rfl, ?_⟩
                          refine h _ (fun a j z9 => by unfold FRt at z9; repeat (first | rw [up_n (by omega)] | rfl)) (by repeat (first | rw [up_i (by decide)] | rfl)) ?_ ?_
                          · repeat rw [up_i (by decide)]
                            rw [up_s]
                            rw [e0]
                            first
                            | (rw [e1]; first | (rw [if_pos (by unfold fTwo; omega)]; omega) | rw [if_neg (by unfold fTwo; omega)])
                            | rw [if_neg (by unfold fTwo; omega)]
                          · rw [e0]
                            try rw [e1]
                            simp (disch := omega) only [up_s, up_i]
                            first
                            | exact Or.inl ⟨by omega, by omega, by omega, by omega⟩
                            | exact Or.inr (Or.inl ⟨by omega, by omega, by omega, by omega⟩)
                            | exact Or.inr (Or.inr (Or.inl ⟨by omega, by omega, by omega, by omega, by omega⟩))
                            | exact Or.inr (Or.inr (Or.inr (Or.inl ⟨by omega, by omega, by omega⟩)))
                            | exact Or.inr (Or.inr (Or.inr (Or.inr (Or.inl ⟨by omega, by omega, by omega, by omega⟩))))
                            | exact Or.inr (Or.inr (Or.inr (Or.inr (Or.inr (Or.inl ⟨by omega, by omega, by omega, by omega⟩)))))
                            | exact Or.inr (Or.inr (Or.inr (Or.inr (Or.inr (Or.inr (Or.inl ⟨by omega, by omega, by omega⟩))))))
                            | exact Or.inr (Or.inr (Or.inr (Or.inr (Or.inr (Or.inr (Or.inr ⟨fun z => by rcases z with z | z | z | z | z | z | z | z | z | z | z <;> omega, by omega⟩))))))
                      · simp only [sx_cc, Classical.not_not] at g
                        conv => whnf
                        refine ⟨fun g => ?_, fun g => ?_⟩
                        · exact absurd g (by simp [sx_cc])
                        · skip
                          conv => whnf
                          refine ⟨(by first | assumption | rfl), ?_⟩
                          try simp (disch := omega) only [Int.cast_ofNat_Int, up_s, up_a, up_i, mp_a, mp_ge]
                          try simp only [x0]
                          try simp only [x1]
                          try simp only [en]
                          try simp only [t0]
                          try simp only [lk_125]
                          conv => whnf
                          refine ⟨rfl, ?_⟩
                          refine h _ (fun a j z9 => by unfold FRt at z9; repeat (first | rw [up_n (by omega)] | rfl)) (by repeat (first | rw [up_i (by decide)] | rfl)) ?_ ?_
                          · repeat rw [up_i (by decide)]
                            rw [up_s]
                            rw [e0]
                            first
                            | (rw [e1]; first | (rw [if_pos (by unfold fTwo; omega)]; omega) | rw [if_neg (by unfold fTwo; omega)])
                            | rw [if_neg (by unfold fTwo; omega)]
                          · rw [e0]
                            try rw [e1]
                            simp (disch := omega) only [up_s, up_i]
                            first
                            | exact Or.inl ⟨by omega, by omega, by omega, by omega⟩
                            | exact Or.inr (Or.inl ⟨by omega, by omega, by omega, by omega⟩)
                            | exact Or.inr (Or.inr (Or.inl ⟨by omega, by omega, by omega, by omega, by omega⟩))
                            | exact Or.inr (Or.inr (Or.inr (Or.inl ⟨by omega, by omega, by omega⟩)))
                            | exact Or.inr (Or.inr (Or.inr (Or.inr (Or.inl ⟨by omega, by omega, by omega, by omega⟩))))
                            | exact Or.inr (Or.inr (Or.inr (Or.inr (Or.inr (Or.inl ⟨by omega, by omega, by omega, by omega⟩)))))
                            | exact Or.inr (Or.inr (Or.inr (Or.inr (Or.inr (Or.inr (Or.inl ⟨by omega, by omega, by omega⟩))))))
                            | exact Or.inr (Or.inr (Or.inr (Or.inr (Or.inr (Or.inr (Or.inr ⟨fun z => by rcases z with z | z | z | z | z | z | z | z | z | z | z <;> omega, by omega⟩))))))
                    · simp only [sx_cc, Classical.not_not] at g
                      conv => whnf
                      refine ⟨(by first | assumption | rfl), ?_⟩
                      try simp (disch := omega) only [Int.cast_ofNat_Int, up_s, up_a, up_i, mp_a, mp_ge]
                      try simp only [x0]
                      try simp only [x1]
                      try simp only [en]
                      try simp only [t0]
                      try simp only [lk_125]
                      conv => whnf
                      refine ⟨rfl, ?_⟩
                      refine h _ (fun a j z9 => by unfold FRt at z9; repeat (first | rw [up_n (by omega)] | rfl)) (by repeat (first | rw [up_i (by decide)] | rfl)) ?_ ?_
                      · repeat rw [up_i (by decide)]
                        rw [up_s]
                        rw [e0]
                        first
                        | (rw [e1]; first | (rw [if_pos (by unfold fTwo; omega)]; omega) | rw [if_neg (by unfold fTwo; omega)])
                        | rw [if_neg (by unfold fTwo; omega)]
                      · rw [e0]
                        try rw [e1]
                        simp (disch := omega) only [up_s, up_i]
                        first
                        | exact Or.inl ⟨by omega, by omega, by omega, by omega⟩
                        | exact Or.inr (Or.inl ⟨by omega, by omega, by omega, by omega⟩)
                        | exact Or.inr (Or.inr (Or.inl ⟨by omega, by omega, by omega, by omega, by omega⟩))
                        | exact Or.inr (Or.inr (Or.inr (Or.inl ⟨by omega, by omega, by omega⟩)))
                        | exact Or.inr (Or.inr (Or.inr (Or.inr (Or.inl ⟨by omega, by omega, by omega, by omega⟩))))
                        | exact Or.inr (Or.inr (Or.inr (Or.inr (Or.inr (Or.inl ⟨by omega, by omega, by omega, by omega⟩)))))
                        | exact Or.inr (Or.inr (Or.inr (Or.inr (Or.inr (Or.inr (Or.inl ⟨by omega, by omega, by omega⟩))))))
                        | exact Or.inr (Or.inr (Or.inr (Or.inr (Or.inr (Or.inr (Or.inr ⟨fun z => by rcases z with z | z | z | z | z | z | z | z | z | z | z <;> omega, by omega⟩))))))
                  · exact absurd g (by simp [sx_cc])
                · simp only [sx_cc, Classical.not_not] at g
                  conv => whnf
                  refine ⟨fun g => ?_, fun g => ?_⟩
                  · skip
                    conv => whnf
                    refine ⟨(by first | assumption | rfl), ?_⟩
                    try simp (disch := omega) only [Int.cast_ofNat_Int, up_s, up_a, up_i, mp_a, mp_ge]
                    try simp only [x0]
                    try simp only [x1]
                    try simp only [en]
                    try simp only [t0]
                    try simp only [lk_125]
                    conv => whnf
                    refine ⟨⟨by omega, by omega⟩, ?_⟩
                    conv => whnf
                    refine ⟨(by first | assumption | rfl), ?_⟩
                    try simp (disch := omega) only [Int.cast_ofNat_Int, up_s, up_a, up_i, mp_a, mp_ge]
                    try simp only [x0]
                    try simp only [x1]
                    try simp only [en]
                    try simp only [t0]
                    try simp only [lk_125]
                    conv => whnf
                    refine ⟨(by first | assumption | rfl), ?_⟩
                    try simp (disch := omega) only [Int.cast_ofNat_Int, up_s, up_a, up_i, mp_a, mp_ge]
                    try simp only [x0]
                    try simp only [x1]
                    try simp only [en]
                    try simp only [t0]
                    try simp only [lk_125]
                    conv => whnf
                    refine ⟨(by first | assumption | rfl), ?_⟩
                    try simp (disch := omega) only [Int.cast_ofNat_Int, up_s, up_a, up_i, mp_a, mp_ge]
                    try simp only [x0]
                    try simp only [x1]
                    try simp only [en]
                    try simp only [t0]
                    try simp only [lk_125]
                    conv => whnf
                    refine ⟨fun g => ?_, fun g => ?_⟩
                    · simp only [sx_cc, Classical.not_not] at g
                      conv => whnf
                      refine ⟨(by first | assumption | rfl), ?_⟩
                      try simp (disch := omega) only [Int.cast_ofNat_Int, up_s, up_a, up_i, mp_a, mp_ge]
                      try simp only [x0]
                      try simp only [x1]
                      try simp only [en]
                      try simp only [t0]
                      try simp only [lk_125]
                      conv => whnf
                      refine ⟨fun g => ?_, fun g => ?_⟩
                      · simp only [sx_cc, Classical.not_not] at g
                        conv => whnf
                        refine ⟨fun g => ?_, fun g => ?_⟩
                        · exact absurd g (by simp [sx_cc])
                        · skip
                          conv => whnf
                          refine ⟨(by first | assumption | rfl), ?_⟩
                          try simp (disch := omega) only [Int.cast_ofNat_Int, up_s, up_a, up_i, mp_a, mp_ge]
                          try simp only [x0]
                          try simp only [x1]
                          try simp only [en]
                          try simp only [t0]
                          try simp only [lk_125]
                          conv => whnf
                          refine ⟨rfl, ?_⟩
                          refine h _ (fun a j z9 => by unfold FRt at z9; repeat (first | rw [up_n (by omega)] | rfl)) (by repeat (first | rw [up_i (by decide)] | rfl)) ?_ ?_
                          · repeat rw [up_i (by decide)]
                            rw [up_s]
                            rw [e0]
                            first
                            | (rw [e1]; first | (rw [if_pos (by unfold fTwo; omega)]; omega) | rw [if_neg (by unfold fTwo; omega)])
                            | rw [if_neg (by unfold fTwo; omega)]
                          · rw [e0]
                            try rw [e1]
                            simp (disch := omega) only [up_s, up_i]
                            first
                            | exact Or.inl ⟨by omega, by omega, by omega, by omega⟩
                            | exact Or.inr (Or.inl ⟨by omega, by omega, by omega, by omega⟩)
                            | exact Or.inr (Or.inr (Or.inl ⟨by omega, by omega, by omega, by omega, by omega⟩))
                            | exact Or.inr (Or.inr (Or.inr (Or.inl ⟨by omega, by omega, by omega⟩)))
                            | exact Or.inr (Or.inr (Or.inr (Or.inr (Or.inl ⟨by omega, by omega, by omega, by omega⟩))))
                            | exact Or.inr (Or.inr (Or.inr (Or.inr (Or.inr (Or.inl ⟨by omega, by omega, by omega, by omega⟩)))))
                            | exact Or.inr (Or.inr (Or.inr (Or.inr (Or.inr (Or.inr (Or.inl ⟨by omega, by omega, by omega⟩))))))
                            | exact Or.inr (Or.inr (Or.inr (Or.inr (Or.inr (Or.inr (Or.inr ⟨fun z => by rcases z with z | z | z | z | z | z | z | z | z | z | z <;> omega, by omega⟩))))))
                      · simp only [sx_cc, Classical.not_not] at g
                        conv => whnf
                        refine ⟨fun g => ?_, fun g => ?_⟩
                        · exact absurd g (by simp [sx_cc])
                        · skip
                          conv => whnf
                          refine ⟨(by first | assumption | rfl), ?_⟩
                          try simp (disch := omega) only [Int.cast_ofNat_Int, up_s, up_a, up_i, mp_a, mp_ge]
                          try simp only [x0]
                          try simp only [x1]
                          try simp only [en]
                          try simp only [t0]
                          try simp only [lk_125]
                          conv => whnf
                          refine ⟨rfl, ?_⟩
                          refine h _ (fun a j z9 => by unfold FRt at z9; repeat (first | rw [up_n (by omega)] | rfl)) (by repeat (first | rw [up_i (by decide)] | rfl)) ?_ ?_
                          · repeat rw [up_i (by decide)]
                            rw [up_s]
                            rw [e0]
                            first
                            | (rw [e1]; first | (rw [if_pos (by unfold fTwo; omega)]; omega) | rw [if_neg (by unfold fTwo; omega)])
                            | rw [if_neg (by unfold fTwo; omega)]
                          · rw [e0]
                            try rw [e1]
                            simp (disch := omega) only [up_s, up_i]
                            first
                            | exact Or.inl ⟨by omega, by omega, by omega, by omega⟩
                            | exact Or.inr (Or.inl ⟨by omega, by omega, by omega, by omega⟩)
                            | exact Or.inr (Or.inr (Or.inl ⟨by omega, by omega, by omega, by omega, by omega⟩))
                            | exact Or.inr (Or.inr (Or.inr (Or.inl ⟨by omega, by omega, by omega⟩)))
                            | exact Or.inr (Or.inr (Or.inr (Or.inr (Or.inl ⟨by omega, by omega, by omega, by omega⟩))))
                            | exact Or.inr (Or.inr (Or.inr (Or.inr (Or.inr (Or.inl ⟨by omega, by omega, by omega, by omega⟩)))))
                            | exact Or.inr (Or.inr (Or.inr (Or.inr (Or.inr (Or.inr (Or.inl ⟨by omega, by omega, by omega⟩))))))
                            | exact Or.inr (Or.inr (Or.inr (Or.inr (Or.inr (Or.inr (Or.inr ⟨fun z => by rcases z with z | z | z | z | z | z | z | z | z | z | z <;> omega, by omega⟩))))))
                    · simp only [sx_cc, Classical.not_not] at g
                      conv => whnf
                      refine ⟨(by first | assumption | rfl), ?_⟩
                      try simp (disch := omega) only [Int.cast_ofNat_Int, up_s, up_a, up_i, mp_a, mp_ge]
                      try simp only [x0]
                      try simp only [x1]
                      try simp only [en]
                      try simp only [t0]
                      try simp only [lk_125]
                      conv => whnf
                      refine ⟨rfl, ?_⟩
                      refine h _ (fun a j z9 => by unfold FRt at z9; repeat (first | rw [up_n (by omega)] | rfl)) (by repeat (first | rw [up_i (by decide)] | rfl)) ?_ ?_
                      · repeat rw [up_i (by decide)]
                        rw [up_s]
                        rw [e0]
                        first
                        | (rw [e1]; first | (rw [if_pos (by unfold fTwo; omega)]; omega) | rw [if_neg (by unfold fTwo; omega)])
                        | rw [if_neg (by unfold fTwo; omega)]
                      · rw [e0]
                        try rw [e1]
                        simp (disch := omega) only [up_s, up_i]
                        first
                        | exact Or.inl ⟨by omega, by omega, by omega, by omega⟩
                        | exact Or.inr (Or.inl ⟨by omega, by omega, by omega, by omega⟩)
                        | exact Or.inr (Or.inr (Or.inl ⟨by omega, by omega, by omega, by omega, by omega⟩))
                        | exact Or.inr (Or.inr (Or.inr (Or.inl ⟨by omega, by omega, by omega⟩)))
                        | exact Or.inr (Or.inr (Or.inr (Or.inr (Or.inl ⟨by omega, by omega, by omega, by omega⟩))))
                        | exact Or.inr (Or.inr (Or.inr (Or.inr (Or.inr (Or.inl ⟨by omega, by omega, by omega, by omega⟩)))))
                        | exact Or.inr (Or.inr (Or.inr (Or.inr (Or.inr (Or.inr (Or.inl ⟨by omega, by omega, by omega⟩))))))
                        | exact Or.inr (Or.inr (Or.inr (Or.inr (Or.inr (Or.inr (Or.inr ⟨fun z => by rcases z with z | z | z | z | z | z | z | z | z | z | z <;> omega, by omega⟩))))))
                  · exact absurd g (by simp [sx_cc])
set_option maxRecDepth 20000 in
theorem c_Rtok (hT : PT σ) (hx : rLx σ tx n9) (hwd : rWd σ) {i : Int} (en : σ 124 7 = i) (hi : 0 ≤ i ∧ i ≤ n9) (h : ∀ (σ' : sx_S), fr FRt σ σ' → rTk σ' tx n9 i → Q none shM σ') : sx_Run X 183 [.inr (.inr 124)] shM σ Q := by
  have hn := hx.2.2.1
  have hfi : fr FRt σ σ := fun _ _ _ => rfl
  have hx' := hx
  have hwd' := hwd
  obtain ⟨x0, x1, x2, x3⟩ := hx
  obtain ⟨e, ei⟩ : ∃ e : Int, e = i := ⟨i, rfl⟩
  have ey : σ 124 7 = e := en.trans ei.symm
  have he0 : i ≤ e := by omega
  have he1 : e ≤ n9 := by omega
  have hsp : ∀ j : Int, i ≤ j → j < e → pSpc (fTx tx n9 j) := fun j y0 y1 => by omega
  refine sx_rule2 (own := 12) (cd := kX12_token) (nL := 1) (by decide +kernel) (by decide +kernel) kX12_token_ok (by decide +kernel) (Nat.le_of_ble_eq_true rfl) [0, 90, 213] 40 (fun n t L st _ σ' => (t = 0 ∧ st = [] ∧ L = [some (.inr (.inr (124)))] ∧ (∃ e : Int, fr FRt σ σ' ∧ i ≤ e ∧ e ≤ n9 ∧ (∀ j : Int, i ≤ j → j < e → pSpc (fTx tx n9 j)) ∧ σ' 124 7 = e) ∧ n = (5000 - σ' 124 7).toNat) ∨ (t = 90 ∧ st = [] ∧ L = [some (.inr (.inr (124)))] ∧ (∃ s e : Int, fr FRt σ σ' ∧ kS tx n9 i = s ∧ i ≤ s ∧ s < n9 ∧ pLet (fTx tx n9 s) ∧ s ≤ e ∧ e ≤ n9 ∧ (∀ j : Int, s ≤ j → j < e → pLet (fTx tx n9 j)) ∧ σ' 124 7 = e ∧ σ' 124 10 = s) ∧ n = (2000 - σ' 124 7).toNat) ∨ (t = 213 ∧ st = [] ∧ L = [some (.inr (.inr (124)))] ∧ (∃ s e : Int, fr FRt σ σ' ∧ kS tx n9 i = s ∧ i ≤ s ∧ s < n9 ∧ ¬ pLet (fTx tx n9 s) ∧ pDig (fTx tx n9 s) ∧ s ≤ e ∧ e ≤ n9 ∧ (∀ j : Int, s ≤ j → j < e → pDig (fTx tx n9 j)) ∧ σ' 124 7 = e ∧ σ' 124 10 = s ∧ σ' 124 8 = 3 ∧ σ' 124 9 = fNur tx s (e - s).toNat) ∧ n = (2000 - σ' 124 7).toNat)) ?_ ?_
  · skip
    conv => whnf
    refine ⟨(by first | assumption | rfl), ?_⟩
    try simp (disch := omega) only [Int.cast_ofNat_Int, up_s, up_a, up_i, mp_a, mp_ge]
    try simp only [x0]
    try simp only [x1]
    try simp only [ey]
    try simp only [t0]
    try simp only [lk_125]
    try simp only [ea]
    try simp only [ek8]
    try simp only [ev]
    conv => whnf
    refine ⟨(by first | assumption | rfl), ?_⟩
    try simp (disch := omega) only [Int.cast_ofNat_Int, up_s, up_a, up_i, mp_a, mp_ge]
    try simp only [x0]
    try simp only [x1]
    try simp only [ey]
    try simp only [t0]
    try simp only [lk_125]
    try simp only [ea]
    try simp only [ek8]
    try simp only [ev]
    conv => whnf
    refine ⟨fun g => ?_, fun g => ?_⟩
    · simp only [sx_cc, Classical.not_not] at g
      have hs : kS tx n9 i = e := kS_of hn.2 hi.1 he0 he1 hsp (qS_n e (by omega))
      conv => whnf
      refine ⟨(by first | assumption | rfl), ?_⟩
      try simp (disch := omega) only [Int.cast_ofNat_Int, up_s, up_a, up_i, mp_a, mp_ge]
      try simp only [x0]
      try simp only [x1]
      try simp only [ey]
      try simp only [t0]
      try simp only [lk_125]
      try simp only [ea]
      try simp only [ek8]
      try simp only [ev]
      conv => whnf
      refine ⟨(by first | assumption | rfl), ?_⟩
      try simp (disch := omega) only [Int.cast_ofNat_Int, up_s, up_a, up_i, mp_a, mp_ge]
      try simp only [x0]
      try simp only [x1]
      try simp only [ey]
      try simp only [t0]
      try simp only [lk_125]
      try simp only [ea]
      try simp only [ek8]
      try simp only [ev]
      conv => whnf
      refine ⟨(by first | assumption | rfl), ?_⟩
      try simp (disch := omega) only [Int.cast_ofNat_Int, up_s, up_a, up_i, mp_a, mp_ge]
      try simp only [x0]
      try simp only [x1]
      try simp only [ey]
      try simp only [t0]
      try simp only [lk_125]
      try simp only [ea]
      try simp only [ek8]
      try simp only [ev]
      conv => whnf
      refine ⟨(by first | assumption | rfl), ?_⟩
      try simp (disch := omega) only [Int.cast_ofNat_Int, up_s, up_a, up_i, mp_a, mp_ge]
      try simp only [x0]
      try simp only [x1]
      try simp only [ey]
      try simp only [t0]
      try simp only [lk_125]
      try simp only [ea]
      try simp only [ek8]
      try simp only [ev]
      conv => whnf
      refine ⟨fun g => ?_, fun g => ?_⟩
      · simp only [sx_cc, Classical.not_not] at g
        conv => whnf
        refine ⟨(by first | assumption | rfl), ?_⟩
        try simp (disch := omega) only [Int.cast_ofNat_Int, up_s, up_a, up_i, mp_a, mp_ge]
        try simp only [x0]
        try simp only [x1]
        try simp only [ey]
        try simp only [t0]
        try simp only [lk_125]
        try simp only [ea]
        try simp only [ek8]
        try simp only [ev]
        conv => whnf
        refine ⟨Nat.le_of_ble_eq_true rfl, Nat.le_of_ble_eq_true rfl, (by first | assumption | rfl), ?_⟩
        refine c_Rsmall (rLx_of hx' (fun a j z9 => by rw [up_n (by omega)])) (i := e) (by omega) (fun hl => ?_) (fun hl => ?_)
        · skip
          conv => whnf
          refine ⟨fun g => ?_, fun g => ?_⟩
          · exact absurd g (by simp [sx_cc])
          · skip
            conv => whnf
            refine ⟨_, Or.inr (Or.inl ⟨rfl, rfl, rfl, ?_, rfl⟩)⟩
            exact ⟨e, e, hfi.trans (fun a j z9 => by unfold FRt at z9; rw [up_n (by omega)]), hs, he0, by omega, hl, by omega, by omega, fun j y0 y1 => by omega, by rw [up_i (by decide)]; exact ey, up_s⟩
        · skip
          conv => whnf
          refine ⟨fun g => ?_, fun g => ?_⟩
          · skip
            conv => whnf
            refine ⟨(by first | assumption | rfl), ?_⟩
            try simp (disch := omega) only [Int.cast_ofNat_Int, up_s, up_a, up_i, mp_a, mp_ge]
            try simp only [x0]
            try simp only [x1]
            try simp only [ey]
            try simp only [t0]
            try simp only [lk_125]
            try simp only [ea]
            try simp only [ek8]
            try simp only [ev]
            conv => whnf
            refine ⟨Nat.le_of_ble_eq_true rfl, Nat.le_of_ble_eq_true rfl, (by first | assumption | rfl), ?_⟩
            refine c_Rdigit (rLx_of hx' (fun a j z9 => by rw [up_n (by omega)])) (i := e) (by omega) (fun hd => ?_) (fun hd => ?_)
            · skip
              conv => whnf
              refine ⟨fun g => ?_, fun g => ?_⟩
              · exact absurd g (by simp [sx_cc])
              · skip
                conv => whnf
                refine ⟨(by first | assumption | rfl), ?_⟩
                try simp (disch := omega) only [Int.cast_ofNat_Int, up_s, up_a, up_i, mp_a, mp_ge]
                try simp only [x0]
                try simp only [x1]
                try simp only [ey]
                try simp only [t0]
                try simp only [lk_125]
                try simp only [ea]
                try simp only [ek8]
                try simp only [ev]
                conv => whnf
                refine ⟨(by first | assumption | rfl), ?_⟩
                try simp (disch := omega) only [Int.cast_ofNat_Int, up_s, up_a, up_i, mp_a, mp_ge]
                try simp only [x0]
                try simp only [x1]
                try simp only [ey]
                try simp only [t0]
                try simp only [lk_125]
                try simp only [ea]
                try simp only [ek8]
                try simp only [ev]
                conv => whnf
                refine ⟨_, Or.inr (Or.inr (⟨rfl, rfl, rfl, ?_, rfl⟩))⟩
                exact ⟨e, e, hfi.trans (fun a j z9 => by unfold FRt at z9; rw [up_n (by omega), up_n (by omega), up_n (by omega)]), hs, he0, by omega, hl, hd, by omega, by omega, fun j y0 y1 => by omega, by rw [up_i (by decide), up_i (by decide), up_i (by decide)]; exact ey, by rw [up_i (by decide), up_i (by decide), up_s], by rw [up_i (by decide), up_s], by rw [up_s, show (e - e).toNat = 0 by omega]; rfl⟩
            · skip
              conv => whnf
              refine ⟨fun g => ?_, fun g => ?_⟩
              · skip
                conv => whnf
                refine ⟨Nat.le_of_ble_eq_true rfl, Nat.le_of_ble_eq_true rfl, (by first | assumption | rfl), ?_⟩
                refine c_Rsign (fr.ptrt (hfi.trans (fun a j z9 => by unfold FRt at z9; rw [up_n (by omega)])) hT) (rLx_of hx' (fun a j z9 => by rw [up_n (by omega)])) (y := e) (by rw [up_i (by decide)]; exact ey) (by omega) (fun σ3 hf3 r10 r7 rp => ?_)
                conv => whnf
                refine ⟨rfl, ?_⟩
                first
                | (exfalso; omega)
                | exact h _ (hfi.trans (fun a j z9 => by unfold FRt at z9; rw [hf3 a j (by unfold FRt; omega), up_n (by omega)])) (rTk_sgn hs (by omega) hl hd r7 rp (r10.trans up_s))
                | exact h _ (hfi.trans (fun a j z9 => by unfold FRt at z9; rw [up_n (by omega), up_n (by omega)])) (rTk_end hs (by omega) (by rw [up_i (by decide), up_i (by decide)]; exact ey) up_s (by rw [up_i (by decide), up_s]))
                | exact h _ (hfi.trans (fun a j z9 => by unfold FRt at z9; rw [up_n (by omega), up_n (by omega)])) (rTk_hit hs hsn hl ek ⟨k0, k1⟩ hm (by rw [up_i (by decide), up_i (by decide)]; exact ey) up_s (by rw [up_i (by decide), up_s]) (by rw [up_i (by decide), up_i (by decide)]; exact ea))
                | exact h _ (hfi.trans (fun a j z9 => by unfold FRt at z9; rw [up_n (by omega), up_n (by omega)])) (rTk_bad hs hsn hl ek (by omega) (by rw [up_i (by decide), up_i (by decide)]; exact ey) up_s (by rw [up_i (by decide), up_i (by decide)]; exact ea))
                | exact h _ (hfi.trans (fun a j z9 => by unfold FRt at z9; rw [up_n (by omega), up_n (by omega), up_n (by omega)])) (rTk_nam hs hsn hl ek (by omega) hall hm (by rw [up_i (by decide), up_i (by decide), up_i (by decide)]; exact ey) (by rw [up_i (by decide), up_s]) up_s (by rw [up_i (by decide), up_i (by decide), up_i (by decide)]; exact ea))
                | exact h _ hfi (rTk_dig hs hsn hl hd0 ek he0 hall ey ek8 ev ea)
              · exact absurd g (by simp [sx_cc])
          · exact absurd g (by simp [sx_cc])
      · simp only [sx_cc, Classical.not_not] at g
        conv => whnf
        refine ⟨(by first | assumption | rfl), ?_⟩
        try simp (disch := omega) only [Int.cast_ofNat_Int, up_s, up_a, up_i, mp_a, mp_ge]
        try simp only [x0]
        try simp only [x1]
        try simp only [ey]
        try simp only [t0]
        try simp only [lk_125]
        try simp only [ea]
        try simp only [ek8]
        try simp only [ev]
        conv => whnf
        refine ⟨rfl, ?_⟩
        first
        | (exfalso; omega)
        | exact h _ (hfi.trans (fun a j z9 => by unfold FRt at z9; rw [hf3 a j (by unfold FRt; omega), up_n (by omega)])) (rTk_sgn hs (by omega) hl hd r7 rp (r10.trans up_s))
        | exact h _ (hfi.trans (fun a j z9 => by unfold FRt at z9; rw [up_n (by omega), up_n (by omega)])) (rTk_end hs (by omega) (by rw [up_i (by decide), up_i (by decide)]; exact ey) up_s (by rw [up_i (by decide), up_s]))
        | exact h _ (hfi.trans (fun a j z9 => by unfold FRt at z9; rw [up_n (by omega), up_n (by omega)])) (rTk_hit hs hsn hl ek ⟨k0, k1⟩ hm (by rw [up_i (by decide), up_i (by decide)]; exact ey) up_s (by rw [up_i (by decide), up_s]) (by rw [up_i (by decide), up_i (by decide)]; exact ea))
        | exact h _ (hfi.trans (fun a j z9 => by unfold FRt at z9; rw [up_n (by omega), up_n (by omega)])) (rTk_bad hs hsn hl ek (by omega) (by rw [up_i (by decide), up_i (by decide)]; exact ey) up_s (by rw [up_i (by decide), up_i (by decide)]; exact ea))
        | exact h _ (hfi.trans (fun a j z9 => by unfold FRt at z9; rw [up_n (by omega), up_n (by omega), up_n (by omega)])) (rTk_nam hs hsn hl ek (by omega) hall hm (by rw [up_i (by decide), up_i (by decide), up_i (by decide)]; exact ey) (by rw [up_i (by decide), up_s]) up_s (by rw [up_i (by decide), up_i (by decide), up_i (by decide)]; exact ea))
        | exact h _ hfi (rTk_dig hs hsn hl hd0 ek he0 hall ey ek8 ev ea)
    · simp only [sx_cc, Classical.not_not] at g
      have t0 := x3 e (by omega) (by omega)
      have et : fTx tx n9 e = tx e := fTx_p (by omega)
      conv => whnf
      refine ⟨(by first | assumption | rfl), ?_⟩
      try simp (disch := omega) only [Int.cast_ofNat_Int, up_s, up_a, up_i, mp_a, mp_ge]
      try simp only [x0]
      try simp only [x1]
      try simp only [ey]
      try simp only [t0]
      try simp only [lk_125]
      try simp only [ea]
      try simp only [ek8]
      try simp only [ev]
      conv => whnf
      refine ⟨(by first | assumption | rfl), ?_⟩
      try simp (disch := omega) only [Int.cast_ofNat_Int, up_s, up_a, up_i, mp_a, mp_ge]
      try simp only [x0]
      try simp only [x1]
      try simp only [ey]
      try simp only [t0]
      try simp only [lk_125]
      try simp only [ea]
      try simp only [ek8]
      try simp only [ev]
      conv => whnf
      refine ⟨sx_ixI (by first | assumption | rfl) (by omega) (by omega), ?_⟩
      try simp (disch := omega) only [Int.cast_ofNat_Int, up_s, up_a, up_i, mp_a, mp_ge]
      try simp only [x0]
      try simp only [x1]
      try simp only [ey]
      try simp only [t0]
      try simp only [lk_125]
      try simp only [ea]
      try simp only [ek8]
      try simp only [ev]
      conv => whnf
      refine ⟨fun g => ?_, fun g => ?_⟩
      · simp only [sx_cc, Classical.not_not] at g
        conv => whnf
        refine ⟨(by first | assumption | rfl), ?_⟩
        try simp (disch := omega) only [Int.cast_ofNat_Int, up_s, up_a, up_i, mp_a, mp_ge]
        try simp only [x0]
        try simp only [x1]
        try simp only [ey]
        try simp only [t0]
        try simp only [lk_125]
        try simp only [ea]
        try simp only [ek8]
        try simp only [ev]
        conv => whnf
        refine ⟨⟨by omega, by omega⟩, ?_⟩
        conv => whnf
        refine ⟨(by first | assumption | rfl), ?_⟩
        try simp (disch := omega) only [Int.cast_ofNat_Int, up_s, up_a, up_i, mp_a, mp_ge]
        try simp only [x0]
        try simp only [x1]
        try simp only [ey]
        try simp only [t0]
        try simp only [lk_125]
        try simp only [ea]
        try simp only [ek8]
        try simp only [ev]
        conv => whnf
        refine ⟨_, Or.inl ⟨rfl, rfl, rfl, ?_, rfl⟩⟩
        refine ⟨e + 1, hfi.trans (fun a j z9 => by unfold FRt at z9; rw [up_n (by omega)]), by omega, by omega, fun j y0 y1 => ?_, by rw [up_s]⟩
        by_cases e9 : j = e
        · rw [e9]; unfold pSpc; omega
        · exact hsp j y0 (by omega)
      · simp only [sx_cc, Classical.not_not] at g
        conv => whnf
        refine ⟨(by first | assumption | rfl), ?_⟩
        try simp (disch := omega) only [Int.cast_ofNat_Int, up_s, up_a, up_i, mp_a, mp_ge]
        try simp only [x0]
        try simp only [x1]
        try simp only [ey]
        try simp only [t0]
        try simp only [lk_125]
        try simp only [ea]
        try simp only [ek8]
        try simp only [ev]
        conv => whnf
        refine ⟨(by first | assumption | rfl), ?_⟩
        try simp (disch := omega) only [Int.cast_ofNat_Int, up_s, up_a, up_i, mp_a, mp_ge]
        try simp only [x0]
        try simp only [x1]
        try simp only [ey]
        try simp only [t0]
        try simp only [lk_125]
        try simp only [ea]
        try simp only [ek8]
        try simp only [ev]
        conv => whnf
        refine ⟨sx_ixI (by first | assumption | rfl) (by omega) (by omega), ?_⟩
        try simp (disch := omega) only [Int.cast_ofNat_Int, up_s, up_a, up_i, mp_a, mp_ge]
        try simp only [x0]
        try simp only [x1]
        try simp only [ey]
        try simp only [t0]
        try simp only [lk_125]
        try simp only [ea]
        try simp only [ek8]
        try simp only [ev]
        conv => whnf
        refine ⟨fun g => ?_, fun g => ?_⟩
        · simp only [sx_cc, Classical.not_not] at g
          have hs : kS tx n9 i = e := kS_of hn.2 hi.1 he0 he1 hsp (by unfold pSpc; omega)
          conv => whnf
          refine ⟨(by first | assumption | rfl), ?_⟩
          try simp (disch := omega) only [Int.cast_ofNat_Int, up_s, up_a, up_i, mp_a, mp_ge]
          try simp only [x0]
          try simp only [x1]
          try simp only [ey]
          try simp only [t0]
          try simp only [lk_125]
          try simp only [ea]
          try simp only [ek8]
          try simp only [ev]
          conv => whnf
          refine ⟨(by first | assumption | rfl), ?_⟩
          try simp (disch := omega) only [Int.cast_ofNat_Int, up_s, up_a, up_i, mp_a, mp_ge]
          try simp only [x0]
          try simp only [x1]
          try simp only [ey]
          try simp only [t0]
          try simp only [lk_125]
          try simp only [ea]
          try simp only [ek8]
          try simp only [ev]
          conv => whnf
          refine ⟨(by first | assumption | rfl), ?_⟩
          try simp (disch := omega) only [Int.cast_ofNat_Int, up_s, up_a, up_i, mp_a, mp_ge]
          try simp only [x0]
          try simp only [x1]
          try simp only [ey]
          try simp only [t0]
          try simp only [lk_125]
          try simp only [ea]
          try simp only [ek8]
          try simp only [ev]
          conv => whnf
          refine ⟨(by first | assumption | rfl), ?_⟩
          try simp (disch := omega) only [Int.cast_ofNat_Int, up_s, up_a, up_i, mp_a, mp_ge]
          try simp only [x0]
          try simp only [x1]
          try simp only [ey]
          try simp only [t0]
          try simp only [lk_125]
          try simp only [ea]
          try simp only [ek8]
          try simp only [ev]
          conv => whnf
          refine ⟨fun g => ?_, fun g => ?_⟩
          · simp only [sx_cc, Classical.not_not] at g
            conv => whnf
            refine ⟨(by first | assumption | rfl), ?_⟩
            try simp (disch := omega) only [Int.cast_ofNat_Int, up_s, up_a, up_i, mp_a, mp_ge]
            try simp only [x0]
            try simp only [x1]
            try simp only [ey]
            try simp only [t0]
            try simp only [lk_125]
            try simp only [ea]
            try simp only [ek8]
            try simp only [ev]
            conv => whnf
            refine ⟨Nat.le_of_ble_eq_true rfl, Nat.le_of_ble_eq_true rfl, (by first | assumption | rfl), ?_⟩
            refine c_Rsmall (rLx_of hx' (fun a j z9 => by rw [up_n (by omega)])) (i := e) (by omega) (fun hl => ?_) (fun hl => ?_)
            · skip
              conv => whnf
              refine ⟨fun g => ?_, fun g => ?_⟩
              · exact absurd g (by simp [sx_cc])
              · skip
                conv => whnf
                refine ⟨_, Or.inr (Or.inl ⟨rfl, rfl, rfl, ?_, rfl⟩)⟩
                exact ⟨e, e, hfi.trans (fun a j z9 => by unfold FRt at z9; rw [up_n (by omega)]), hs, he0, by omega, hl, by omega, by omega, fun j y0 y1 => by omega, by rw [up_i (by decide)]; exact ey, up_s⟩
            · skip
              conv => whnf
              refine ⟨fun g => ?_, fun g => ?_⟩
              · skip
                conv => whnf
                refine ⟨(by first | assumption | rfl), ?_⟩
                try simp (disch := omega) only [Int.cast_ofNat_Int, up_s, up_a, up_i, mp_a, mp_ge]
                try simp only [x0]
                try simp only [x1]
                try simp only [ey]
                try simp only [t0]
                try simp only [lk_125]
                try simp only [ea]
                try simp only [ek8]
                try simp only [ev]
                conv => whnf
                refine ⟨Nat.le_of_ble_eq_true rfl, Nat.le_of_ble_eq_true rfl, (by first | assumption | rfl), ?_⟩
                refine c_Rdigit (rLx_of hx' (fun a j z9 => by rw [up_n (by omega)])) (i := e) (by omega) (fun hd => ?_) (fun hd => ?_)
                · skip
                  conv => whnf
                  refine ⟨fun g => ?_, fun g => ?_⟩
                  · exact absurd g (by simp [sx_cc])
                  · skip
                    conv => whnf
                    refine ⟨(by first | assumption | rfl), ?_⟩
                    try simp (disch := omega) only [Int.cast_ofNat_Int, up_s, up_a, up_i, mp_a, mp_ge]
                    try simp only [x0]
                    try simp only [x1]
                    try simp only [ey]
                    try simp only [t0]
                    try simp only [lk_125]
                    try simp only [ea]
                    try simp only [ek8]
                    try simp only [ev]
                    conv => whnf
                    refine ⟨(by first | assumption | rfl), ?_⟩
                    try simp (disch := omega) only [Int.cast_ofNat_Int, up_s, up_a, up_i, mp_a, mp_ge]
                    try simp only [x0]
                    try simp only [x1]
                    try simp only [ey]
                    try simp only [t0]
                    try simp only [lk_125]
                    try simp only [ea]
                    try simp only [ek8]
                    try simp only [ev]
                    conv => whnf
                    refine ⟨_, Or.inr (Or.inr (⟨rfl, rfl, rfl, ?_, rfl⟩))⟩
                    exact ⟨e, e, hfi.trans (fun a j z9 => by unfold FRt at z9; rw [up_n (by omega), up_n (by omega), up_n (by omega)]), hs, he0, by omega, hl, hd, by omega, by omega, fun j y0 y1 => by omega, by rw [up_i (by decide), up_i (by decide), up_i (by decide)]; exact ey, by rw [up_i (by decide), up_i (by decide), up_s], by rw [up_i (by decide), up_s], by rw [up_s, show (e - e).toNat = 0 by omega]; rfl⟩
                · skip
                  conv => whnf
                  refine ⟨fun g => ?_, fun g => ?_⟩
                  · skip
                    conv => whnf
                    refine ⟨Nat.le_of_ble_eq_true rfl, Nat.le_of_ble_eq_true rfl, (by first | assumption | rfl), ?_⟩
                    refine c_Rsign (fr.ptrt (hfi.trans (fun a j z9 => by unfold FRt at z9; rw [up_n (by omega)])) hT) (rLx_of hx' (fun a j z9 => by rw [up_n (by omega)])) (y := e) (by rw [up_i (by decide)]; exact ey) (by omega) (fun σ3 hf3 r10 r7 rp => ?_)
                    conv => whnf
                    refine ⟨rfl, ?_⟩
                    first
                    | (exfalso; omega)
                    | exact h _ (hfi.trans (fun a j z9 => by unfold FRt at z9; rw [hf3 a j (by unfold FRt; omega), up_n (by omega)])) (rTk_sgn hs (by omega) hl hd r7 rp (r10.trans up_s))
                    | exact h _ (hfi.trans (fun a j z9 => by unfold FRt at z9; rw [up_n (by omega), up_n (by omega)])) (rTk_end hs (by omega) (by rw [up_i (by decide), up_i (by decide)]; exact ey) up_s (by rw [up_i (by decide), up_s]))
                    | exact h _ (hfi.trans (fun a j z9 => by unfold FRt at z9; rw [up_n (by omega), up_n (by omega)])) (rTk_hit hs hsn hl ek ⟨k0, k1⟩ hm (by rw [up_i (by decide), up_i (by decide)]; exact ey) up_s (by rw [up_i (by decide), up_s]) (by rw [up_i (by decide), up_i (by decide)]; exact ea))
                    | exact h _ (hfi.trans (fun a j z9 => by unfold FRt at z9; rw [up_n (by omega), up_n (by omega)])) (rTk_bad hs hsn hl ek (by omega) (by rw [up_i (by decide), up_i (by decide)]; exact ey) up_s (by rw [up_i (by decide), up_i (by decide)]; exact ea))
                    | exact h _ (hfi.trans (fun a j z9 => by unfold FRt at z9; rw [up_n (by omega), up_n (by omega), up_n (by omega)])) (rTk_nam hs hsn hl ek (by omega) hall hm (by rw [up_i (by decide), up_i (by decide), up_i (by decide)]; exact ey) (by rw [up_i (by decide), up_s]) up_s (by rw [up_i (by decide), up_i (by decide), up_i (by decide)]; exact ea))
                    | exact h _ hfi (rTk_dig hs hsn hl hd0 ek he0 hall ey ek8 ev ea)
                  · exact absurd g (by simp [sx_cc])
              · exact absurd g (by simp [sx_cc])
          · simp only [sx_cc, Classical.not_not] at g
            conv => whnf
            refine ⟨(by first | assumption | rfl), ?_⟩
            try simp (disch := omega) only [Int.cast_ofNat_Int, up_s, up_a, up_i, mp_a, mp_ge]
            try simp only [x0]
            try simp only [x1]
            try simp only [ey]
            try simp only [t0]
            try simp only [lk_125]
            try simp only [ea]
            try simp only [ek8]
            try simp only [ev]
            conv => whnf
            refine ⟨rfl, ?_⟩
            first
            | (exfalso; omega)
            | exact h _ (hfi.trans (fun a j z9 => by unfold FRt at z9; rw [hf3 a j (by unfold FRt; omega), up_n (by omega)])) (rTk_sgn hs (by omega) hl hd r7 rp (r10.trans up_s))
            | exact h _ (hfi.trans (fun a j z9 => by unfold FRt at z9; rw [up_n (by omega), up_n (by omega)])) (rTk_end hs (by omega) (by rw [up_i (by decide), up_i (by decide)]; exact ey) up_s (by rw [up_i (by decide), up_s]))
            | exact h _ (hfi.trans (fun a j z9 => by unfold FRt at z9; rw [up_n (by omega), up_n (by omega)])) (rTk_hit hs hsn hl ek ⟨k0, k1⟩ hm (by rw [up_i (by decide), up_i (by decide)]; exact ey) up_s (by rw [up_i (by decide), up_s]) (by rw [up_i (by decide), up_i (by decide)]; exact ea))
            | exact h _ (hfi.trans (fun a j z9 => by unfold FRt at z9; rw [up_n (by omega), up_n (by omega)])) (rTk_bad hs hsn hl ek (by omega) (by rw [up_i (by decide), up_i (by decide)]; exact ey) up_s (by rw [up_i (by decide), up_i (by decide)]; exact ea))
            | exact h _ (hfi.trans (fun a j z9 => by unfold FRt at z9; rw [up_n (by omega), up_n (by omega), up_n (by omega)])) (rTk_nam hs hsn hl ek (by omega) hall hm (by rw [up_i (by decide), up_i (by decide), up_i (by decide)]; exact ey) (by rw [up_i (by decide), up_s]) up_s (by rw [up_i (by decide), up_i (by decide), up_i (by decide)]; exact ea))
            | exact h _ hfi (rTk_dig hs hsn hl hd0 ek he0 hall ey ek8 ev ea)
        · simp only [sx_cc, Classical.not_not] at g
          conv => whnf
          refine ⟨(by first | assumption | rfl), ?_⟩
          try simp (disch := omega) only [Int.cast_ofNat_Int, up_s, up_a, up_i, mp_a, mp_ge]
          try simp only [x0]
          try simp only [x1]
          try simp only [ey]
          try simp only [t0]
          try simp only [lk_125]
          try simp only [ea]
          try simp only [ek8]
          try simp only [ev]
          conv => whnf
          refine ⟨⟨by omega, by omega⟩, ?_⟩
          conv => whnf
          refine ⟨(by first | assumption | rfl), ?_⟩
          try simp (disch := omega) only [Int.cast_ofNat_Int, up_s, up_a, up_i, mp_a, mp_ge]
          try simp only [x0]
          try simp only [x1]
          try simp only [ey]
          try simp only [t0]
          try simp only [lk_125]
          try simp only [ea]
          try simp only [ek8]
          try simp only [ev]
          conv => whnf
          refine ⟨_, Or.inl ⟨rfl, rfl, rfl, ?_, rfl⟩⟩
          refine ⟨e + 1, hfi.trans (fun a j z9 => by unfold FRt at z9; rw [up_n (by omega)]), by omega, by omega, fun j y0 y1 => ?_, by rw [up_s]⟩
          by_cases e9 : j = e
          · rw [e9]; unfold pSpc; omega
          · exact hsp j y0 (by omega)
  · intro n t L st σ' hk
    rcases hk with hk | hk | hk
    · obtain ⟨rfl, rfl, rfl, hc, rfl⟩ := hk
      obtain ⟨e, hfi, he0, he1, hsp, ey⟩ := hc
      have hx' : rLx σ' tx n9 := rLx_of hx' (fun a j z9 => hfi a j (by unfold FRt; omega))
      have hwd' : rWd σ' := fun j y0 y1 => by rw [hfi 126 j (by unfold FRt; omega)]; exact hwd j y0 y1
      obtain ⟨x0, x1, x2, x3⟩ := hx'
      have hx' : rLx σ' tx n9 := ⟨x0, x1, x2, x3⟩
      conv => whnf
      refine ⟨(by first | assumption | rfl), ?_⟩
      try simp (disch := omega) only [Int.cast_ofNat_Int, up_s, up_a, up_i, mp_a, mp_ge]
      try simp only [x0]
      try simp only [x1]
      try simp only [ey]
      try simp only [t0]
      try simp only [lk_125]
      try simp only [ea]
      try simp only [ek8]
      try simp only [ev]
      conv => whnf
      refine ⟨(by first | assumption | rfl), ?_⟩
      try simp (disch := omega) only [Int.cast_ofNat_Int, up_s, up_a, up_i, mp_a, mp_ge]
      try simp only [x0]
      try simp only [x1]
      try simp only [ey]
      try simp only [t0]
      try simp only [lk_125]
      try simp only [ea]
      try simp only [ek8]
      try simp only [ev]
      conv => whnf
      refine ⟨fun g => ?_, fun g => ?_⟩
      · simp only [sx_cc, Classical.not_not] at g
        have hs : kS tx n9 i = e := kS_of hn.2 hi.1 he0 he1 hsp (qS_n e (by omega))
        conv => whnf
        refine ⟨(by first | assumption | rfl), ?_⟩
        try simp (disch := omega) only [Int.cast_ofNat_Int, up_s, up_a, up_i, mp_a, mp_ge]
        try simp only [x0]
        try simp only [x1]
        try simp only [ey]
        try simp only [t0]
        try simp only [lk_125]
        try simp only [ea]
        try simp only [ek8]
        try simp only [ev]
        conv => whnf
        refine ⟨(by first | assumption | rfl), ?_⟩
        try simp (disch := omega) only [Int.cast_ofNat_Int, up_s, up_a, up_i, mp_a, mp_ge]
        try simp only [x0]
        try simp only [x1]
        try simp only [ey]
        try simp only [t0]
        try simp only [lk_125]
        try simp only [ea]
        try simp only [ek8]
        try simp only [ev]
        conv => whnf
        refine ⟨(by first | assumption | rfl), ?_⟩
        try simp (disch := omega) only [Int.cast_ofNat_Int, up_s, up_a, up_i, mp_a, mp_ge]
        try simp only [x0]
        try simp only [x1]
        try simp only [ey]
        try simp only [t0]
        try simp only [lk_125]
        try simp only [ea]
        try simp only [ek8]
        try simp only [ev]
        conv => whnf
        refine ⟨(by first | assumption | rfl), ?_⟩
        try simp (disch := omega) only [Int.cast_ofNat_Int, up_s, up_a, up_i, mp_a, mp_ge]
        try simp only [x0]
        try simp only [x1]
        try simp only [ey]
        try simp only [t0]
        try simp only [lk_125]
        try simp only [ea]
        try simp only [ek8]
        try simp only [ev]
        conv => whnf
        refine ⟨fun g => ?_, fun g => ?_⟩
        · simp only [sx_cc, Classical.not_not] at g
          conv => whnf
          refine ⟨(by first | assumption | rfl), ?_⟩
          try simp (disch := omega) only [Int.cast_ofNat_Int, up_s, up_a, up_i, mp_a, mp_ge]
          try simp only [x0]
          try simp only [x1]
          try simp only [ey]
          try simp only [t0]
          try simp only [lk_125]
          try simp only [ea]
          try simp only [ek8]
          try simp only [ev]
          conv => whnf
          refine ⟨Nat.le_of_ble_eq_true rfl, Nat.le_of_ble_eq_true rfl, (by first | assumption | rfl), ?_⟩
          refine c_Rsmall (rLx_of hx' (fun a j z9 => by rw [up_n (by omega)])) (i := e) (by omega) (fun hl => ?_) (fun hl => ?_)
          · skip
            conv => whnf
            refine ⟨fun g => ?_, fun g => ?_⟩
            · exact absurd g (by simp [sx_cc])
            · skip
              conv => whnf
              refine ⟨_, ?_, Or.inr (Or.inl ⟨rfl, rfl, rfl, ?_, rfl⟩)⟩
              · try rw [up_i (by decide)]
                try rw [up_s]
                try rw [ey]
                omega
              · exact ⟨e, e, hfi.trans (fun a j z9 => by unfold FRt at z9; rw [up_n (by omega)]), hs, he0, by omega, hl, by omega, by omega, fun j y0 y1 => by omega, by rw [up_i (by decide)]; exact ey, up_s⟩
          · skip
            conv => whnf
            refine ⟨fun g => ?_, fun g => ?_⟩
            · skip
              conv => whnf
              refine ⟨(by first | assumption | rfl), ?_⟩
              try simp (disch := omega) only [Int.cast_ofNat_Int, up_s, up_a, up_i, mp_a, mp_ge]
              try simp only [x0]
              try simp only [x1]
              try simp only [ey]
              try simp only [t0]
              try simp only [lk_125]
              try simp only [ea]
              try simp only [ek8]
              try simp only [ev]
              conv => whnf
              refine ⟨Nat.le_of_ble_eq_true rfl, Nat.le_of_ble_eq_true rfl, (by first | assumption | rfl), ?_⟩
              refine c_Rdigit (rLx_of hx' (fun a j z9 => by rw [up_n (by omega)])) (i := e) (by omega) (fun hd => ?_) (fun hd => ?_)
              · skip
                conv => whnf
                refine ⟨fun g => ?_, fun g => ?_⟩
                · exact absurd g (by simp [sx_cc])
                · skip
                  conv => whnf
                  refine ⟨(by first | assumption | rfl), ?_⟩
                  try simp (disch := omega) only [Int.cast_ofNat_Int, up_s, up_a, up_i, mp_a, mp_ge]
                  try simp only [x0]
                  try simp only [x1]
                  try simp only [ey]
                  try simp only [t0]
                  try simp only [lk_125]
                  try simp only [ea]
                  try simp only [ek8]
                  try simp only [ev]
                  conv => whnf
                  refine ⟨(by first | assumption | rfl), ?_⟩
                  try simp (disch := omega) only [Int.cast_ofNat_Int, up_s, up_a, up_i, mp_a, mp_ge]
                  try simp only [x0]
                  try simp only [x1]
                  try simp only [ey]
                  try simp only [t0]
                  try simp only [lk_125]
                  try simp only [ea]
                  try simp only [ek8]
                  try simp only [ev]
                  conv => whnf
                  refine ⟨_, ?_, Or.inr (Or.inr (⟨rfl, rfl, rfl, ?_, rfl⟩))⟩
                  · try rw [up_i (by decide), up_i (by decide), up_i (by decide)]
                    try rw [up_s]
                    try rw [ey]
                    omega
                  · exact ⟨e, e, hfi.trans (fun a j z9 => by unfold FRt at z9; rw [up_n (by omega), up_n (by omega), up_n (by omega)]), hs, he0, by omega, hl, hd, by omega, by omega, fun j y0 y1 => by omega, by rw [up_i (by decide), up_i (by decide), up_i (by decide)]; exact ey, by rw [up_i (by decide), up_i (by decide), up_s], by rw [up_i (by decide), up_s], by rw [up_s, show (e - e).toNat = 0 by omega]; rfl⟩
              · skip
                conv => whnf
                refine ⟨fun g => ?_, fun g => ?_⟩
                · skip
                  conv => whnf
                  refine ⟨Nat.le_of_ble_eq_true rfl, Nat.le_of_ble_eq_true rfl, (by first | assumption | rfl), ?_⟩
                  refine c_Rsign (fr.ptrt (hfi.trans (fun a j z9 => by unfold FRt at z9; rw [up_n (by omega)])) hT) (rLx_of hx' (fun a j z9 => by rw [up_n (by omega)])) (y := e) (by rw [up_i (by decide)]; exact ey) (by omega) (fun σ3 hf3 r10 r7 rp => ?_)
                  conv => whnf
                  refine ⟨rfl, ?_⟩
                  first
                  | (exfalso; omega)
                  | exact h _ (hfi.trans (fun a j z9 => by unfold FRt at z9; rw [hf3 a j (by unfold FRt; omega), up_n (by omega)])) (rTk_sgn hs (by omega) hl hd r7 rp (r10.trans up_s))
                  | exact h _ (hfi.trans (fun a j z9 => by unfold FRt at z9; rw [up_n (by omega), up_n (by omega)])) (rTk_end hs (by omega) (by rw [up_i (by decide), up_i (by decide)]; exact ey) up_s (by rw [up_i (by decide), up_s]))
                  | exact h _ (hfi.trans (fun a j z9 => by unfold FRt at z9; rw [up_n (by omega), up_n (by omega)])) (rTk_hit hs hsn hl ek ⟨k0, k1⟩ hm (by rw [up_i (by decide), up_i (by decide)]; exact ey) up_s (by rw [up_i (by decide), up_s]) (by rw [up_i (by decide), up_i (by decide)]; exact ea))
                  | exact h _ (hfi.trans (fun a j z9 => by unfold FRt at z9; rw [up_n (by omega), up_n (by omega)])) (rTk_bad hs hsn hl ek (by omega) (by rw [up_i (by decide), up_i (by decide)]; exact ey) up_s (by rw [up_i (by decide), up_i (by decide)]; exact ea))
                  | exact h _ (hfi.trans (fun a j z9 => by unfold FRt at z9; rw [up_n (by omega), up_n (by omega), up_n (by omega)])) (rTk_nam hs hsn hl ek (by omega) hall hm (by rw [up_i (by decide), up_i (by decide), up_i (by decide)]; exact ey) (by rw [up_i (by decide), up_s]) up_s (by rw [up_i (by decide), up_i (by decide), up_i (by decide)]; exact ea))
                  | exact h _ hfi (rTk_dig hs hsn hl hd0 ek he0 hall ey ek8 ev ea)
                · exact absurd g (by simp [sx_cc])
            · exact absurd g (by simp [sx_cc])
        · simp only [sx_cc, Classical.not_not] at g
          conv => whnf
          refine ⟨(by first | assumption | rfl), ?_⟩
          try simp (disch := omega) only [Int.cast_ofNat_Int, up_s, up_a, up_i, mp_a, mp_ge]
          try simp only [x0]
          try simp only [x1]
          try simp only [ey]
          try simp only [t0]
          try simp only [lk_125]
          try simp only [ea]
          try simp only [ek8]
          try simp only [ev]
          conv => whnf
          refine ⟨rfl, ?_⟩
          first
          | (exfalso; omega)
          | exact h _ (hfi.trans (fun a j z9 => by unfold FRt at z9; rw [hf3 a j (by unfold FRt; omega), up_n (by omega)])) (rTk_sgn hs (by omega) hl hd r7 rp (r10.trans up_s))
          | exact h _ (hfi.trans (fun a j z9 => by unfold FRt at z9; rw [up_n (by omega), up_n (by omega)])) (rTk_end hs (by omega) (by rw [up_i (by decide), up_i (by decide)]; exact ey) up_s (by rw [up_i (by decide), up_s]))
          | exact h _ (hfi.trans (fun a j z9 => by unfold FRt at z9; rw [up_n (by omega), up_n (by omega)])) (rTk_hit hs hsn hl ek ⟨k0, k1⟩ hm (by rw [up_i (by decide), up_i (by decide)]; exact ey) up_s (by rw [up_i (by decide), up_s]) (by rw [up_i (by decide), up_i (by decide)]; exact ea))
          | exact h _ (hfi.trans (fun a j z9 => by unfold FRt at z9; rw [up_n (by omega), up_n (by omega)])) (rTk_bad hs hsn hl ek (by omega) (by rw [up_i (by decide), up_i (by decide)]; exact ey) up_s (by rw [up_i (by decide), up_i (by decide)]; exact ea))
          | exact h _ (hfi.trans (fun a j z9 => by unfold FRt at z9; rw [up_n (by omega), up_n (by omega), up_n (by omega)])) (rTk_nam hs hsn hl ek (by omega) hall hm (by rw [up_i (by decide), up_i (by decide), up_i (by decide)]; exact ey) (by rw [up_i (by decide), up_s]) up_s (by rw [up_i (by decide), up_i (by decide), up_i (by decide)]; exact ea))
          | exact h _ hfi (rTk_dig hs hsn hl hd0 ek he0 hall ey ek8 ev ea)
      · simp only [sx_cc, Classical.not_not] at g
        have t0 := x3 e (by omega) (by omega)
        have et : fTx tx n9 e = tx e := fTx_p (by omega)
        conv => whnf
        refine ⟨(by first | assumption | rfl), ?_⟩
        try simp (disch := omega) only [Int.cast_ofNat_Int, up_s, up_a, up_i, mp_a, mp_ge]
        try simp only [x0]
        try simp only [x1]
        try simp only [ey]
        try simp only [t0]
        try simp only [lk_125]
        try simp only [ea]
        try simp only [ek8]
        try simp only [ev]
        conv => whnf
        refine ⟨(by first | assumption | rfl), ?_⟩
        try simp (disch := omega) only [Int.cast_ofNat_Int, up_s, up_a, up_i, mp_a, mp_ge]
        try simp only [x0]
        try simp only [x1]
        try simp only [ey]
        try simp only [t0]
        try simp only [lk_125]
        try simp only [ea]
        try simp only [ek8]
        try simp only [ev]
        conv => whnf
        refine ⟨sx_ixI (by first | assumption | rfl) (by omega) (by omega), ?_⟩
        try simp (disch := omega) only [Int.cast_ofNat_Int, up_s, up_a, up_i, mp_a, mp_ge]
        try simp only [x0]
        try simp only [x1]
        try simp only [ey]
        try simp only [t0]
        try simp only [lk_125]
        try simp only [ea]
        try simp only [ek8]
        try simp only [ev]
        conv => whnf
        refine ⟨fun g => ?_, fun g => ?_⟩
        · simp only [sx_cc, Classical.not_not] at g
          conv => whnf
          refine ⟨(by first | assumption | rfl), ?_⟩
          try simp (disch := omega) only [Int.cast_ofNat_Int, up_s, up_a, up_i, mp_a, mp_ge]
          try simp only [x0]
          try simp only [x1]
          try simp only [ey]
          try simp only [t0]
          try simp only [lk_125]
          try simp only [ea]
          try simp only [ek8]
          try simp only [ev]
          conv => whnf
          refine ⟨⟨by omega, by omega⟩, ?_⟩
          conv => whnf
          refine ⟨(by first | assumption | rfl), ?_⟩
          try simp (disch := omega) only [Int.cast_ofNat_Int, up_s, up_a, up_i, mp_a, mp_ge]
          try simp only [x0]
          try simp only [x1]
          try simp only [ey]
          try simp only [t0]
          try simp only [lk_125]
          try simp only [ea]
          try simp only [ek8]
          try simp only [ev]
          conv => whnf
          refine ⟨_, ?_, Or.inl ⟨rfl, rfl, rfl, ?_, rfl⟩⟩
          · skip
            try rw [up_s]
            try rw [ey]
            omega
          · refine ⟨e + 1, hfi.trans (fun a j z9 => by unfold FRt at z9; rw [up_n (by omega)]), by omega, by omega, fun j y0 y1 => ?_, by rw [up_s]⟩
            by_cases e9 : j = e
            · rw [e9]; unfold pSpc; omega
            · exact hsp j y0 (by omega)
        · simp only [sx_cc, Classical.not_not] at g
          conv => whnf
          refine ⟨(by first | assumption | rfl), ?_⟩
          try simp (disch := omega) only [Int.cast_ofNat_Int, up_s, up_a, up_i, mp_a, mp_ge]
          try simp only [x0]
          try simp only [x1]
          try simp only [ey]
          try simp only [t0]
          try simp only [lk_125]
          try simp only [ea]
          try simp only [ek8]
          try simp only [ev]
          conv => whnf
          refine ⟨(by first | assumption | rfl), ?_⟩
          try simp (disch := omega) only [Int.cast_ofNat_Int, up_s, up_a, up_i, mp_a, mp_ge]
          try simp only [x0]
          try simp only [x1]
          try simp only [ey]
          try simp only [t0]
          try simp only [lk_125]
          try simp only [ea]
          try simp only [ek8]
          try simp only [ev]
          conv => whnf
          refine ⟨sx_ixI (by first | assumption | rfl) (by omega) (by omega), ?_⟩
          try simp (disch := omega) only [Int.cast_ofNat_Int, up_s, up_a, up_i, mp_a, mp_ge]
          try simp only [x0]
          try simp only [x1]
          try simp only [ey]
          try simp only [t0]
          try simp only [lk_125]
          try simp only [ea]
          try simp only [ek8]
          try simp only [ev]
          conv => whnf
          refine ⟨fun g => ?_, fun g => ?_⟩
          · simp only [sx_cc, Classical.not_not] at g
            have hs : kS tx n9 i = e := kS_of hn.2 hi.1 he0 he1 hsp (by unfold pSpc; omega)
            conv => whnf
            refine ⟨(by first | assumption | rfl), ?_⟩
            try simp (disch := omega) only [Int.cast_ofNat_Int, up_s, up_a, up_i, mp_a, mp_ge]
            try simp only [x0]
            try simp only [x1]
            try simp only [ey]
            try simp only [t0]
            try simp only [lk_125]
            try simp only [ea]
            try simp only [ek8]
            try simp only [ev]
            conv => whnf
            refine ⟨(by first | assumption | rfl), ?_⟩
            try simp (disch := omega) only [Int.cast_ofNat_Int, up_s, up_a, up_i, mp_a, mp_ge]
            try simp only [x0]
            try simp only [x1]
            try simp only [ey]
            try simp only [t0]
            try simp only [lk_125]
            try simp only [ea]
            try simp only [ek8]
            try simp only [ev]
            conv => whnf
            refine ⟨(by first | assumption | rfl), ?_⟩
            try simp (disch := omega) only [Int.cast_ofNat_Int, up_s, up_a, up_i, mp_a, mp_ge]
            try simp only [x0]
            try simp only [x1]
            try simp only [ey]
            try simp only [t0]
            try simp only [lk_125]
            try simp only [ea]
            try simp only [ek8]
            try simp only [ev]
            conv => whnf
            refine ⟨(by first | assumption | rfl), ?_⟩
            try simp (disch := omega) only [Int.cast_ofNat_Int, up_s, up_a, up_i, mp_a, mp_ge]
            try simp only [x0]
            try simp only [x1]
            try simp only [ey]
            try simp only [t0]
            try simp only [lk_125]
            try simp only [ea]
            try simp only [ek8]
            try simp only [ev]
            conv => whnf
            refine ⟨fun g => ?_, fun g => ?_⟩
            · simp only [sx_cc, Classical.not_not] at g
              conv => whnf
              refine ⟨(by first | assumption | rfl), ?_⟩
              try simp (disch := omega) only [Int.cast_ofNat_Int, up_s, up_a, up_i, mp_a, mp_ge]
              try simp only [x0]
              try simp only [x1]
              try simp only [ey]
              try simp only [t0]
              try simp only [lk_125]
              try simp only [ea]
              try simp only [ek8]
              try simp only [ev]
              conv => whnf
              refine ⟨Nat.le_of_ble_eq_true rfl, Nat.le_of_ble_eq_true rfl, (by first | assumption | rfl), ?_⟩
              refine c_Rsmall (rLx_of hx' (fun a j z9 => by rw [up_n (by omega)])) (i := e) (by omega) (fun hl => ?_) (fun hl => ?_)
              · skip
                conv => whnf
                refine ⟨fun g => ?_, fun g => ?_⟩
                · exact absurd g (by simp [sx_cc])
                · skip
                  conv => whnf
                  refine ⟨_, ?_, Or.inr (Or.inl ⟨rfl, rfl, rfl, ?_, rfl⟩)⟩
                  · try rw [up_i (by decide)]
                    try rw [up_s]
                    try rw [ey]
                    omega
                  · exact ⟨e, e, hfi.trans (fun a j z9 => by unfold FRt at z9; rw [up_n (by omega)]), hs, he0, by omega, hl, by omega, by omega, fun j y0 y1 => by omega, by rw [up_i (by decide)]; exact ey, up_s⟩
              · skip
                conv => whnf
                refine ⟨fun g => ?_, fun g => ?_⟩
                · skip
                  conv => whnf
                  refine ⟨(by first | assumption | rfl), ?_⟩
                  try simp (disch := omega) only [Int.cast_ofNat_Int, up_s, up_a, up_i, mp_a, mp_ge]
                  try simp only [x0]
                  try simp only [x1]
                  try simp only [ey]
                  try simp only [t0]
                  try simp only [lk_125]
                  try simp only [ea]
                  try simp only [ek8]
                  try simp only [ev]
                  conv => whnf
                  refine ⟨Nat.le_of_ble_eq_true rfl, Nat.le_of_ble_eq_true rfl, (by first | assumption | rfl), ?_⟩
                  refine c_Rdigit (rLx_of hx' (fun a j z9 => by rw [up_n (by omega)])) (i := e) (by omega) (fun hd => ?_) (fun hd => ?_)
                  · skip
                    conv => whnf
                    refine ⟨fun g => ?_, fun g => ?_⟩
                    · exact absurd g (by simp [sx_cc])
                    · skip
                      conv => whnf
                      refine ⟨(by first | assumption | rfl), ?_⟩
                      try simp (disch := omega) only [Int.cast_ofNat_Int, up_s, up_a, up_i, mp_a, mp_ge]
                      try simp only [x0]
                      try simp only [x1]
                      try simp only [ey]
                      try simp only [t0]
                      try simp only [lk_125]
                      try simp only [ea]
                      try simp only [ek8]
                      try simp only [ev]
                      conv => whnf
                      refine ⟨(by first | assumption | rfl), ?_⟩
                      try simp (disch := omega) only [Int.cast_ofNat_Int, up_s, up_a, up_i, mp_a, mp_ge]
                      try simp only [x0]
                      try simp only [x1]
                      try simp only [ey]
                      try simp only [t0]
                      try simp only [lk_125]
                      try simp only [ea]
                      try simp only [ek8]
                      try simp only [ev]
                      conv => whnf
                      refine ⟨_, ?_, Or.inr (Or.inr (⟨rfl, rfl, rfl, ?_, rfl⟩))⟩
                      · try rw [up_i (by decide), up_i (by decide), up_i (by decide)]
                        try rw [up_s]
                        try rw [ey]
                        omega
                      · exact ⟨e, e, hfi.trans (fun a j z9 => by unfold FRt at z9; rw [up_n (by omega), up_n (by omega), up_n (by omega)]), hs, he0, by omega, hl, hd, by omega, by omega, fun j y0 y1 => by omega, by rw [up_i (by decide), up_i (by decide), up_i (by decide)]; exact ey, by rw [up_i (by decide), up_i (by decide), up_s], by rw [up_i (by decide), up_s], by rw [up_s, show (e - e).toNat = 0 by omega]; rfl⟩
                  · skip
                    conv => whnf
                    refine ⟨fun g => ?_, fun g => ?_⟩
                    · skip
                      conv => whnf
                      refine ⟨Nat.le_of_ble_eq_true rfl, Nat.le_of_ble_eq_true rfl, (by first | assumption | rfl), ?_⟩
                      refine c_Rsign (fr.ptrt (hfi.trans (fun a j z9 => by unfold FRt at z9; rw [up_n (by omega)])) hT) (rLx_of hx' (fun a j z9 => by rw [up_n (by omega)])) (y := e) (by rw [up_i (by decide)]; exact ey) (by omega) (fun σ3 hf3 r10 r7 rp => ?_)
                      conv => whnf
                      refine ⟨rfl, ?_⟩
                      first
                      | (exfalso; omega)
                      | exact h _ (hfi.trans (fun a j z9 => by unfold FRt at z9; rw [hf3 a j (by unfold FRt; omega), up_n (by omega)])) (rTk_sgn hs (by omega) hl hd r7 rp (r10.trans up_s))
                      | exact h _ (hfi.trans (fun a j z9 => by unfold FRt at z9; rw [up_n (by omega), up_n (by omega)])) (rTk_end hs (by omega) (by rw [up_i (by decide), up_i (by decide)]; exact ey) up_s (by rw [up_i (by decide), up_s]))
                      | exact h _ (hfi.trans (fun a j z9 => by unfold FRt at z9; rw [up_n (by omega), up_n (by omega)])) (rTk_hit hs hsn hl ek ⟨k0, k1⟩ hm (by rw [up_i (by decide), up_i (by decide)]; exact ey) up_s (by rw [up_i (by decide), up_s]) (by rw [up_i (by decide), up_i (by decide)]; exact ea))
                      | exact h _ (hfi.trans (fun a j z9 => by unfold FRt at z9; rw [up_n (by omega), up_n (by omega)])) (rTk_bad hs hsn hl ek (by omega) (by rw [up_i (by decide), up_i (by decide)]; exact ey) up_s (by rw [up_i (by decide), up_i (by decide)]; exact ea))
                      | exact h _ (hfi.trans (fun a j z9 => by unfold FRt at z9; rw [up_n (by omega), up_n (by omega), up_n (by omega)])) (rTk_nam hs hsn hl ek (by omega) hall hm (by rw [up_i (by decide), up_i (by decide), up_i (by decide)]; exact ey) (by rw [up_i (by decide), up_s]) up_s (by rw [up_i (by decide), up_i (by decide), up_i (by decide)]; exact ea))
                      | exact h _ hfi (rTk_dig hs hsn hl hd0 ek he0 hall ey ek8 ev ea)
                    · exact absurd g (by simp [sx_cc])
                · exact absurd g (by simp [sx_cc])
            · simp only [sx_cc, Classical.not_not] at g
              conv => whnf
              refine ⟨(by first | assumption | rfl), ?_⟩
              try simp (disch := omega) only [Int.cast_ofNat_Int, up_s, up_a, up_i, mp_a, mp_ge]
              try simp only [x0]
              try simp only [x1]
              try simp only [ey]
              try simp only [t0]
              try simp only [lk_125]
              try simp only [ea]
              try simp only [ek8]
              try simp only [ev]
              conv => whnf
              refine ⟨rfl, ?_⟩
              first
              | (exfalso; omega)
              | exact h _ (hfi.trans (fun a j z9 => by unfold FRt at z9; rw [hf3 a j (by unfold FRt; omega), up_n (by omega)])) (rTk_sgn hs (by omega) hl hd r7 rp (r10.trans up_s))
              | exact h _ (hfi.trans (fun a j z9 => by unfold FRt at z9; rw [up_n (by omega), up_n (by omega)])) (rTk_end hs (by omega) (by rw [up_i (by decide), up_i (by decide)]; exact ey) up_s (by rw [up_i (by decide), up_s]))
              | exact h _ (hfi.trans (fun a j z9 => by unfold FRt at z9; rw [up_n (by omega), up_n (by omega)])) (rTk_hit hs hsn hl ek ⟨k0, k1⟩ hm (by rw [up_i (by decide), up_i (by decide)]; exact ey) up_s (by rw [up_i (by decide), up_s]) (by rw [up_i (by decide), up_i (by decide)]; exact ea))
              | exact h _ (hfi.trans (fun a j z9 => by unfold FRt at z9; rw [up_n (by omega), up_n (by omega)])) (rTk_bad hs hsn hl ek (by omega) (by rw [up_i (by decide), up_i (by decide)]; exact ey) up_s (by rw [up_i (by decide), up_i (by decide)]; exact ea))
              | exact h _ (hfi.trans (fun a j z9 => by unfold FRt at z9; rw [up_n (by omega), up_n (by omega), up_n (by omega)])) (rTk_nam hs hsn hl ek (by omega) hall hm (by rw [up_i (by decide), up_i (by decide), up_i (by decide)]; exact ey) (by rw [up_i (by decide), up_s]) up_s (by rw [up_i (by decide), up_i (by decide), up_i (by decide)]; exact ea))
              | exact h _ hfi (rTk_dig hs hsn hl hd0 ek he0 hall ey ek8 ev ea)
          · simp only [sx_cc, Classical.not_not] at g
            conv => whnf
            refine ⟨(by first | assumption | rfl), ?_⟩
            try simp (disch := omega) only [Int.cast_ofNat_Int, up_s, up_a, up_i, mp_a, mp_ge]
            try simp only [x0]
            try simp only [x1]
            try simp only [ey]
            try simp only [t0]
            try simp only [lk_125]
            try simp only [ea]
            try simp only [ek8]
            try simp only [ev]
            conv => whnf
            refine ⟨⟨by omega, by omega⟩, ?_⟩
            conv => whnf
            refine ⟨(by first | assumption | rfl), ?_⟩
            try simp (disch := omega) only [Int.cast_ofNat_Int, up_s, up_a, up_i, mp_a, mp_ge]
            try simp only [x0]
            try simp only [x1]
            try simp only [ey]
            try simp only [t0]
            try simp only [lk_125]
            try simp only [ea]
            try simp only [ek8]
            try simp only [ev]
            conv => whnf
            refine ⟨_, ?_, Or.inl ⟨rfl, rfl, rfl, ?_, rfl⟩⟩
            · skip
              try rw [up_s]
              try rw [ey]
              omega
            · refine ⟨e + 1, hfi.trans (fun a j z9 => by unfold FRt at z9; rw [up_n (by omega)]), by omega, by omega, fun j y0 y1 => ?_, by rw [up_s]⟩
              by_cases e9 : j = e
              · rw [e9]; unfold pSpc; omega
              · exact hsp j y0 (by omega)
    · obtain ⟨rfl, rfl, rfl, hc, rfl⟩ := hk
      obtain ⟨s, e, hfi, hs, his, hsn, hl, he0, he1, hdg, ey, ea⟩ := hc
      have hx' : rLx σ' tx n9 := rLx_of hx' (fun a j z9 => hfi a j (by unfold FRt; omega))
      have hwd' : rWd σ' := fun j y0 y1 => by rw [hfi 126 j (by unfold FRt; omega)]; exact hwd j y0 y1
      obtain ⟨x0, x1, x2, x3⟩ := hx'
      have hx' : rLx σ' tx n9 := ⟨x0, x1, x2, x3⟩
      conv => whnf
      refine ⟨(by first | assumption | rfl), ?_⟩
      try simp (disch := omega) only [Int.cast_ofNat_Int, up_s, up_a, up_i, mp_a, mp_ge]
      try simp only [x0]
      try simp only [x1]
      try simp only [ey]
      try simp only [t0]
      try simp only [lk_125]
      try simp only [ea]
      try simp only [ek8]
      try simp only [ev]
      conv => whnf
      refine ⟨Nat.le_of_ble_eq_true rfl, Nat.le_of_ble_eq_true rfl, (by first | assumption | rfl), ?_⟩
      refine c_Rsmall hx' (i := e) (by omega) (fun hd => ?_) (fun hd => ?_)
      · skip
        conv => whnf
        refine ⟨fun g => ?_, fun g => ?_⟩
        · exact absurd g (by simp [sx_cc])
        · skip
          conv => whnf
          refine ⟨(by first | assumption | rfl), ?_⟩
          try simp (disch := omega) only [Int.cast_ofNat_Int, up_s, up_a, up_i, mp_a, mp_ge]
          try simp only [x0]
          try simp only [x1]
          try simp only [ey]
          try simp only [t0]
          try simp only [lk_125]
          try simp only [ea]
          try simp only [ek8]
          try simp only [ev]
          conv => whnf
          refine ⟨⟨by omega, by omega⟩, ?_⟩
          conv => whnf
          refine ⟨(by first | assumption | rfl), ?_⟩
          try simp (disch := omega) only [Int.cast_ofNat_Int, up_s, up_a, up_i, mp_a, mp_ge]
          try simp only [x0]
          try simp only [x1]
          try simp only [ey]
          try simp only [t0]
          try simp only [lk_125]
          try simp only [ea]
          try simp only [ek8]
          try simp only [ev]
          conv => whnf
          refine ⟨_, ?_, Or.inr (Or.inl ⟨rfl, rfl, rfl, ?_, rfl⟩)⟩
          · skip
            try rw [up_s]
            try rw [ey]
            omega
          · refine ⟨s, e + 1, hfi.trans (fun a j z9 => by unfold FRt at z9; rw [up_n (by omega)]), hs, his, hsn, hl, by omega, ?_, fun j y0 y1 => ?_, up_s, by rw [up_i (by decide)]; exact ea⟩
            · by_cases e8 : n9 ≤ e
              · exact absurd hd (qL_n e e8)
              · omega
            · by_cases e9 : j = e
              · rw [e9]; exact hd
              · exact hdg j y0 (by omega)
      · have ek := kEl_of hn.2 (by omega) he0 he1 hdg hd
        have hall : ∀ j : Int, s ≤ j → j < e → pLet (tx j) := fun j y0 y1 => by have q := hdg j y0 y1; rw [fTx_p (by omega)] at q; exact q
        conv => whnf
        refine ⟨fun g => ?_, fun g => ?_⟩
        · skip
          conv => whnf
          refine ⟨(by first | assumption | rfl), ?_⟩
          try simp (disch := omega) only [Int.cast_ofNat_Int, up_s, up_a, up_i, mp_a, mp_ge]
          try simp only [x0]
          try simp only [x1]
          try simp only [ey]
          try simp only [t0]
          try simp only [lk_125]
          try simp only [ea]
          try simp only [ek8]
          try simp only [ev]
          conv => whnf
          refine ⟨(by first | assumption | rfl), ?_⟩
          try simp (disch := omega) only [Int.cast_ofNat_Int, up_s, up_a, up_i, mp_a, mp_ge]
          try simp only [x0]
          try simp only [x1]
          try simp only [ey]
          try simp only [t0]
          try simp only [lk_125]
          try simp only [ea]
          try simp only [ek8]
          try simp only [ev]
          conv => whnf
          refine ⟨Nat.le_of_ble_eq_true rfl, Nat.le_of_ble_eq_true rfl, (by first | assumption | rfl), ?_⟩
          refine c_Rword (fr.ptrt hfi hT) hx' hwd' (by omega) (fun k k0 k1 hm => ?_) (fun hm => ?_)
          · have k8 : ¬ k < 0 := by omega
            conv => whnf
            refine ⟨(by first | assumption | rfl), ?_⟩
            try simp (disch := omega) only [Int.cast_ofNat_Int, up_s, up_a, up_i, mp_a, mp_ge]
            try simp only [x0]
            try simp only [x1]
            try simp only [ey]
            try simp only [t0]
            try simp only [lk_125]
            try simp only [ea]
            try simp only [ek8]
            try simp only [ev]
            conv => whnf
            refine ⟨(by first | assumption | rfl), ?_⟩
            try simp (disch := omega) only [Int.cast_ofNat_Int, up_s, up_a, up_i, mp_a, mp_ge]
            try simp only [x0]
            try simp only [x1]
            try simp only [ey]
            try simp only [t0]
            try simp only [lk_125]
            try simp only [ea]
            try simp only [ek8]
            try simp only [ev]
            conv => whnf
            refine ⟨fun g => ?_, fun g => ?_⟩
            · simp only [sx_cc, Classical.not_not] at g
              conv => whnf
              refine ⟨(by first | assumption | rfl), ?_⟩
              try simp (disch := omega) only [Int.cast_ofNat_Int, up_s, up_a, up_i, mp_a, mp_ge]
              try simp only [x0]
              try simp only [x1]
              try simp only [ey]
              try simp only [t0]
              try simp only [lk_125]
              try simp only [ea]
              try simp only [ek8]
              try simp only [ev]
              conv => whnf
              refine ⟨(by first | assumption | rfl), ?_⟩
              try simp (disch := omega) only [Int.cast_ofNat_Int, up_s, up_a, up_i, mp_a, mp_ge]
              try simp only [x0]
              try simp only [x1]
              try simp only [ey]
              try simp only [t0]
              try simp only [lk_125]
              try simp only [ea]
              try simp only [ek8]
              try simp only [ev]
              conv => whnf
              refine ⟨⟨by omega, by omega⟩, ?_⟩
              conv => whnf
              refine ⟨fun g => ?_, fun g => ?_⟩
              · simp only [sx_cc, Classical.not_not] at g
                conv => whnf
                refine ⟨(by first | assumption | rfl), ?_⟩
                try simp (disch := omega) only [Int.cast_ofNat_Int, up_s, up_a, up_i, mp_a, mp_ge]
                try simp only [x0]
                try simp only [x1]
                try simp only [ey]
                try simp only [t0]
                try simp only [lk_125]
                try simp only [ea]
                try simp only [ek8]
                try simp only [ev]
                conv => whnf
                refine ⟨(by first | assumption | rfl), ?_⟩
                try simp (disch := omega) only [Int.cast_ofNat_Int, up_s, up_a, up_i, mp_a, mp_ge]
                try simp only [x0]
                try simp only [x1]
                try simp only [ey]
                try simp only [t0]
                try simp only [lk_125]
                try simp only [ea]
                try simp only [ek8]
                try simp only [ev]
                conv => whnf
                refine ⟨fun g => ?_, fun g => ?_⟩
                · exact absurd g (by simp [sx_cc])
                · skip
                  conv => whnf
                  refine ⟨(by first | assumption | rfl), ?_⟩
                  try simp (disch := omega) only [Int.cast_ofNat_Int, up_s, up_a, up_i, mp_a, mp_ge]
                  try simp only [x0]
                  try simp only [x1]
                  try simp only [ey]
                  try simp only [t0]
                  try simp only [lk_125]
                  try simp only [ea]
                  try simp only [ek8]
                  try simp only [ev]
                  conv => whnf
                  refine ⟨(by first | assumption | rfl), ?_⟩
                  try simp (disch := omega) only [Int.cast_ofNat_Int, up_s, up_a, up_i, mp_a, mp_ge]
                  try simp only [x0]
                  try simp only [x1]
                  try simp only [ey]
                  try simp only [t0]
                  try simp only [lk_125]
                  try simp only [ea]
                  try simp only [ek8]
                  try simp only [ev]
                  conv => whnf
                  refine ⟨Nat.le_of_ble_eq_true rfl, Nat.le_of_ble_eq_true rfl, (by first | assumption | rfl), ?_⟩
                  refine c_Rpacked (fr.ptrt (hfi.trans (fun a j z9 => by unfold FRt at z9; rw [up_n (by omega), up_n (by omega)])) hT) (rLx_of hx' (fun a j z9 => by rw [up_n (by omega), up_n (by omega)])) (by omega) hall ?_
                  conv => whnf
                  refine ⟨(by first | assumption | rfl), ?_⟩
                  try simp (disch := omega) only [Int.cast_ofNat_Int, up_s, up_a, up_i, mp_a, mp_ge]
                  try simp only [x0]
                  try simp only [x1]
                  try simp only [ey]
                  try simp only [t0]
                  try simp only [lk_125]
                  try simp only [ea]
                  try simp only [ek8]
                  try simp only [ev]
                  conv => whnf
                  refine ⟨rfl, ?_⟩
                  first
                  | (exfalso; omega)
                  | exact h _ (hfi.trans (fun a j z9 => by unfold FRt at z9; rw [hf3 a j (by unfold FRt; omega), up_n (by omega)])) (rTk_sgn hs (by omega) hl hd r7 rp (r10.trans up_s))
                  | exact h _ (hfi.trans (fun a j z9 => by unfold FRt at z9; rw [up_n (by omega), up_n (by omega)])) (rTk_end hs (by omega) (by rw [up_i (by decide), up_i (by decide)]; exact ey) up_s (by rw [up_i (by decide), up_s]))
                  | exact h _ (hfi.trans (fun a j z9 => by unfold FRt at z9; rw [up_n (by omega), up_n (by omega)])) (rTk_hit hs hsn hl ek ⟨k0, k1⟩ hm (by rw [up_i (by decide), up_i (by decide)]; exact ey) up_s (by rw [up_i (by decide), up_s]) (by rw [up_i (by decide), up_i (by decide)]; exact ea))
                  | exact h _ (hfi.trans (fun a j z9 => by unfold FRt at z9; rw [up_n (by omega), up_n (by omega)])) (rTk_bad hs hsn hl ek (by omega) (by rw [up_i (by decide), up_i (by decide)]; exact ey) up_s (by rw [up_i (by decide), up_i (by decide)]; exact ea))
                  | exact h _ (hfi.trans (fun a j z9 => by unfold FRt at z9; rw [up_n (by omega), up_n (by omega), up_n (by omega)])) (rTk_nam hs hsn hl ek (by omega) hall hm (by rw [up_i (by decide), up_i (by decide), up_i (by decide)]; exact ey) (by rw [up_i (by decide), up_s]) up_s (by rw [up_i (by decide), up_i (by decide), up_i (by decide)]; exact ea))
                  | exact h _ hfi (rTk_dig hs hsn hl hd0 ek he0 hall ey ek8 ev ea)
              · simp only [sx_cc, Classical.not_not] at g
                conv => whnf
                refine ⟨(by first | assumption | rfl), ?_⟩
                try simp (disch := omega) only [Int.cast_ofNat_Int, up_s, up_a, up_i, mp_a, mp_ge]
                try simp only [x0]
                try simp only [x1]
                try simp only [ey]
                try simp only [t0]
                try simp only [lk_125]
                try simp only [ea]
                try simp only [ek8]
                try simp only [ev]
                conv => whnf
                refine ⟨(by first | assumption | rfl), ?_⟩
                try simp (disch := omega) only [Int.cast_ofNat_Int, up_s, up_a, up_i, mp_a, mp_ge]
                try simp only [x0]
                try simp only [x1]
                try simp only [ey]
                try simp only [t0]
                try simp only [lk_125]
                try simp only [ea]
                try simp only [ek8]
                try simp only [ev]
                conv => whnf
                refine ⟨fun g => ?_, fun g => ?_⟩
                · skip
                  conv => whnf
                  refine ⟨rfl, ?_⟩
                  first
                  | (exfalso; omega)
                  | exact h _ (hfi.trans (fun a j z9 => by unfold FRt at z9; rw [hf3 a j (by unfold FRt; omega), up_n (by omega)])) (rTk_sgn hs (by omega) hl hd r7 rp (r10.trans up_s))
                  | exact h _ (hfi.trans (fun a j z9 => by unfold FRt at z9; rw [up_n (by omega), up_n (by omega)])) (rTk_end hs (by omega) (by rw [up_i (by decide), up_i (by decide)]; exact ey) up_s (by rw [up_i (by decide), up_s]))
                  | exact h _ (hfi.trans (fun a j z9 => by unfold FRt at z9; rw [up_n (by omega), up_n (by omega)])) (rTk_hit hs hsn hl ek ⟨k0, k1⟩ hm (by rw [up_i (by decide), up_i (by decide)]; exact ey) up_s (by rw [up_i (by decide), up_s]) (by rw [up_i (by decide), up_i (by decide)]; exact ea))
                  | exact h _ (hfi.trans (fun a j z9 => by unfold FRt at z9; rw [up_n (by omega), up_n (by omega)])) (rTk_bad hs hsn hl ek (by omega) (by rw [up_i (by decide), up_i (by decide)]; exact ey) up_s (by rw [up_i (by decide), up_i (by decide)]; exact ea))
                  | exact h _ (hfi.trans (fun a j z9 => by unfold FRt at z9; rw [up_n (by omega), up_n (by omega), up_n (by omega)])) (rTk_nam hs hsn hl ek (by omega) hall hm (by rw [up_i (by decide), up_i (by decide), up_i (by decide)]; exact ey) (by rw [up_i (by decide), up_s]) up_s (by rw [up_i (by decide), up_i (by decide), up_i (by decide)]; exact ea))
                  | exact h _ hfi (rTk_dig hs hsn hl hd0 ek he0 hall ey ek8 ev ea)
                · exact absurd g (by simp [sx_cc])
            · simp only [sx_cc, Classical.not_not] at g
              conv => whnf
              refine ⟨(by first | assumption | rfl), ?_⟩
              try simp (disch := omega) only [Int.cast_ofNat_Int, up_s, up_a, up_i, mp_a, mp_ge]
              try simp only [x0]
              try simp only [x1]
              try simp only [ey]
              try simp only [t0]
              try simp only [lk_125]
              try simp only [ea]
              try simp only [ek8]
              try simp only [ev]
              conv => whnf
              refine ⟨(by first | assumption | rfl), ?_⟩
              try simp (disch := omega) only [Int.cast_ofNat_Int, up_s, up_a, up_i, mp_a, mp_ge]
              try simp only [x0]
              try simp only [x1]
              try simp only [ey]
              try simp only [t0]
              try simp only [lk_125]
              try simp only [ea]
              try simp only [ek8]
              try simp only [ev]
              conv => whnf
              refine ⟨fun g => ?_, fun g => ?_⟩
              · skip
                conv => whnf
                refine ⟨rfl, ?_⟩
                first
                | (exfalso; omega)
                | exact h _ (hfi.trans (fun a j z9 => by unfold FRt at z9; rw [hf3 a j (by unfold FRt; omega), up_n (by omega)])) (rTk_sgn hs (by omega) hl hd r7 rp (r10.trans up_s))
                | exact h _ (hfi.trans (fun a j z9 => by unfold FRt at z9; rw [up_n (by omega), up_n (by omega)])) (rTk_end hs (by omega) (by rw [up_i (by decide), up_i (by decide)]; exact ey) up_s (by rw [up_i (by decide), up_s]))
                | exact h _ (hfi.trans (fun a j z9 => by unfold FRt at z9; rw [up_n (by omega), up_n (by omega)])) (rTk_hit hs hsn hl ek ⟨k0, k1⟩ hm (by rw [up_i (by decide), up_i (by decide)]; exact ey) up_s (by rw [up_i (by decide), up_s]) (by rw [up_i (by decide), up_i (by decide)]; exact ea))
                | exact h _ (hfi.trans (fun a j z9 => by unfold FRt at z9; rw [up_n (by omega), up_n (by omega)])) (rTk_bad hs hsn hl ek (by omega) (by rw [up_i (by decide), up_i (by decide)]; exact ey) up_s (by rw [up_i (by decide), up_i (by decide)]; exact ea))
                | exact h _ (hfi.trans (fun a j z9 => by unfold FRt at z9; rw [up_n (by omega), up_n (by omega), up_n (by omega)])) (rTk_nam hs hsn hl ek (by omega) hall hm (by rw [up_i (by decide), up_i (by decide), up_i (by decide)]; exact ey) (by rw [up_i (by decide), up_s]) up_s (by rw [up_i (by decide), up_i (by decide), up_i (by decide)]; exact ea))
                | exact h _ hfi (rTk_dig hs hsn hl hd0 ek he0 hall ey ek8 ev ea)
              · exact absurd g (by simp [sx_cc])
          · skip
            conv => whnf
            refine ⟨(by first | assumption | rfl), ?_⟩
            try simp (disch := omega) only [Int.cast_ofNat_Int, up_s, up_a, up_i, mp_a, mp_ge]
            try simp only [x0]
            try simp only [x1]
            try simp only [ey]
            try simp only [t0]
            try simp only [lk_125]
            try simp only [ea]
            try simp only [ek8]
            try simp only [ev]
            conv => whnf
            refine ⟨(by first | assumption | rfl), ?_⟩
            try simp (disch := omega) only [Int.cast_ofNat_Int, up_s, up_a, up_i, mp_a, mp_ge]
            try simp only [x0]
            try simp only [x1]
            try simp only [ey]
            try simp only [t0]
            try simp only [lk_125]
            try simp only [ea]
            try simp only [ek8]
            try simp only [ev]
            conv => whnf
            refine ⟨fun g => ?_, fun g => ?_⟩
            · simp only [sx_cc, Classical.not_not] at g
              conv => whnf
              refine ⟨(by first | assumption | rfl), ?_⟩
              try simp (disch := omega) only [Int.cast_ofNat_Int, up_s, up_a, up_i, mp_a, mp_ge]
              try simp only [x0]
              try simp only [x1]
              try simp only [ey]
              try simp only [t0]
              try simp only [lk_125]
              try simp only [ea]
              try simp only [ek8]
              try simp only [ev]
              conv => whnf
              refine ⟨(by first | assumption | rfl), ?_⟩
              try simp (disch := omega) only [Int.cast_ofNat_Int, up_s, up_a, up_i, mp_a, mp_ge]
              try simp only [x0]
              try simp only [x1]
              try simp only [ey]
              try simp only [t0]
              try simp only [lk_125]
              try simp only [ea]
              try simp only [ek8]
              try simp only [ev]
              conv => whnf
              refine ⟨⟨by omega, by omega⟩, ?_⟩
              conv => whnf
              refine ⟨fun g => ?_, fun g => ?_⟩
              · simp only [sx_cc, Classical.not_not] at g
                conv => whnf
                refine ⟨(by first | assumption | rfl), ?_⟩
                try simp (disch := omega) only [Int.cast_ofNat_Int, up_s, up_a, up_i, mp_a, mp_ge]
                try simp only [x0]
                try simp only [x1]
                try simp only [ey]
                try simp only [t0]
                try simp only [lk_125]
                try simp only [ea]
                try simp only [ek8]
                try simp only [ev]
                conv => whnf
                refine ⟨(by first | assumption | rfl), ?_⟩
                try simp (disch := omega) only [Int.cast_ofNat_Int, up_s, up_a, up_i, mp_a, mp_ge]
                try simp only [x0]
                try simp only [x1]
                try simp only [ey]
                try simp only [t0]
                try simp only [lk_125]
                try simp only [ea]
                try simp only [ek8]
                try simp only [ev]
                conv => whnf
                refine ⟨fun g => ?_, fun g => ?_⟩
                · exact absurd g (by simp [sx_cc])
                · skip
                  conv => whnf
                  refine ⟨(by first | assumption | rfl), ?_⟩
                  try simp (disch := omega) only [Int.cast_ofNat_Int, up_s, up_a, up_i, mp_a, mp_ge]
                  try simp only [x0]
                  try simp only [x1]
                  try simp only [ey]
                  try simp only [t0]
                  try simp only [lk_125]
                  try simp only [ea]
                  try simp only [ek8]
                  try simp only [ev]
                  conv => whnf
                  refine ⟨(by first | assumption | rfl), ?_⟩
                  try simp (disch := omega) only [Int.cast_ofNat_Int, up_s, up_a, up_i, mp_a, mp_ge]
                  try simp only [x0]
                  try simp only [x1]
                  try simp only [ey]
                  try simp only [t0]
                  try simp only [lk_125]
                  try simp only [ea]
                  try simp only [ek8]
                  try simp only [ev]
                  conv => whnf
                  refine ⟨Nat.le_of_ble_eq_true rfl, Nat.le_of_ble_eq_true rfl, (by first | assumption | rfl), ?_⟩
                  refine c_Rpacked (fr.ptrt (hfi.trans (fun a j z9 => by unfold FRt at z9; rw [up_n (by omega), up_n (by omega)])) hT) (rLx_of hx' (fun a j z9 => by rw [up_n (by omega), up_n (by omega)])) (by omega) hall ?_
                  conv => whnf
                  refine ⟨(by first | assumption | rfl), ?_⟩
                  try simp (disch := omega) only [Int.cast_ofNat_Int, up_s, up_a, up_i, mp_a, mp_ge]
                  try simp only [x0]
                  try simp only [x1]
                  try simp only [ey]
                  try simp only [t0]
                  try simp only [lk_125]
                  try simp only [ea]
                  try simp only [ek8]
                  try simp only [ev]
                  conv => whnf
                  refine ⟨rfl, ?_⟩
                  first
                  | (exfalso; omega)
                  | exact h _ (hfi.trans (fun a j z9 => by unfold FRt at z9; rw [hf3 a j (by unfold FRt; omega), up_n (by omega)])) (rTk_sgn hs (by omega) hl hd r7 rp (r10.trans up_s))
                  | exact h _ (hfi.trans (fun a j z9 => by unfold FRt at z9; rw [up_n (by omega), up_n (by omega)])) (rTk_end hs (by omega) (by rw [up_i (by decide), up_i (by decide)]; exact ey) up_s (by rw [up_i (by decide), up_s]))
                  | exact h _ (hfi.trans (fun a j z9 => by unfold FRt at z9; rw [up_n (by omega), up_n (by omega)])) (rTk_hit hs hsn hl ek ⟨k0, k1⟩ hm (by rw [up_i (by decide), up_i (by decide)]; exact ey) up_s (by rw [up_i (by decide), up_s]) (by rw [up_i (by decide), up_i (by decide)]; exact ea))
                  | exact h _ (hfi.trans (fun a j z9 => by unfold FRt at z9; rw [up_n (by omega), up_n (by omega)])) (rTk_bad hs hsn hl ek (by omega) (by rw [up_i (by decide), up_i (by decide)]; exact ey) up_s (by rw [up_i (by decide), up_i (by decide)]; exact ea))
                  | exact h _ (hfi.trans (fun a j z9 => by unfold FRt at z9; rw [up_n (by omega), up_n (by omega), up_n (by omega)])) (rTk_nam hs hsn hl ek (by omega) hall hm (by rw [up_i (by decide), up_i (by decide), up_i (by decide)]; exact ey) (by rw [up_i (by decide), up_s]) up_s (by rw [up_i (by decide), up_i (by decide), up_i (by decide)]; exact ea))
                  | exact h _ hfi (rTk_dig hs hsn hl hd0 ek he0 hall ey ek8 ev ea)
              · simp only [sx_cc, Classical.not_not] at g
                conv => whnf
                refine ⟨(by first | assumption | rfl), ?_⟩
                try simp (disch := omega) only [Int.cast_ofNat_Int, up_s, up_a, up_i, mp_a, mp_ge]
                try simp only [x0]
                try simp only [x1]
                try simp only [ey]
                try simp only [t0]
                try simp only [lk_125]
                try simp only [ea]
                try simp only [ek8]
                try simp only [ev]
                conv => whnf
                refine ⟨(by first | assumption | rfl), ?_⟩
                try simp (disch := omega) only [Int.cast_ofNat_Int, up_s, up_a, up_i, mp_a, mp_ge]
                try simp only [x0]
                try simp only [x1]
                try simp only [ey]
                try simp only [t0]
                try simp only [lk_125]
                try simp only [ea]
                try simp only [ek8]
                try simp only [ev]
                conv => whnf
                refine ⟨fun g => ?_, fun g => ?_⟩
                · skip
                  conv => whnf
                  refine ⟨rfl, ?_⟩
                  first
                  | (exfalso; omega)
                  | exact h _ (hfi.trans (fun a j z9 => by unfold FRt at z9; rw [hf3 a j (by unfold FRt; omega), up_n (by omega)])) (rTk_sgn hs (by omega) hl hd r7 rp (r10.trans up_s))
                  | exact h _ (hfi.trans (fun a j z9 => by unfold FRt at z9; rw [up_n (by omega), up_n (by omega)])) (rTk_end hs (by omega) (by rw [up_i (by decide), up_i (by decide)]; exact ey) up_s (by rw [up_i (by decide), up_s]))
                  | exact h _ (hfi.trans (fun a j z9 => by unfold FRt at z9; rw [up_n (by omega), up_n (by omega)])) (rTk_hit hs hsn hl ek ⟨k0, k1⟩ hm (by rw [up_i (by decide), up_i (by decide)]; exact ey) up_s (by rw [up_i (by decide), up_s]) (by rw [up_i (by decide), up_i (by decide)]; exact ea))
                  | exact h _ (hfi.trans (fun a j z9 => by unfold FRt at z9; rw [up_n (by omega), up_n (by omega)])) (rTk_bad hs hsn hl ek (by omega) (by rw [up_i (by decide), up_i (by decide)]; exact ey) up_s (by rw [up_i (by decide), up_i (by decide)]; exact ea))
                  | exact h _ (hfi.trans (fun a j z9 => by unfold FRt at z9; rw [up_n (by omega), up_n (by omega), up_n (by omega)])) (rTk_nam hs hsn hl ek (by omega) hall hm (by rw [up_i (by decide), up_i (by decide), up_i (by decide)]; exact ey) (by rw [up_i (by decide), up_s]) up_s (by rw [up_i (by decide), up_i (by decide), up_i (by decide)]; exact ea))
                  | exact h _ hfi (rTk_dig hs hsn hl hd0 ek he0 hall ey ek8 ev ea)
                · exact absurd g (by simp [sx_cc])
            · simp only [sx_cc, Classical.not_not] at g
              conv => whnf
              refine ⟨(by first | assumption | rfl), ?_⟩
              try simp (disch := omega) only [Int.cast_ofNat_Int, up_s, up_a, up_i, mp_a, mp_ge]
              try simp only [x0]
              try simp only [x1]
              try simp only [ey]
              try simp only [t0]
              try simp only [lk_125]
              try simp only [ea]
              try simp only [ek8]
              try simp only [ev]
              conv => whnf
              refine ⟨(by first | assumption | rfl), ?_⟩
              try simp (disch := omega) only [Int.cast_ofNat_Int, up_s, up_a, up_i, mp_a, mp_ge]
              try simp only [x0]
              try simp only [x1]
              try simp only [ey]
              try simp only [t0]
              try simp only [lk_125]
              try simp only [ea]
              try simp only [ek8]
              try simp only [ev]
              conv => whnf
              refine ⟨fun g => ?_, fun g => ?_⟩
              · skip
                conv => whnf
                refine ⟨rfl, ?_⟩
                first
                | (exfalso; omega)
                | exact h _ (hfi.trans (fun a j z9 => by unfold FRt at z9; rw [hf3 a j (by unfold FRt; omega), up_n (by omega)])) (rTk_sgn hs (by omega) hl hd r7 rp (r10.trans up_s))
                | exact h _ (hfi.trans (fun a j z9 => by unfold FRt at z9; rw [up_n (by omega), up_n (by omega)])) (rTk_end hs (by omega) (by rw [up_i (by decide), up_i (by decide)]; exact ey) up_s (by rw [up_i (by decide), up_s]))
                | exact h _ (hfi.trans (fun a j z9 => by unfold FRt at z9; rw [up_n (by omega), up_n (by omega)])) (rTk_hit hs hsn hl ek ⟨k0, k1⟩ hm (by rw [up_i (by decide), up_i (by decide)]; exact ey) up_s (by rw [up_i (by decide), up_s]) (by rw [up_i (by decide), up_i (by decide)]; exact ea))
                | exact h _ (hfi.trans (fun a j z9 => by unfold FRt at z9; rw [up_n (by omega), up_n (by omega)])) (rTk_bad hs hsn hl ek (by omega) (by rw [up_i (by decide), up_i (by decide)]; exact ey) up_s (by rw [up_i (by decide), up_i (by decide)]; exact ea))
                | exact h _ (hfi.trans (fun a j z9 => by unfold FRt at z9; rw [up_n (by omega), up_n (by omega), up_n (by omega)])) (rTk_nam hs hsn hl ek (by omega) hall hm (by rw [up_i (by decide), up_i (by decide), up_i (by decide)]; exact ey) (by rw [up_i (by decide), up_s]) up_s (by rw [up_i (by decide), up_i (by decide), up_i (by decide)]; exact ea))
                | exact h _ hfi (rTk_dig hs hsn hl hd0 ek he0 hall ey ek8 ev ea)
              · exact absurd g (by simp [sx_cc])
        · exact absurd g (by simp [sx_cc])
    · obtain ⟨rfl, rfl, rfl, hc, rfl⟩ := hk
      obtain ⟨s, e, hfi, hs, his, hsn, hl, hd0, he0, he1, hdg, ey, ea, ek8, ev⟩ := hc
      have hx' : rLx σ' tx n9 := rLx_of hx' (fun a j z9 => hfi a j (by unfold FRt; omega))
      have hwd' : rWd σ' := fun j y0 y1 => by rw [hfi 126 j (by unfold FRt; omega)]; exact hwd j y0 y1
      obtain ⟨x0, x1, x2, x3⟩ := hx'
      have hx' : rLx σ' tx n9 := ⟨x0, x1, x2, x3⟩
      conv => whnf
      refine ⟨(by first | assumption | rfl), ?_⟩
      try simp (disch := omega) only [Int.cast_ofNat_Int, up_s, up_a, up_i, mp_a, mp_ge]
      try simp only [x0]
      try simp only [x1]
      try simp only [ey]
      try simp only [t0]
      try simp only [lk_125]
      try simp only [ea]
      try simp only [ek8]
      try simp only [ev]
      conv => whnf
      refine ⟨Nat.le_of_ble_eq_true rfl, Nat.le_of_ble_eq_true rfl, (by first | assumption | rfl), ?_⟩
      refine c_Rdigit hx' (i := e) (by omega) (fun hd => ?_) (fun hd => ?_)
      · have he2 : e < n9 := by
          by_cases e8 : n9 ≤ e
          · exact absurd hd (qD_n e e8)
          · omega
        have t0 := x3 e (by omega) he2
        have et : fTx tx n9 e = tx e := fTx_p he2
        have hr := (fNu_rel (tx := tx) (i := s) (e - s).toNat (fun j y0 y1 => by have q := hdg j y0 (by omega); rw [fTx_p (by omega)] at q; exact q)).1
        conv => whnf
        refine ⟨fun g => ?_, fun g => ?_⟩
        · exact absurd g (by simp [sx_cc])
        · skip
          conv => whnf
          refine ⟨(by first | assumption | rfl), ?_⟩
          try simp (disch := omega) only [Int.cast_ofNat_Int, up_s, up_a, up_i, mp_a, mp_ge]
          try simp only [x0]
          try simp only [x1]
          try simp only [ey]
          try simp only [t0]
          try simp only [lk_125]
          try simp only [ea]
          try simp only [ek8]
          try simp only [ev]
          conv => whnf
          refine ⟨fun g => ?_, fun g => ?_⟩
          · simp only [sx_cc, Classical.not_not] at g
            conv => whnf
            refine ⟨(by first | assumption | rfl), ?_⟩
            try simp (disch := omega) only [Int.cast_ofNat_Int, up_s, up_a, up_i, mp_a, mp_ge]
            try simp only [x0]
            try simp only [x1]
            try simp only [ey]
            try simp only [t0]
            try simp only [lk_125]
            try simp only [ea]
            try simp only [ek8]
            try simp only [ev]
            conv => whnf
            refine ⟨⟨by omega, by omega⟩, ?_⟩
            conv => whnf
            refine ⟨(by first | assumption | rfl), ?_⟩
            try simp (disch := omega) only [Int.cast_ofNat_Int, up_s, up_a, up_i, mp_a, mp_ge]
            try simp only [x0]
            try simp only [x1]
            try simp only [ey]
            try simp only [t0]
            try simp only [lk_125]
            try simp only [ea]
            try simp only [ek8]
            try simp only [ev]
            conv => whnf
            refine ⟨(by first | assumption | rfl), ?_⟩
            try simp (disch := omega) only [Int.cast_ofNat_Int, up_s, up_a, up_i, mp_a, mp_ge]
            try simp only [x0]
            try simp only [x1]
            try simp only [ey]
            try simp only [t0]
            try simp only [lk_125]
            try simp only [ea]
            try simp only [ek8]
            try simp only [ev]
            conv => whnf
            refine ⟨sx_ixI (by first | assumption | rfl) (by omega) (by omega), ?_⟩
            try simp (disch := omega) only [Int.cast_ofNat_Int, up_s, up_a, up_i, mp_a, mp_ge]
            try simp only [x0]
            try simp only [x1]
            try simp only [ey]
            try simp only [t0]
            try simp only [lk_125]
            try simp only [ea]
            try simp only [ek8]
            try simp only [ev]
            conv => whnf
            refine ⟨⟨by omega, by omega⟩, ?_⟩
            conv => whnf
            refine ⟨⟨by omega, by omega⟩, ?_⟩
            conv => whnf
            refine ⟨(by first | assumption | rfl), ?_⟩
            try simp (disch := omega) only [Int.cast_ofNat_Int, up_s, up_a, up_i, mp_a, mp_ge]
            try simp only [x0]
            try simp only [x1]
            try simp only [ey]
            try simp only [t0]
            try simp only [lk_125]
            try simp only [ea]
            try simp only [ek8]
            try simp only [ev]
            conv => whnf
            refine ⟨(by first | assumption | rfl), ?_⟩
            try simp (disch := omega) only [Int.cast_ofNat_Int, up_s, up_a, up_i, mp_a, mp_ge]
            try simp only [x0]
            try simp only [x1]
            try simp only [ey]
            try simp only [t0]
            try simp only [lk_125]
            try simp only [ea]
            try simp only [ek8]
            try simp only [ev]
            conv => whnf
            refine ⟨⟨by omega, by omega⟩, ?_⟩
            conv => whnf
            refine ⟨(by first | assumption | rfl), ?_⟩
            try simp (disch := omega) only [Int.cast_ofNat_Int, up_s, up_a, up_i, mp_a, mp_ge]
            try simp only [x0]
            try simp only [x1]
            try simp only [ey]
            try simp only [t0]
            try simp only [lk_125]
            try simp only [ea]
            try simp only [ek8]
            try simp only [ev]
            conv => whnf
            refine ⟨_, ?_, Or.inr (Or.inr (⟨rfl, rfl, rfl, ?_, rfl⟩))⟩
            · skip
              try rw [up_s]
              try rw [ey]
              omega
            · refine ⟨s, e + 1, hfi.trans (fun a j z9 => by unfold FRt at z9; rw [up_n (by omega), up_n (by omega)]), hs, his, hsn, hl, hd0, by omega, by omega, fun j y0 y1 => ?_, up_s, by rw [up_i (by decide), up_i (by decide)]; exact ea, by rw [up_i (by decide), up_i (by decide)]; exact ek8, ?_⟩
              · by_cases e9 : j = e
                · rw [e9]; exact hd
                · exact hdg j y0 (by omega)
              · rw [up_i (by decide), up_s, fNur_s he0]
                first | (rw [if_pos (by omega)]; omega) | rw [if_neg (by omega)]
          · simp only [sx_cc, Classical.not_not] at g
            conv => whnf
            refine ⟨(by first | assumption | rfl), ?_⟩
            try simp (disch := omega) only [Int.cast_ofNat_Int, up_s, up_a, up_i, mp_a, mp_ge]
            try simp only [x0]
            try simp only [x1]
            try simp only [ey]
            try simp only [t0]
            try simp only [lk_125]
            try simp only [ea]
            try simp only [ek8]
            try simp only [ev]
            conv => whnf
            refine ⟨(by first | assumption | rfl), ?_⟩
            try simp (disch := omega) only [Int.cast_ofNat_Int, up_s, up_a, up_i, mp_a, mp_ge]
            try simp only [x0]
            try simp only [x1]
            try simp only [ey]
            try simp only [t0]
            try simp only [lk_125]
            try simp only [ea]
            try simp only [ek8]
            try simp only [ev]
            conv => whnf
            refine ⟨(by first | assumption | rfl), ?_⟩
            try simp (disch := omega) only [Int.cast_ofNat_Int, up_s, up_a, up_i, mp_a, mp_ge]
            try simp only [x0]
            try simp only [x1]
            try simp only [ey]
            try simp only [t0]
            try simp only [lk_125]
            try simp only [ea]
            try simp only [ek8]
            try simp only [ev]
            conv => whnf
            refine ⟨⟨by omega, by omega⟩, ?_⟩
            conv => whnf
            refine ⟨(by first | assumption | rfl), ?_⟩
            try simp (disch := omega) only [Int.cast_ofNat_Int, up_s, up_a, up_i, mp_a, mp_ge]
            try simp only [x0]
            try simp only [x1]
            try simp only [ey]
            try simp only [t0]
            try simp only [lk_125]
            try simp only [ea]
            try simp only [ek8]
            try simp only [ev]
            conv => whnf
            refine ⟨_, ?_, Or.inr (Or.inr (⟨rfl, rfl, rfl, ?_, rfl⟩))⟩
            · skip
              try rw [up_s]
              try rw [ey]
              omega
            · refine ⟨s, e + 1, hfi.trans (fun a j z9 => by unfold FRt at z9; rw [up_n (by omega), up_n (by omega)]), hs, his, hsn, hl, hd0, by omega, by omega, fun j y0 y1 => ?_, up_s, by rw [up_i (by decide), up_i (by decide)]; exact ea, by rw [up_i (by decide), up_i (by decide)]; exact ek8, ?_⟩
              · by_cases e9 : j = e
                · rw [e9]; exact hd
                · exact hdg j y0 (by omega)
              · rw [up_i (by decide), up_s, fNur_s he0]
                first | (rw [if_pos (by omega)]; omega) | rw [if_neg (by omega)]
      · have ek := kEd_of hn.2 (by omega) he0 he1 hdg hd
        have hall : ∀ j : Int, s ≤ j → j < e → pDig (tx j) := fun j y0 y1 => by have q := hdg j y0 y1; rw [fTx_p (by omega)] at q; exact q
        conv => whnf
        refine ⟨fun g => ?_, fun g => ?_⟩
        · skip
          conv => whnf
          refine ⟨rfl, ?_⟩
          first
          | (exfalso; omega)
          | exact h _ (hfi.trans (fun a j z9 => by unfold FRt at z9; rw [hf3 a j (by unfold FRt; omega), up_n (by omega)])) (rTk_sgn hs (by omega) hl hd r7 rp (r10.trans up_s))
          | exact h _ (hfi.trans (fun a j z9 => by unfold FRt at z9; rw [up_n (by omega), up_n (by omega)])) (rTk_end hs (by omega) (by rw [up_i (by decide), up_i (by decide)]; exact ey) up_s (by rw [up_i (by decide), up_s]))
          | exact h _ (hfi.trans (fun a j z9 => by unfold FRt at z9; rw [up_n (by omega), up_n (by omega)])) (rTk_hit hs hsn hl ek ⟨k0, k1⟩ hm (by rw [up_i (by decide), up_i (by decide)]; exact ey) up_s (by rw [up_i (by decide), up_s]) (by rw [up_i (by decide), up_i (by decide)]; exact ea))
          | exact h _ (hfi.trans (fun a j z9 => by unfold FRt at z9; rw [up_n (by omega), up_n (by omega)])) (rTk_bad hs hsn hl ek (by omega) (by rw [up_i (by decide), up_i (by decide)]; exact ey) up_s (by rw [up_i (by decide), up_i (by decide)]; exact ea))
          | exact h _ (hfi.trans (fun a j z9 => by unfold FRt at z9; rw [up_n (by omega), up_n (by omega), up_n (by omega)])) (rTk_nam hs hsn hl ek (by omega) hall hm (by rw [up_i (by decide), up_i (by decide), up_i (by decide)]; exact ey) (by rw [up_i (by decide), up_s]) up_s (by rw [up_i (by decide), up_i (by decide), up_i (by decide)]; exact ea))
          | exact h _ hfi (rTk_dig hs hsn hl hd0 ek he0 hall ey ek8 ev ea)
        · exact absurd g (by simp [sx_cc])
end SXO9
