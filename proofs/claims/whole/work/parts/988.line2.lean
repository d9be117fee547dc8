/-! LINES ARE TOLD, class side (by wip/whole) -/
section SXQ2
variable {X : sx_X} {Q : sx_R} {σ σ0 σ' σ1 σ2 : sx_S} {tx : Int → Int} {n9 p i : Int} {F : Option (Int × Int)}
abbrev FAl (p a j : Int) : Prop := FPd p a j ∨ FNx a j
def hHb (p : Int) (s : sx_S) : Prop := ∀ f : Int, 0 ≤ f → f < 5 → 0 ≤ s (p + 8) f ∧ s (p + 8) f < 48
/-- what a line keeps in any case -/
def wk (p : Int) (s s' : sx_S) : Prop := fr (FAl p) s s' ∧ (hHb p s → hHb p s')
/-- the fault of a line -/
def pLnF (p : Int) (tx : Int → Int) (n9 : Int) (s : sx_S) (i k pl : Int) : Prop :=
  (kT tx n9 i = 0 ∧ (zField p s tx n9 i).or (fBq (¬ kT tx n9 (kE tx n9 (kE tx n9 (kE tx n9 i))) = 22) 1 (kS tx n9 (kE tx n9 (kE tx n9 (kE tx n9 i))))) = some (k, pl))
  ∨ ((kT tx n9 i = 1 ∨ kT tx n9 i = 2) ∧ (zKind p (kT tx n9 i) s tx n9 i).or (fBq (¬ kT tx n9 (kE tx n9 (kE tx n9 (kE tx n9 i))) = 22) 1 (kS tx n9 (kE tx n9 (kE tx n9 (kE tx n9 i))))) = some (k, pl))
  ∨ (kT tx n9 i = 3 ∧ ((3 ≤ s p 4 ∧ k = 2 ∧ pl = kS tx n9 i) ∨ (s p 4 < 3 ∧ (zFarm p s tx n9 i).or (fBq (¬ kT tx n9 (kE tx n9 (kE tx n9 (kE tx n9 (kE tx n9 (kE tx n9 (kE tx n9 i)))))) = 22) 1 (kS tx n9 (kE tx n9 (kE tx n9 (kE tx n9 (kE tx n9 (kE tx n9 (kE tx n9 i)))))))) = some (k, pl))))
  ∨ (kT tx n9 i = 4 ∧ ((5 ≤ s p 6 ∧ k = 2 ∧ pl = kS tx n9 i) ∨ (s p 6 < 5 ∧ (zWalk p s tx n9 i).or (fBq (¬ kT tx n9 (kE tx n9 (kE tx n9 (kE tx n9 (kE tx n9 (kE tx n9 (kE tx n9 (kE tx n9 i))))))) = 22) 1 (kS tx n9 (kE tx n9 (kE tx n9 (kE tx n9 (kE tx n9 (kE tx n9 (kE tx n9 (kE tx n9 i))))))))) = some (k, pl))))
  ∨ (kT tx n9 i = 5 ∧ (zCastF s tx n9 i k pl ∨ (s 32 7 = 0 ∧ ∃ m : Int, (1 ≤ m ∧ m ≤ 24) ∧ (∀ q : Int, 0 ≤ q → q < m → nF tx n9 0 100 (kI tx n9 q.toNat (kE tx n9 i)) = none) ∧ ¬ kT tx n9 (kI tx n9 m.toNat (kE tx n9 i)) = 21 ∧ ¬ kT tx n9 (kI tx n9 m.toNat (kE tx n9 i)) = 22 ∧ k = 1 ∧ pl = kS tx n9 (kI tx n9 m.toNat (kE tx n9 i)))))
  ∨ (kT tx n9 i = 6 ∧ (zSeed p s tx n9 i).or (fBq (¬ kT tx n9 (kE tx n9 (kE tx n9 i)) = 22) 1 (kS tx n9 (kE tx n9 (kE tx n9 i)))) = some (k, pl))
  ∨ (kT tx n9 i = 7 ∧ zLawF p tx n9 s i k pl)
  ∨ (8 ≤ kT tx n9 i ∧ k = 1 ∧ pl = kS tx n9 i)
/-- what a line tells, up to its end e -/
def pLn0 (p : Int) (tx : Int → Int) (n9 : Int) (s s' : sx_S) (i e : Int) : Prop :=
  (kT tx n9 i = 0 ∧ zField p s tx n9 i = none ∧ e = (kE tx n9 (kE tx n9 (kE tx n9 i))) ∧ fr (FZf p) s s' ∧ s' 32 6 = 1 ∧ s' p 0 = nV tx n9 1 8 (kE tx n9 i) ∧ s' p 1 = nV tx n9 1 6 (kE tx n9 (kE tx n9 i)))
  ∨ ((kT tx n9 i = 1 ∨ kT tx n9 i = 2) ∧ zKind p (kT tx n9 i) s tx n9 i = none ∧ e = (kE tx n9 (kE tx n9 (kE tx n9 i))) ∧ fr (FZk p (kT tx n9 i) (zCell p s tx n9 (kE tx n9 i))) s s' ∧ s' 32 9 = 1 ∧ s' (p + 1) (zCell p s tx n9 (kE tx n9 i)) = kT tx n9 i ∧ s' 35 (kT tx n9 i) = s 35 (kT tx n9 i) + 1)
  ∨ (kT tx n9 i = 3 ∧ s p 4 < 3 ∧ zFarm p s tx n9 i = none ∧ e = (kE tx n9 (kE tx n9 (kE tx n9 (kE tx n9 (kE tx n9 (kE tx n9 i)))))) ∧ fr (FZm p (s p 4)) s s' ∧ s' 32 9 = 1 ∧ (∀ c : Int, s' (p + 2) c = if pRc (s p 0) (nV tx n9 0 (s p 0 - 1) (kE tx n9 (kE tx n9 i))) (nV tx n9 (nV tx n9 0 (s p 0 - 1) (kE tx n9 (kE tx n9 i))) (s p 0 - 1) (kE tx n9 (kE tx n9 (kE tx n9 (kE tx n9 i))))) (nV tx n9 0 (s p 1 - 1) (kE tx n9 (kE tx n9 (kE tx n9 i)))) (nV tx n9 (nV tx n9 0 (s p 1 - 1) (kE tx n9 (kE tx n9 (kE tx n9 i)))) (s p 1 - 1) (kE tx n9 (kE tx n9 (kE tx n9 (kE tx n9 (kE tx n9 i))))) + 1) (nV tx n9 0 (s p 0 - 1) (kE tx n9 (kE tx n9 i))) c then s p 4 else s (p + 2) c) ∧ s' (p + 3) (s p 4) = aV tx n9 (kE tx n9 i) ∧ s' p 4 = s p 4 + 1)
  ∨ (kT tx n9 i = 4 ∧ s p 6 < 5 ∧ zWalk p s tx n9 i = none ∧ e = (kE tx n9 (kE tx n9 (kE tx n9 (kE tx n9 (kE tx n9 (kE tx n9 (kE tx n9 i))))))) ∧ fr (FZw p (s p 6)) s s' ∧ s' 32 9 = 1 ∧ s' (p + 4) (s p 6) = aV tx n9 (kE tx n9 i) ∧ s' (p + 5) (s p 6) = fFind (s (p + 3)) (aV tx n9 (kE tx n9 (kE tx n9 i))) (s p 4).toNat ∧ s' (p + 6) (s p 6) = nV tx n9 1 60 (kE tx n9 (kE tx n9 (kE tx n9 i))) ∧ s' (p + 7) (s p 6) = nV tx n9 1 3 (kE tx n9 (kE tx n9 (kE tx n9 (kE tx n9 i)))) ∧ s' (p + 8) (s p 6) = zCell p s tx n9 (kE tx n9 (kE tx n9 (kE tx n9 (kE tx n9 (kE tx n9 i))))) ∧ s' p 6 = s p 6 + 1)
  ∨ (kT tx n9 i = 5 ∧ s 32 7 = 0 ∧ ∃ m : Int, (1 ≤ m ∧ m ≤ 24) ∧ (∀ q : Int, 0 ≤ q → q < m → nF tx n9 0 100 (kI tx n9 q.toNat (kE tx n9 i)) = none) ∧ ¬ kT tx n9 (kI tx n9 m.toNat (kE tx n9 i)) = 21 ∧ e = kI tx n9 m.toNat (kE tx n9 i) ∧ fr (FZc p m) s s' ∧ s' 32 7 = 1 ∧ (∀ q : Int, 0 ≤ q → q < m → s' (p + 10) q = nV tx n9 0 100 (kI tx n9 q.toNat (kE tx n9 i))))
  ∨ (kT tx n9 i = 6 ∧ zSeed p s tx n9 i = none ∧ e = (kE tx n9 (kE tx n9 i)) ∧ fr (FZs p) s s' ∧ s' 32 8 = 1 ∧ s' p 13 = nV tx n9 0 99999 (kE tx n9 i))
  ∨ (kT tx n9 i = 7 ∧ zLawS p tx n9 s i s' e ∧ fr (FLa p) s s')
def pLnS (p : Int) (tx : Int → Int) (n9 : Int) (s s' : sx_S) (i e' : Int) : Prop := ∃ (s1 : sx_S) (e : Int), pLn0 p tx n9 s s1 i e ∧ kT tx n9 e = 22 ∧ e' = kE tx n9 e ∧ fr (fun a j => FXa a j ∨ (a = 32 ∧ j = 2)) s1 s' ∧ s' 32 2 = s1 32 2 + 1
theorem or_semi {Z : Option (Int × Int)} {b : Prop} [Decidable b] {k s : Int} (h : Z = none) (hb : b) : Z.or (fBq b k s) = some (k, s) := by rw [h, fBq_1 hb]; rfl
theorem or_some {Z W : Option (Int × Int)} {k s : Int} (h : Z = some (k, s)) : Z.or W = some (k, s) := by rw [h]; rfl
theorem opt_cs (Z : Option (Int × Int)) : Z = none ∨ ∃ k s : Int, Z = some (k, s) := by
  rcases Z with _ | ⟨k, s⟩
  · exact Or.inl rfl
  · exact Or.inr ⟨k, s, rfl⟩
theorem wk_of (hp : 2 ≤ p ∧ p ≤ 17) (h : fr (FAl p) σ σ') (h8 : ∀ j : Int, σ' (p + 8) j = σ (p + 8) j) : wk p σ σ' := ⟨h, fun hb f y0 y1 => by rw [h8]; exact hb f y0 y1⟩
set_option maxRecDepth 20000 in
theorem c_Tline (hw : sx_WT X) (hq : cQ p σ tx n9 i none) (wz : wZ p σ) (hkn : σ 32 14 = σ p 14) (hk6 : 0 ≤ σ p 14 ∧ σ p 14 ≤ 64) (hl2 : 0 ≤ σ 32 2 ∧ σ 32 2 ≤ 1000) (hF : ∀ (σ' : sx_S) (k pl j : Int), wk p σ σ' → cQ p σ' tx n9 j (some (k, pl)) → pLnF p tx n9 σ i k pl → Q none shM σ') (hS : ∀ (σ' : sx_S) (e' : Int), wk p σ σ' → cQ p σ' tx n9 e' none → pLnS p tx n9 σ σ' i e' → Q none shM σ') : sx_Run X 102 [.inr (.inr 32)] shM σ Q := by
  have hp : 2 ≤ p ∧ p ≤ 17 := by rcases hq.ip with rfl | rfl <;> decide
  have t3 := pt_32_3 hq.pt
  have e3 := hq.tk.2.1
  have kb := kT_bd (tx := tx) (n9 := n9) i
  refine sx_rule2 (own := 10) (cd := kX10_tellLine) (nL := 1) (by decide +kernel) (by decide +kernel) kX10_tellLine_ok (by decide +kernel) (Nat.le_of_ble_eq_true rfl) [115] 40 (fun n t L st _ σ' => (t = 115 ∧ st = [] ∧ L = [some (.inr (.inr (32)))] ∧ ((∃ (e : Int) (F : Option (Int × Int)), cQ p σ' tx n9 e F ∧ wk p σ σ' ∧ ((∃ k pl : Int, F = some (k, pl) ∧ pLnF p tx n9 σ i k pl) ∨ (F = none ∧ (¬ kT tx n9 e = 22 → pLnF p tx n9 σ i 1 (kS tx n9 e)) ∧ (kT tx n9 e = 22 → pLn0 p tx n9 σ σ' i e)))) ∧ σ' 32 2 = σ 32 2) ∧ n = 0)) ?_ ?_
  · skip
    conv => whnf
    refine ⟨(by first | assumption | rfl), ?_⟩
    try simp (disch := omega) only [Int.cast_ofNat_Int, up_s, up_a, up_i, mp_a, mp_ge]
    try simp only [t3]
    try simp only [e3]
    try simp only [e2]
    conv => whnf
    refine ⟨(by first | assumption | rfl), ?_⟩
    try simp (disch := omega) only [Int.cast_ofNat_Int, up_s, up_a, up_i, mp_a, mp_ge]
    try simp only [t3]
    try simp only [e3]
    try simp only [e2]
    conv => whnf
    refine ⟨fun g => ?_, ?_⟩
    · skip
      have ht0 : 8 ≤ kT tx n9 i := by omega
      skip
      conv => whnf
      refine ⟨Nat.le_of_ble_eq_true rfl, Nat.le_of_ble_eq_true rfl, (by first | assumption | rfl), ?_⟩
      refine c_Tfail hq (by decide) (fun σ3 c0 c1 => ?_)
      conv => whnf
      refine ⟨_, ⟨rfl, rfl, rfl, ?_, rfl⟩⟩
      refine ⟨?_, by first | exact c0 _ _ (by first | (unfold FZf FNx; omega) | (unfold FZk FNx; omega) | (unfold FZm FNx; omega) | (unfold FZw FNx; omega) | (unfold FZs FNx; omega) | (unfold FFl; omega) | (unfold FLa; omega)) | exact cf0 _ _ (by first | (unfold FFl; omega) | (unfold FZc FNx; omega) | (unfold FLa; omega)) | exact c5 _ _ (by unfold FZc FNx; omega) | exact ce0 _ _ (by unfold FLa; omega)⟩
      refine ⟨_, _, c1, wk_of hp (fun a j z9 => c0 a j (by unfold FAl FNx at z9; unfold FFl; omega)) (fun j => c0 _ _ (by unfold FFl; omega)), Or.inl ⟨_, _, rfl, Or.inr (Or.inr (Or.inr (Or.inr (Or.inr (Or.inr (Or.inr (⟨ht0, rfl, rfl⟩)))))))⟩⟩
    conv => whnf
    refine ⟨fun g => ?_, ?_⟩
    · skip
      have ht0 : kT tx n9 i = 0 := by omega
      skip
      conv => whnf
      refine ⟨Nat.le_of_ble_eq_true rfl, Nat.le_of_ble_eq_true rfl, (by first | assumption | rfl), ?_⟩
      refine c_Tfield hw hq (fun σ3 c0 c1 c2 c3 c4 => ?_)
      conv => whnf
      refine ⟨_, ⟨rfl, rfl, rfl, ?_, rfl⟩⟩
      refine ⟨?_, by first | exact c0 _ _ (by first | (unfold FZf FNx; omega) | (unfold FZk FNx; omega) | (unfold FZm FNx; omega) | (unfold FZw FNx; omega) | (unfold FZs FNx; omega) | (unfold FFl; omega) | (unfold FLa; omega)) | exact cf0 _ _ (by first | (unfold FFl; omega) | (unfold FZc FNx; omega) | (unfold FLa; omega)) | exact c5 _ _ (by unfold FZc FNx; omega) | exact ce0 _ _ (by unfold FLa; omega)⟩
      refine ⟨_, _, c1, wk_of hp (fun a j z9 => c0 a j (by unfold FAl FPd FNx at z9; unfold FZf FNx; omega)) (fun j => c0 _ _ (by unfold FZf FNx; omega)), ?_⟩
      rcases opt_cs (zField p σ tx n9 i) with e9 | ⟨k, pl, e9⟩
      · rw [e9]
        exact Or.inr ⟨rfl, fun z => Or.inl (⟨ht0, or_semi e9 z⟩), fun z => Or.inl (⟨ht0, e9, rfl, c0, c2, c3, c4⟩)⟩
      · rw [e9]
        exact Or.inl ⟨k, pl, rfl, Or.inl (⟨ht0, or_some e9⟩)⟩
    conv => whnf
    refine ⟨fun g => ?_, ?_⟩
    · skip
      have ht0 : kT tx n9 i = 1 := by omega
      skip
      conv => whnf
      refine ⟨Nat.le_of_ble_eq_true rfl, Nat.le_of_ble_eq_true rfl, (by first | assumption | rfl), ?_⟩
      refine c_Tkind hw hq wz (k := 1) (by decide) (fun σ3 c0 c1 c2 c3 c4 => ?_)
      have c0 : fr (FZk p (kT tx n9 i) (zCell p σ tx n9 (kE tx n9 i))) σ σ3 := by rw [ht0]; exact c0
      have c1 : cQ p σ3 tx n9 (kE tx n9 (kE tx n9 (kE tx n9 i))) (zKind p (kT tx n9 i) σ tx n9 i) := by rw [ht0]; exact c1
      have c3 : σ3 (p + 1) (zCell p σ tx n9 (kE tx n9 i)) = kT tx n9 i := by rw [ht0]; exact c3
      have c4 : σ3 35 (kT tx n9 i) = σ 35 (kT tx n9 i) + 1 := by rw [ht0]; exact c4
      conv => whnf
      refine ⟨_, ⟨rfl, rfl, rfl, ?_, rfl⟩⟩
      refine ⟨?_, by first | exact c0 _ _ (by first | (unfold FZf FNx; omega) | (unfold FZk FNx; omega) | (unfold FZm FNx; omega) | (unfold FZw FNx; omega) | (unfold FZs FNx; omega) | (unfold FFl; omega) | (unfold FLa; omega)) | exact cf0 _ _ (by first | (unfold FFl; omega) | (unfold FZc FNx; omega) | (unfold FLa; omega)) | exact c5 _ _ (by unfold FZc FNx; omega) | exact ce0 _ _ (by unfold FLa; omega)⟩
      refine ⟨_, _, c1, wk_of hp (fun a j z9 => c0 a j (by unfold FAl FPd FNx at z9; unfold FZk FNx; omega)) (fun j => c0 _ _ (by unfold FZk FNx; omega)), ?_⟩
      rcases opt_cs (zKind p (kT tx n9 i) σ tx n9 i) with e9 | ⟨k, pl, e9⟩
      · rw [e9]
        exact Or.inr ⟨rfl, fun z => Or.inr (Or.inl (⟨Or.inl ht0, or_semi e9 z⟩)), fun z => Or.inr (Or.inl (⟨Or.inl ht0, e9, rfl, c0, c2, c3, c4⟩))⟩
      · rw [e9]
        exact Or.inl ⟨k, pl, rfl, Or.inr (Or.inl (⟨Or.inl ht0, or_some e9⟩))⟩
    conv => whnf
    refine ⟨fun g => ?_, ?_⟩
    · skip
      have ht0 : kT tx n9 i = 2 := by omega
      skip
      conv => whnf
      refine ⟨Nat.le_of_ble_eq_true rfl, Nat.le_of_ble_eq_true rfl, (by first | assumption | rfl), ?_⟩
      refine c_Tkind hw hq wz (k := 2) (by decide) (fun σ3 c0 c1 c2 c3 c4 => ?_)
      have c0 : fr (FZk p (kT tx n9 i) (zCell p σ tx n9 (kE tx n9 i))) σ σ3 := by rw [ht0]; exact c0
      have c1 : cQ p σ3 tx n9 (kE tx n9 (kE tx n9 (kE tx n9 i))) (zKind p (kT tx n9 i) σ tx n9 i) := by rw [ht0]; exact c1
      have c3 : σ3 (p + 1) (zCell p σ tx n9 (kE tx n9 i)) = kT tx n9 i := by rw [ht0]; exact c3
      have c4 : σ3 35 (kT tx n9 i) = σ 35 (kT tx n9 i) + 1 := by rw [ht0]; exact c4
      conv => whnf
      refine ⟨_, ⟨rfl, rfl, rfl, ?_, rfl⟩⟩
      refine ⟨?_, by first | exact c0 _ _ (by first | (unfold FZf FNx; omega) | (unfold FZk FNx; omega) | (unfold FZm FNx; omega) | (unfold FZw FNx; omega) | (unfold FZs FNx; omega) | (unfold FFl; omega) | (unfold FLa; omega)) | exact cf0 _ _ (by first | (unfold FFl; omega) | (unfold FZc FNx; omega) | (unfold FLa; omega)) | exact c5 _ _ (by unfold FZc FNx; omega) | exact ce0 _ _ (by unfold FLa; omega)⟩
      refine ⟨_, _, c1, wk_of hp (fun a j z9 => c0 a j (by unfold FAl FPd FNx at z9; unfold FZk FNx; omega)) (fun j => c0 _ _ (by unfold FZk FNx; omega)), ?_⟩
      rcases opt_cs (zKind p (kT tx n9 i) σ tx n9 i) with e9 | ⟨k, pl, e9⟩
      · rw [e9]
        exact Or.inr ⟨rfl, fun z => Or.inr (Or.inl (⟨Or.inr ht0, or_semi e9 z⟩)), fun z => Or.inr (Or.inl (⟨Or.inr ht0, e9, rfl, c0, c2, c3, c4⟩))⟩
      · rw [e9]
        exact Or.inl ⟨k, pl, rfl, Or.inr (Or.inl (⟨Or.inr ht0, or_some e9⟩))⟩
    conv => whnf
    refine ⟨fun g => ?_, ?_⟩
    · skip
      have ht0 : kT tx n9 i = 3 := by omega
      skip
      conv => whnf
      refine ⟨Nat.le_of_ble_eq_true rfl, Nat.le_of_ble_eq_true rfl, (by first | assumption | rfl), ?_⟩
      refine c_Tfarm hw hq wz (fun hfa σ3 cf0 cf1 => ?_) (fun hfa σ3 c0 c1 c2 c3 c4 c5 => ?_)
      · skip
        conv => whnf
        refine ⟨_, ⟨rfl, rfl, rfl, ?_, rfl⟩⟩
        refine ⟨?_, by first | exact c0 _ _ (by first | (unfold FZf FNx; omega) | (unfold FZk FNx; omega) | (unfold FZm FNx; omega) | (unfold FZw FNx; omega) | (unfold FZs FNx; omega) | (unfold FFl; omega) | (unfold FLa; omega)) | exact cf0 _ _ (by first | (unfold FFl; omega) | (unfold FZc FNx; omega) | (unfold FLa; omega)) | exact c5 _ _ (by unfold FZc FNx; omega) | exact ce0 _ _ (by unfold FLa; omega)⟩
        first
        | (refine ⟨_, _, cf1, wk_of hp (fun a j z9 => cf0 a j (by unfold FAl FNx at z9; unfold FFl; omega)) (fun j => cf0 _ _ (by unfold FFl; omega)), Or.inl ⟨_, _, rfl, Or.inr (Or.inr (Or.inl (⟨ht0, Or.inl ⟨hfa, rfl, rfl⟩⟩)))⟩⟩)
        | (refine ⟨_, _, c1, wk_of hp (fun a j z9 => c0 a j (by unfold FAl FPd FNx at z9; unfold FZm FNx; omega)) (fun j => c0 _ _ (by unfold FZm FNx; omega)), ?_⟩
           rcases opt_cs (zFarm p σ tx n9 i) with e9 | ⟨k, pl, e9⟩
           · rw [e9]
             exact Or.inr ⟨rfl, fun z => Or.inr (Or.inr (Or.inl (⟨ht0, Or.inr ⟨hfa, or_semi e9 z⟩⟩))), fun z => Or.inr (Or.inr (Or.inl (⟨ht0, hfa, e9, rfl, c0, c2, c3, c4, c5⟩)))⟩
           · rw [e9]
             exact Or.inl ⟨k, pl, rfl, Or.inr (Or.inr (Or.inl (⟨ht0, Or.inr ⟨hfa, or_some e9⟩⟩)))⟩)
      · skip
        conv => whnf
        refine ⟨_, ⟨rfl, rfl, rfl, ?_, rfl⟩⟩
        refine ⟨?_, by first | exact c0 _ _ (by first | (unfold FZf FNx; omega) | (unfold FZk FNx; omega) | (unfold FZm FNx; omega) | (unfold FZw FNx; omega) | (unfold FZs FNx; omega) | (unfold FFl; omega) | (unfold FLa; omega)) | exact cf0 _ _ (by first | (unfold FFl; omega) | (unfold FZc FNx; omega) | (unfold FLa; omega)) | exact c5 _ _ (by unfold FZc FNx; omega) | exact ce0 _ _ (by unfold FLa; omega)⟩
        first
        | (refine ⟨_, _, cf1, wk_of hp (fun a j z9 => cf0 a j (by unfold FAl FNx at z9; unfold FFl; omega)) (fun j => cf0 _ _ (by unfold FFl; omega)), Or.inl ⟨_, _, rfl, Or.inr (Or.inr (Or.inl (⟨ht0, Or.inl ⟨hfa, rfl, rfl⟩⟩)))⟩⟩)
        | (refine ⟨_, _, c1, wk_of hp (fun a j z9 => c0 a j (by unfold FAl FPd FNx at z9; unfold FZm FNx; omega)) (fun j => c0 _ _ (by unfold FZm FNx; omega)), ?_⟩
           rcases opt_cs (zFarm p σ tx n9 i) with e9 | ⟨k, pl, e9⟩
           · rw [e9]
             exact Or.inr ⟨rfl, fun z => Or.inr (Or.inr (Or.inl (⟨ht0, Or.inr ⟨hfa, or_semi e9 z⟩⟩))), fun z => Or.inr (Or.inr (Or.inl (⟨ht0, hfa, e9, rfl, c0, c2, c3, c4, c5⟩)))⟩
           · rw [e9]
             exact Or.inl ⟨k, pl, rfl, Or.inr (Or.inr (Or.inl (⟨ht0, Or.inr ⟨hfa, or_some e9⟩⟩)))⟩)
    conv => whnf
    refine ⟨fun g => ?_, ?_⟩
    · skip
      have ht0 : kT tx n9 i = 4 := by omega
      skip
      conv => whnf
      refine ⟨Nat.le_of_ble_eq_true rfl, Nat.le_of_ble_eq_true rfl, (by first | assumption | rfl), ?_⟩
      refine c_Twalk hw hq wz (fun hfa σ3 cf0 cf1 => ?_) (fun hfa σ3 c0 c1 c2 c3 c4 c5 c6 c7 c8 => ?_)
      · skip
        conv => whnf
        refine ⟨_, ⟨rfl, rfl, rfl, ?_, rfl⟩⟩
        refine ⟨?_, by first | exact c0 _ _ (by first | (unfold FZf FNx; omega) | (unfold FZk FNx; omega) | (unfold FZm FNx; omega) | (unfold FZw FNx; omega) | (unfold FZs FNx; omega) | (unfold FFl; omega) | (unfold FLa; omega)) | exact cf0 _ _ (by first | (unfold FFl; omega) | (unfold FZc FNx; omega) | (unfold FLa; omega)) | exact c5 _ _ (by unfold FZc FNx; omega) | exact ce0 _ _ (by unfold FLa; omega)⟩
        first
        | (refine ⟨_, _, cf1, wk_of hp (fun a j z9 => cf0 a j (by unfold FAl FNx at z9; unfold FFl; omega)) (fun j => cf0 _ _ (by unfold FFl; omega)), Or.inl ⟨_, _, rfl, Or.inr (Or.inr (Or.inr (Or.inl (⟨ht0, Or.inl ⟨hfa, rfl, rfl⟩⟩))))⟩⟩)
        | (refine ⟨_, _, c1, ⟨fun a j z9 => c0 a j (by unfold FAl FPd FNx at z9; unfold FZw FNx; omega), fun hb f y0 y1 => by
                by_cases e7 : f = σ p 6
                · rw [e7, c7]; have := zCell_bd (tx := tx) (n9 := n9) (i := (kE tx n9 (kE tx n9 (kE tx n9 (kE tx n9 (kE tx n9 i)))))) wz; omega
                · rw [c0 _ _ (by unfold FZw FNx; omega)]; exact hb f y0 y1⟩, ?_⟩
           rcases opt_cs (zWalk p σ tx n9 i) with e9 | ⟨k, pl, e9⟩
           · rw [e9]
             exact Or.inr ⟨rfl, fun z => Or.inr (Or.inr (Or.inr (Or.inl (⟨ht0, Or.inr ⟨hfa, or_semi e9 z⟩⟩)))), fun z => Or.inr (Or.inr (Or.inr (Or.inl (⟨ht0, hfa, e9, rfl, c0, c2, c3, c4, c5, c6, c7, c8⟩))))⟩
           · rw [e9]
             exact Or.inl ⟨k, pl, rfl, Or.inr (Or.inr (Or.inr (Or.inl (⟨ht0, Or.inr ⟨hfa, or_some e9⟩⟩))))⟩)
      · skip
        conv => whnf
        refine ⟨_, ⟨rfl, rfl, rfl, ?_, rfl⟩⟩
        refine ⟨?_, by first | exact c0 _ _ (by first | (unfold FZf FNx; omega) | (unfold FZk FNx; omega) | (unfold FZm FNx; omega) | (unfold FZw FNx; omega) | (unfold FZs FNx; omega) | (unfold FFl; omega) | (unfold FLa; omega)) | exact cf0 _ _ (by first | (unfold FFl; omega) | (unfold FZc FNx; omega) | (unfold FLa; omega)) | exact c5 _ _ (by unfold FZc FNx; omega) | exact ce0 _ _ (by unfold FLa; omega)⟩
        first
        | (refine ⟨_, _, cf1, wk_of hp (fun a j z9 => cf0 a j (by unfold FAl FNx at z9; unfold FFl; omega)) (fun j => cf0 _ _ (by unfold FFl; omega)), Or.inl ⟨_, _, rfl, Or.inr (Or.inr (Or.inr (Or.inl (⟨ht0, Or.inl ⟨hfa, rfl, rfl⟩⟩))))⟩⟩)
        | (refine ⟨_, _, c1, ⟨fun a j z9 => c0 a j (by unfold FAl FPd FNx at z9; unfold FZw FNx; omega), fun hb f y0 y1 => by
                by_cases e7 : f = σ p 6
                · rw [e7, c7]; have := zCell_bd (tx := tx) (n9 := n9) (i := (kE tx n9 (kE tx n9 (kE tx n9 (kE tx n9 (kE tx n9 i)))))) wz; omega
                · rw [c0 _ _ (by unfold FZw FNx; omega)]; exact hb f y0 y1⟩, ?_⟩
           rcases opt_cs (zWalk p σ tx n9 i) with e9 | ⟨k, pl, e9⟩
           · rw [e9]
             exact Or.inr ⟨rfl, fun z => Or.inr (Or.inr (Or.inr (Or.inl (⟨ht0, Or.inr ⟨hfa, or_semi e9 z⟩⟩)))), fun z => Or.inr (Or.inr (Or.inr (Or.inl (⟨ht0, hfa, e9, rfl, c0, c2, c3, c4, c5, c6, c7, c8⟩))))⟩
           · rw [e9]
             exact Or.inl ⟨k, pl, rfl, Or.inr (Or.inr (Or.inr (Or.inl (⟨ht0, Or.inr ⟨hfa, or_some e9⟩⟩))))⟩)
    conv => whnf
    refine ⟨fun g => ?_, ?_⟩
    · skip
      have ht0 : kT tx n9 i = 5 := by omega
      skip
      conv => whnf
      refine ⟨Nat.le_of_ble_eq_true rfl, Nat.le_of_ble_eq_true rfl, (by first | assumption | rfl), ?_⟩
      refine c_Tcast hw hq (fun σ3 k pl j cf0 cf1 cf2 => ?_) (fun σ3 m c1 c2 c3 c4 c5 c6 c7 c8 => ?_)
      · skip
        conv => whnf
        refine ⟨_, ⟨rfl, rfl, rfl, ?_, rfl⟩⟩
        refine ⟨?_, by first | exact c0 _ _ (by first | (unfold FZf FNx; omega) | (unfold FZk FNx; omega) | (unfold FZm FNx; omega) | (unfold FZw FNx; omega) | (unfold FZs FNx; omega) | (unfold FFl; omega) | (unfold FLa; omega)) | exact cf0 _ _ (by first | (unfold FFl; omega) | (unfold FZc FNx; omega) | (unfold FLa; omega)) | exact c5 _ _ (by unfold FZc FNx; omega) | exact ce0 _ _ (by unfold FLa; omega)⟩
        first
        | (refine ⟨_, _, cf1, wk_of hp (fun a j z9 => cf0 a j (by unfold FAl FPd FNx at z9; unfold FZc FNx; omega)) (fun j => cf0 _ _ (by unfold FZc FNx; omega)), Or.inl ⟨_, _, rfl, Or.inr (Or.inr (Or.inr (Or.inr (Or.inl (⟨ht0, Or.inl cf2⟩)))))⟩⟩)
        | (refine ⟨_, _, c6, wk_of hp (fun a j z9 => c5 a j (by unfold FAl FPd FNx at z9; unfold FZc FNx; omega)) (fun j => c5 _ _ (by unfold FZc FNx; omega)), Or.inr ⟨rfl, fun z => Or.inr (Or.inr (Or.inr (Or.inr (Or.inl (⟨ht0, Or.inr ⟨c2, m, c1, c3, c4, z, rfl, rfl⟩⟩))))), fun z => Or.inr (Or.inr (Or.inr (Or.inr (Or.inl (⟨ht0, c2, m, c1, c3, c4, rfl, c5, c7, c8⟩)))))⟩⟩)
      · skip
        conv => whnf
        refine ⟨_, ⟨rfl, rfl, rfl, ?_, rfl⟩⟩
        refine ⟨?_, by first | exact c0 _ _ (by first | (unfold FZf FNx; omega) | (unfold FZk FNx; omega) | (unfold FZm FNx; omega) | (unfold FZw FNx; omega) | (unfold FZs FNx; omega) | (unfold FFl; omega) | (unfold FLa; omega)) | exact cf0 _ _ (by first | (unfold FFl; omega) | (unfold FZc FNx; omega) | (unfold FLa; omega)) | exact c5 _ _ (by unfold FZc FNx; omega) | exact ce0 _ _ (by unfold FLa; omega)⟩
        first
        | (refine ⟨_, _, cf1, wk_of hp (fun a j z9 => cf0 a j (by unfold FAl FPd FNx at z9; unfold FZc FNx; omega)) (fun j => cf0 _ _ (by unfold FZc FNx; omega)), Or.inl ⟨_, _, rfl, Or.inr (Or.inr (Or.inr (Or.inr (Or.inl (⟨ht0, Or.inl cf2⟩)))))⟩⟩)
        | (refine ⟨_, _, c6, wk_of hp (fun a j z9 => c5 a j (by unfold FAl FPd FNx at z9; unfold FZc FNx; omega)) (fun j => c5 _ _ (by unfold FZc FNx; omega)), Or.inr ⟨rfl, fun z => Or.inr (Or.inr (Or.inr (Or.inr (Or.inl (⟨ht0, Or.inr ⟨c2, m, c1, c3, c4, z, rfl, rfl⟩⟩))))), fun z => Or.inr (Or.inr (Or.inr (Or.inr (Or.inl (⟨ht0, c2, m, c1, c3, c4, rfl, c5, c7, c8⟩)))))⟩⟩)
    conv => whnf
    refine ⟨fun g => ?_, ?_⟩
    · skip
      have ht0 : kT tx n9 i = 6 := by omega
      skip
      conv => whnf
      refine ⟨Nat.le_of_ble_eq_true rfl, Nat.le_of_ble_eq_true rfl, (by first | assumption | rfl), ?_⟩
      refine c_Tseed hw hq (fun σ3 c0 c1 c2 c3 => ?_)
      conv => whnf
      refine ⟨_, ⟨rfl, rfl, rfl, ?_, rfl⟩⟩
      refine ⟨?_, by first | exact c0 _ _ (by first | (unfold FZf FNx; omega) | (unfold FZk FNx; omega) | (unfold FZm FNx; omega) | (unfold FZw FNx; omega) | (unfold FZs FNx; omega) | (unfold FFl; omega) | (unfold FLa; omega)) | exact cf0 _ _ (by first | (unfold FFl; omega) | (unfold FZc FNx; omega) | (unfold FLa; omega)) | exact c5 _ _ (by unfold FZc FNx; omega) | exact ce0 _ _ (by unfold FLa; omega)⟩
      refine ⟨_, _, c1, wk_of hp (fun a j z9 => c0 a j (by unfold FAl FPd FNx at z9; unfold FZs FNx; omega)) (fun j => c0 _ _ (by unfold FZs FNx; omega)), ?_⟩
      rcases opt_cs (zSeed p σ tx n9 i) with e9 | ⟨k, pl, e9⟩
      · rw [e9]
        exact Or.inr ⟨rfl, fun z => Or.inr (Or.inr (Or.inr (Or.inr (Or.inr (Or.inl (⟨ht0, or_semi e9 z⟩)))))), fun z => Or.inr (Or.inr (Or.inr (Or.inr (Or.inr (Or.inl (⟨ht0, e9, rfl, c0, c2, c3⟩))))))⟩
      · rw [e9]
        exact Or.inl ⟨k, pl, rfl, Or.inr (Or.inr (Or.inr (Or.inr (Or.inr (Or.inl (⟨ht0, or_some e9⟩))))))⟩
    conv => whnf
    refine ⟨fun g => ?_, ?_⟩
    · skip
      have ht0 : kT tx n9 i = 7 := by omega
      skip
      conv => whnf
      refine ⟨Nat.le_of_ble_eq_true rfl, Nat.le_of_ble_eq_true rfl, (by first | assumption | rfl), ?_⟩
      refine c_Tlaw hw hq hkn hk6 (fun σ3 k pl j cf0 cf1 cf2 => ?_) (fun σ3 j ce0 ce1 ce2 ce3 => ?_) (fun σ3 j c0 c1 c2 c3 => ?_)
      · skip
        conv => whnf
        refine ⟨_, ⟨rfl, rfl, rfl, ?_, rfl⟩⟩
        refine ⟨?_, by first | exact c0 _ _ (by first | (unfold FZf FNx; omega) | (unfold FZk FNx; omega) | (unfold FZm FNx; omega) | (unfold FZw FNx; omega) | (unfold FZs FNx; omega) | (unfold FFl; omega) | (unfold FLa; omega)) | exact cf0 _ _ (by first | (unfold FFl; omega) | (unfold FZc FNx; omega) | (unfold FLa; omega)) | exact c5 _ _ (by unfold FZc FNx; omega) | exact ce0 _ _ (by unfold FLa; omega)⟩
        first
        | (refine ⟨_, _, cf1, wk_of hp (fun a j z9 => cf0 a j (by unfold FAl FPd FNx at z9; unfold FLa; omega)) (fun j => cf0 _ _ (by unfold FLa; omega)), Or.inl ⟨_, _, rfl, Or.inr (Or.inr (Or.inr (Or.inr (Or.inr (Or.inr (Or.inl (⟨ht0, cf2⟩)))))))⟩⟩)
        | (refine ⟨_, _, ce1, wk_of hp (fun a j z9 => ce0 a j (by unfold FAl FPd FNx at z9; unfold FLa; omega)) (fun j => ce0 _ _ (by unfold FLa; omega)), Or.inr ⟨rfl, fun z => Or.inr (Or.inr (Or.inr (Or.inr (Or.inr (Or.inr (Or.inl (⟨ht0, ce3⟩))))))), fun z => by omega⟩⟩)
        | (refine ⟨_, _, c1, wk_of hp (fun a j z9 => c0 a j (by unfold FAl FPd FNx at z9; unfold FLa; omega)) (fun j => c0 _ _ (by unfold FLa; omega)), Or.inr ⟨rfl, fun z => absurd c2 z, fun z => Or.inr (Or.inr (Or.inr (Or.inr (Or.inr (Or.inr (⟨ht0, c3, c0⟩))))))⟩⟩)
      · skip
        conv => whnf
        refine ⟨_, ⟨rfl, rfl, rfl, ?_, rfl⟩⟩
        refine ⟨?_, by first | exact c0 _ _ (by first | (unfold FZf FNx; omega) | (unfold FZk FNx; omega) | (unfold FZm FNx; omega) | (unfold FZw FNx; omega) | (unfold FZs FNx; omega) | (unfold FFl; omega) | (unfold FLa; omega)) | exact cf0 _ _ (by first | (unfold FFl; omega) | (unfold FZc FNx; omega) | (unfold FLa; omega)) | exact c5 _ _ (by unfold FZc FNx; omega) | exact ce0 _ _ (by unfold FLa; omega)⟩
        first
        | (refine ⟨_, _, cf1, wk_of hp (fun a j z9 => cf0 a j (by unfold FAl FPd FNx at z9; unfold FLa; omega)) (fun j => cf0 _ _ (by unfold FLa; omega)), Or.inl ⟨_, _, rfl, Or.inr (Or.inr (Or.inr (Or.inr (Or.inr (Or.inr (Or.inl (⟨ht0, cf2⟩)))))))⟩⟩)
        | (refine ⟨_, _, ce1, wk_of hp (fun a j z9 => ce0 a j (by unfold FAl FPd FNx at z9; unfold FLa; omega)) (fun j => ce0 _ _ (by unfold FLa; omega)), Or.inr ⟨rfl, fun z => Or.inr (Or.inr (Or.inr (Or.inr (Or.inr (Or.inr (Or.inl (⟨ht0, ce3⟩))))))), fun z => by omega⟩⟩)
        | (refine ⟨_, _, c1, wk_of hp (fun a j z9 => c0 a j (by unfold FAl FPd FNx at z9; unfold FLa; omega)) (fun j => c0 _ _ (by unfold FLa; omega)), Or.inr ⟨rfl, fun z => absurd c2 z, fun z => Or.inr (Or.inr (Or.inr (Or.inr (Or.inr (Or.inr (⟨ht0, c3, c0⟩))))))⟩⟩)
      · skip
        conv => whnf
        refine ⟨_, ⟨rfl, rfl, rfl, ?_, rfl⟩⟩
        refine ⟨?_, by first | exact c0 _ _ (by first | (unfold FZf FNx; omega) | (unfold FZk FNx; omega) | (unfold FZm FNx; omega) | (unfold FZw FNx; omega) | (unfold FZs FNx; omega) | (unfold FFl; omega) | (unfold FLa; omega)) | exact cf0 _ _ (by first | (unfold FFl; omega) | (unfold FZc FNx; omega) | (unfold FLa; omega)) | exact c5 _ _ (by unfold FZc FNx; omega) | exact ce0 _ _ (by unfold FLa; omega)⟩
        first
        | (refine ⟨_, _, cf1, wk_of hp (fun a j z9 => cf0 a j (by unfold FAl FPd FNx at z9; unfold FLa; omega)) (fun j => cf0 _ _ (by unfold FLa; omega)), Or.inl ⟨_, _, rfl, Or.inr (Or.inr (Or.inr (Or.inr (Or.inr (Or.inr (Or.inl (⟨ht0, cf2⟩)))))))⟩⟩)
        | (refine ⟨_, _, ce1, wk_of hp (fun a j z9 => ce0 a j (by unfold FAl FPd FNx at z9; unfold FLa; omega)) (fun j => ce0 _ _ (by unfold FLa; omega)), Or.inr ⟨rfl, fun z => Or.inr (Or.inr (Or.inr (Or.inr (Or.inr (Or.inr (Or.inl (⟨ht0, ce3⟩))))))), fun z => by omega⟩⟩)
        | (refine ⟨_, _, c1, wk_of hp (fun a j z9 => c0 a j (by unfold FAl FPd FNx at z9; unfold FLa; omega)) (fun j => c0 _ _ (by unfold FLa; omega)), Or.inr ⟨rfl, fun z => absurd c2 z, fun z => Or.inr (Or.inr (Or.inr (Or.inr (Or.inr (Or.inr (⟨ht0, c3, c0⟩))))))⟩⟩)
    exact trivial
  · intro n t L st σ' hk
    obtain ⟨rfl, rfl, rfl, hc, rfl⟩ := hk
    obtain ⟨⟨e, F, hqe, hwk, hm⟩, e2⟩ := hc
    have hmid2 := e2
    have t3 := pt_32_3 hqe.pt
    have e3 := hqe.tk.2.1
    conv => whnf
    refine ⟨(by first | assumption | rfl), ?_⟩
    try simp (disch := omega) only [Int.cast_ofNat_Int, up_s, up_a, up_i, mp_a, mp_ge]
    try simp only [t3]
    try simp only [e3]
    try simp only [e2]
    conv => whnf
    refine ⟨(by first | assumption | rfl), ?_⟩
    try simp (disch := omega) only [Int.cast_ofNat_Int, up_s, up_a, up_i, mp_a, mp_ge]
    try simp only [t3]
    try simp only [e3]
    try simp only [e2]
    conv => whnf
    refine ⟨fun g => ?_, fun g => ?_⟩
    · simp only [sx_cc, Classical.not_not] at g
      have g22 := g
      conv => whnf
      refine ⟨(by first | assumption | rfl), ?_⟩
      try simp (disch := omega) only [Int.cast_ofNat_Int, up_s, up_a, up_i, mp_a, mp_ge]
      try simp only [t3]
      try simp only [e3]
      try simp only [e2]
      conv => whnf
      refine ⟨Nat.le_of_ble_eq_true rfl, Nat.le_of_ble_eq_true rfl, (by first | assumption | rfl), ?_⟩
      first
      | refine c_Tadv hw hq4 (fun σ5 hf5 hq5 => ?_)
      | refine c_Tadv hw hqe (fun σ5 hf5 hq5 => ?_)
      have e2 : σ5 32 2 = σ 32 2 := (hf5 _ _ (by decide)).trans e2
      conv => whnf
      refine ⟨(by first | assumption | rfl), ?_⟩
      try simp (disch := omega) only [Int.cast_ofNat_Int, up_s, up_a, up_i, mp_a, mp_ge]
      try simp only [t3]
      try simp only [e3]
      try simp only [e2]
      conv => whnf
      refine ⟨⟨by omega, by omega⟩, ?_⟩
      conv => whnf
      refine ⟨(by first | assumption | rfl), ?_⟩
      try simp (disch := omega) only [Int.cast_ofNat_Int, up_s, up_a, up_i, mp_a, mp_ge]
      try simp only [t3]
      try simp only [e3]
      try simp only [e2]
      conv => whnf
      refine ⟨rfl, ?_⟩
      have hw5 : wk p σ (sx_up σ5 32 2 (σ 32 2 + 1)) := by
        refine ⟨fun a j z9 => ?_, fun hb f y0 y1 => ?_⟩
        · unfold FAl FPd FNx at z9
          rw [up_n (by omega), hf5 a j (by unfold FXa; omega)]
          first
          | (rw [hf4 a j (by unfold FFl; omega)]; exact hwk.1 a j (by unfold FAl FPd FNx; omega))
          | exact hwk.1 a j (by unfold FAl FPd FNx; omega)
        · rw [up_n (by omega), hf5 _ _ (by unfold FXa; omega)]
          first
          | (rw [hf4 _ _ (by unfold FFl; omega)]; exact hwk.2 hb f y0 y1)
          | exact hwk.2 hb f y0 y1
      rcases hm with ⟨k, pl, rfl, hz⟩ | ⟨rfl, hz1, hz2⟩
      · exact hF _ k pl _ hw5 (cQ_up hq5 (by unfold FPd; omega)) hz
      · first
        | exact hF _ 1 _ _ hw5 (cQ_up hq5 (by unfold FPd; omega)) (hz1 g22)
        | exact hS _ _ hw5 (cQ_up hq5 (by unfold FPd; omega)) ⟨σ', e, hz2 g22, g22, rfl, fun a j z9 => by rw [up_n (fun z => z9 (Or.inr z)), hf5 a j (fun z => z9 (Or.inl z))], by rw [up_s, hmid2]⟩
    · simp only [sx_cc, Classical.not_not] at g
      have g22 := g
      conv => whnf
      refine ⟨Nat.le_of_ble_eq_true rfl, Nat.le_of_ble_eq_true rfl, (by first | assumption | rfl), ?_⟩
      refine c_Tfail hqe (by decide) (fun σ4 hf4 hq4 => ?_)
      have t3 := pt_32_3 hq4.pt
      have e2 : σ4 32 2 = σ 32 2 := (hf4 _ _ (by decide)).trans e2
      conv => whnf
      refine ⟨(by first | assumption | rfl), ?_⟩
      try simp (disch := omega) only [Int.cast_ofNat_Int, up_s, up_a, up_i, mp_a, mp_ge]
      try simp only [t3]
      try simp only [e3]
      try simp only [e2]
      conv => whnf
      refine ⟨Nat.le_of_ble_eq_true rfl, Nat.le_of_ble_eq_true rfl, (by first | assumption | rfl), ?_⟩
      first
      | refine c_Tadv hw hq4 (fun σ5 hf5 hq5 => ?_)
      | refine c_Tadv hw hqe (fun σ5 hf5 hq5 => ?_)
      have e2 : σ5 32 2 = σ 32 2 := (hf5 _ _ (by decide)).trans e2
      conv => whnf
      refine ⟨(by first | assumption | rfl), ?_⟩
      try simp (disch := omega) only [Int.cast_ofNat_Int, up_s, up_a, up_i, mp_a, mp_ge]
      try simp only [t3]
      try simp only [e3]
      try simp only [e2]
      conv => whnf
      refine ⟨⟨by omega, by omega⟩, ?_⟩
      conv => whnf
      refine ⟨(by first | assumption | rfl), ?_⟩
      try simp (disch := omega) only [Int.cast_ofNat_Int, up_s, up_a, up_i, mp_a, mp_ge]
      try simp only [t3]
      try simp only [e3]
      try simp only [e2]
      conv => whnf
      refine ⟨rfl, ?_⟩
      have hw5 : wk p σ (sx_up σ5 32 2 (σ 32 2 + 1)) := by
        refine ⟨fun a j z9 => ?_, fun hb f y0 y1 => ?_⟩
        · unfold FAl FPd FNx at z9
          rw [up_n (by omega), hf5 a j (by unfold FXa; omega)]
          first
          | (rw [hf4 a j (by unfold FFl; omega)]; exact hwk.1 a j (by unfold FAl FPd FNx; omega))
          | exact hwk.1 a j (by unfold FAl FPd FNx; omega)
        · rw [up_n (by omega), hf5 _ _ (by unfold FXa; omega)]
          first
          | (rw [hf4 _ _ (by unfold FFl; omega)]; exact hwk.2 hb f y0 y1)
          | exact hwk.2 hb f y0 y1
      rcases hm with ⟨k, pl, rfl, hz⟩ | ⟨rfl, hz1, hz2⟩
      · exact hF _ k pl _ hw5 (cQ_up hq5 (by unfold FPd; omega)) hz
      · first
        | exact hF _ 1 _ _ hw5 (cQ_up hq5 (by unfold FPd; omega)) (hz1 g22)
        | exact hS _ _ hw5 (cQ_up hq5 (by unfold FPd; omega)) ⟨σ', e, hz2 g22, g22, rfl, fun a j z9 => by rw [up_n (fun z => z9 (Or.inr z)), hf5 a j (fun z => z9 (Or.inl z))], by rw [up_s, hmid2]⟩
end SXQ2
