/-! BELOW, TRIED over the abstract snow (by wip/whole) -/
section SXL10
variable {X : sx_X} {Q : sx_R} {s t p b c x kk : Int} {σ σ0 σ' σ1 σ2 : sx_S} {P : aP} {A B : aM} {W : aW}
abbrev FZ (a i : Int) : Prop := (70 ≤ a ∧ a ≤ 84) ∨ a = 38 ∨ a = 39 ∨ (a = 37 ∧ i = 2)
abbrev FZR (a i : Int) : Prop := (146 ≤ a ∧ a ≤ 153 ∧ 90 ≤ i) ∨ (154 ≤ a ∧ a ≤ 156 ∧ i = 1) ∨ a = 144 ∨ a = 145 ∨ (a = 124 ∧ i = 56)
theorem fr.xz (h : fr (FX 70) σ σ') : fr FZ σ σ' := h.mono (fun a i z => by unfold FX at z; unfold FZ; omega)
theorem fr.cz (h : fr (FC 70) σ σ') : fr FZ σ σ' := h.mono (fun a i z => by unfold FC at z; unfold FZ; omega)
theorem GC.z (g : GC 40 p P A σ) (hp : isP p) (h : fr FZ σ σ') (g' : GC 70 p P B σ') : GC 40 p P A σ' := by
  have h2 : p + 20 < 38 := by rcases hp with h9 | h9 <;> omega
  exact GC.mk g'.pt ((h _ _ (by decide)).trans g.ep) g'.cp (g.cs.of (fun a i z1 z2 => h _ _ (by unfold FZ; omega))) g'.sc
theorem fr.yz (h : fr FY σ σ') : fr FZR σ σ' := h.mono (fun a i z => by unfold FY at z; unfold FZR; omega)
theorem fr.rz (h : fr (FR 1) σ σ') (e : σ' 124 73 = σ 124 73) : fr FZR σ σ' := fun a i z => by
  by_cases e9 : a = 124 ∧ i = 73
  · obtain ⟨e1, e2⟩ := e9; subst e1; subst e2; exact e
  · exact h a i (by unfold FZR at z; unfold FR; omega)
theorem eqR_z (h : eqR σ σ') : fr FZR σ σ' := fun a i z => h a i (fun e => z (by unfold FZR; omega)) (fun e => z (by unfold FZR; omega)) (fun e => z (by unfold FZR; omega))
theorem fCnt_ext {b : Int → Bool} {m : Nat} : ∀ d : Nat, (∀ i : Int, (m : Int) ≤ i → i < (m : Int) + d → b i = false) → fCnt b (m + d) = fCnt b m
  | 0, _ => rfl
  | d + 1, h => by
    show fCnt b (m + d) + (if b ((m + d : Nat) : Int) = true then 1 else 0) = fCnt b m
    rw [fCnt_ext d (fun i y0 y1 => h i y0 (by omega)), h _ (by omega) (by omega)]
    simp
theorem aRm_eq (wp : wP P) (wm : wM P A c) : fCnt (fun c => decide (0 ≤ aTop A c)) (P.w * P.h).toNat = aRm A := by
  have v4 := wp.wh
  have e : aRm A = fCnt (fun c => decide (0 ≤ aTop A c)) ((P.w * P.h).toNat + (48 - (P.w * P.h).toNat)) := by
    rw [show (P.w * P.h).toNat + (48 - (P.w * P.h).toNat) = 48 by omega]
    unfold aRm
    exact fCnt_cg (fun i _ _ => decide_eq_decide.mpr (by omega))
  rw [e, fCnt_ext _ (fun i y0 y1 => ?_)]
  refine decide_eq_false (fun z => ?_)
  have h1 := aTop_bd wm i
  have h2 := (fTop_is (cell := A.ce) (deep := A.dp) (cov := A.cv) A.n.toNat z).2.2
  have h3 := wm.ce (aTop A i) (by omega) h1.2
  have h4 : A.ce (aTop A i) = i := h2
  omega
theorem a_Rmany (hb : b = 0 ∨ b = 1) (wp : wP P) (wm : wM P A c) (g : GR b P A σ) (h : Q (some (.inl (aRm A))) shM σ) : sx_Run X 293 [.inr (.inr 124), .inl b] shM σ Q := by
  refine c_Rmany g.pt (g.rp.rd wp) hb (by rw [g.rs.n]; exact wm.n) ?_
  rw [← aRm_eq wp wm] at h
  rw [g.rp.w, g.rp.h, fCnt_cg (b' := fun c => decide (0 ≤ aTop A c)) (fun i _ _ => by rw [rTop g.rs])]
  exact h
/-- what is tried, up to j -/
def tA (q i j : Int) (A : aM) : aM := aM.mk A.n A.hr A.sn A.la (fun m => if q = 3 ∧ m < j then A.ow m else A.lk m) A.ce A.wy A.bo (fun m => if q = 1 ∧ m < j ∧ A.lk m = i then 0 else A.dp m) (fun m => if q = 0 ∧ m < j then 0 else A.cv m) A.ow (fun m => if q = 2 ∧ m < j then 0 else A.bl m)
def aTry (q i : Int) (A : aM) : aM := if q = 4 then fThaw i A else tA q i A.n A
theorem tA_lk {q i j m : Int} (h : ¬ (q = 3 ∧ m < j)) : (tA q i j A).lk m = A.lk m := if_neg h
theorem tA_lk1 {q i j m : Int} (h : q = 3 ∧ m < j) : (tA q i j A).lk m = A.ow m := if_pos h
theorem tA_dp {q i j m : Int} (h : ¬ (q = 1 ∧ m < j ∧ A.lk m = i)) : (tA q i j A).dp m = A.dp m := if_neg h
theorem tA_dp1 {q i j m : Int} (h : q = 1 ∧ m < j ∧ A.lk m = i) : (tA q i j A).dp m = 0 := if_pos h
theorem tA_cv {q i j m : Int} (h : ¬ (q = 0 ∧ m < j)) : (tA q i j A).cv m = A.cv m := if_neg h
theorem tA_cv1 {q i j m : Int} (h : q = 0 ∧ m < j) : (tA q i j A).cv m = 0 := if_pos h
theorem tA_bl {q i j m : Int} (h : ¬ (q = 2 ∧ m < j)) : (tA q i j A).bl m = A.bl m := if_neg h
theorem tA_bl1 {q i j m : Int} (h : q = 2 ∧ m < j) : (tA q i j A).bl m = 0 := if_pos h
theorem wM.tAb {q i j : Int} (wm : wM P A c) (hc : 0 ≤ c) : wM P (tA q i j A) c := wM.mk wm.n wm.hr wm.sn wm.la (fun m h0 h1 => by
    by_cases e : q = 3 ∧ m < j
    · rw [tA_lk1 e]; exact wm.ow m h0 h1
    · rw [tA_lk e]; exact wm.lk m h0 h1) wm.ce wm.wy wm.bo (fun m h0 h1 => by
    by_cases e : q = 1 ∧ m < j ∧ A.lk m = i
    · rw [tA_dp1 e]; decide
    · rw [tA_dp e]; exact wm.dp m h0 h1) (fun m h0 h1 => by
    by_cases e : q = 0 ∧ m < j
    · rw [tA_cv1 e]; exact ⟨by decide, hc⟩
    · rw [tA_cv e]; exact wm.cv m h0 h1) wm.ow (fun m h0 h1 => by
    by_cases e : q = 2 ∧ m < j
    · rw [tA_bl1 e]; exact Or.inl rfl
    · rw [tA_bl e]; exact wm.bl m h0 h1)
theorem wM.tryb {q i : Int} (wm : wM P A c) (hc : 0 ≤ c) (hi : 0 ≤ i) : wM P (aTry q i A) c := by
  unfold aTry
  split
  · exact wm.thaw hi
  · exact wm.tAb hc
abbrev pTry (P : aP) (q i : Int) : Prop := ((q = 0 ∨ q = 2 ∨ q = 3) ∧ i = 0) ∨ (q = 1 ∧ 0 ≤ i ∧ i < P.wa) ∨ (q = 4 ∧ 0 ≤ i ∧ i ≤ 99)
def aTried (P : aP) (A : aM) (f q i : Int) : Int := if 0 ≤ f ∧ f < P.fa ∧ pTry P q i then fSco P (aTry q i A) f else -1
theorem rT_e {q i j : Int} (g : rS b σ (tA q i j A)) : (σ 154 b = A.n ∧ σ 156 b = A.hr ∧ σ 155 b = A.sn ∧ σ 124 73 = A.la) ∧ ∀ m : Int, 0 ≤ m → m < A.n → (σ 146 (90 * b + m) = (tA q i j A).lk m ∧ σ 147 (90 * b + m) = A.ce m ∧ σ 148 (90 * b + m) = A.wy m ∧ σ 149 (90 * b + m) = A.bo m ∧ σ 150 (90 * b + m) = (tA q i j A).dp m ∧ σ 151 (90 * b + m) = (tA q i j A).cv m ∧ σ 152 (90 * b + m) = A.ow m ∧ σ 153 (90 * b + m) = (tA q i j A).bl m) :=
  ⟨⟨g.n, g.hr, g.sn, g.la⟩, fun m y0 y1 => ⟨g.lk m y0 y1, g.ce m y0 y1, g.wy m y0 y1, g.bo m y0 y1, g.dp m y0 y1, g.cv m y0 y1, g.ow m y0 y1, g.bl m y0 y1⟩⟩
theorem rT_m {q i j : Int} (g : (σ 154 b = A.n ∧ σ 156 b = A.hr ∧ σ 155 b = A.sn ∧ σ 124 73 = A.la) ∧ ∀ m : Int, 0 ≤ m → m < A.n → (σ 146 (90 * b + m) = (tA q i j A).lk m ∧ σ 147 (90 * b + m) = A.ce m ∧ σ 148 (90 * b + m) = A.wy m ∧ σ 149 (90 * b + m) = A.bo m ∧ σ 150 (90 * b + m) = (tA q i j A).dp m ∧ σ 151 (90 * b + m) = (tA q i j A).cv m ∧ σ 152 (90 * b + m) = A.ow m ∧ σ 153 (90 * b + m) = (tA q i j A).bl m)) : rS b σ (tA q i j A) :=
  rS.mk g.1.1 g.1.2.1 g.1.2.2.1 g.1.2.2.2 (fun m y0 y1 => (g.2 m y0 y1).1) (fun m y0 y1 => (g.2 m y0 y1).2.1) (fun m y0 y1 => (g.2 m y0 y1).2.2.1) (fun m y0 y1 => (g.2 m y0 y1).2.2.2.1) (fun m y0 y1 => (g.2 m y0 y1).2.2.2.2.1) (fun m y0 y1 => (g.2 m y0 y1).2.2.2.2.2.1) (fun m y0 y1 => (g.2 m y0 y1).2.2.2.2.2.2.1) (fun m y0 y1 => (g.2 m y0 y1).2.2.2.2.2.2.2)
theorem tA_s0 {i j : Int} (g : rS 1 σ (tA 0 i j A)) : rS 1 (sx_up σ 151 (90 + j) 0) (tA 0 i (j + 1) A) := by
  have h := rT_e g
  refine rT_m ⟨⟨(up_a (by decide)).trans h.1.1, (up_a (by decide)).trans h.1.2.1, (up_a (by decide)).trans h.1.2.2.1, (up_a (by decide)).trans h.1.2.2.2⟩, fun m y0 y1 => ?_⟩
  obtain ⟨u0, u1, u2, u3, u4, u5, u6, u7⟩ := h.2 m y0 y1
  refine ⟨?_, ?_, ?_, ?_, ?_, ?_, ?_, ?_⟩
  · rw [up_a (by decide), u0, tA_lk (by omega), tA_lk (by omega)]
  · rw [up_a (by decide), u1]
  · rw [up_a (by decide), u2]
  · rw [up_a (by decide), u3]
  · rw [up_a (by decide), u4, tA_dp (by omega), tA_dp (by omega)]
  · by_cases e : m = j
    · subst e; rw [show 90 * 1 + m = 90 + m by omega, up_s, tA_cv1 ⟨rfl, by omega⟩]
    · rw [up_i (by omega), u5]
      by_cases e2 : m < j
      · rw [tA_cv1 ⟨rfl, e2⟩, tA_cv1 ⟨rfl, by omega⟩]
      · rw [tA_cv (by omega), tA_cv (by omega)]
  · rw [up_a (by decide), u6]
  · rw [up_a (by decide), u7, tA_bl (by omega), tA_bl (by omega)]
theorem tA_s1 {i j : Int} (g : rS 1 σ (tA 1 i j A)) (hl : A.lk j = i) : rS 1 (sx_up σ 150 (90 + j) 0) (tA 1 i (j + 1) A) := by
  have h := rT_e g
  refine rT_m ⟨⟨(up_a (by decide)).trans h.1.1, (up_a (by decide)).trans h.1.2.1, (up_a (by decide)).trans h.1.2.2.1, (up_a (by decide)).trans h.1.2.2.2⟩, fun m y0 y1 => ?_⟩
  obtain ⟨u0, u1, u2, u3, u4, u5, u6, u7⟩ := h.2 m y0 y1
  refine ⟨?_, ?_, ?_, ?_, ?_, ?_, ?_, ?_⟩
  · rw [up_a (by decide), u0, tA_lk (by omega), tA_lk (by omega)]
  · rw [up_a (by decide), u1]
  · rw [up_a (by decide), u2]
  · rw [up_a (by decide), u3]
  · by_cases e : m = j
    · subst e; rw [show 90 * 1 + m = 90 + m by omega, up_s, tA_dp1 ⟨rfl, by omega, hl⟩]
    · rw [up_i (by omega), u4]
      by_cases e2 : m < j ∧ A.lk m = i
      · rw [tA_dp1 ⟨rfl, e2⟩, tA_dp1 ⟨rfl, by omega⟩]
      · rw [tA_dp (by omega), tA_dp (by omega)]
  · rw [up_a (by decide), u5, tA_cv (by omega), tA_cv (by omega)]
  · rw [up_a (by decide), u6]
  · rw [up_a (by decide), u7, tA_bl (by omega), tA_bl (by omega)]
theorem tA_s2 {i j : Int} (g : rS 1 σ (tA 2 i j A)) : rS 1 (sx_up σ 153 (90 + j) 0) (tA 2 i (j + 1) A) := by
  have h := rT_e g
  refine rT_m ⟨⟨(up_a (by decide)).trans h.1.1, (up_a (by decide)).trans h.1.2.1, (up_a (by decide)).trans h.1.2.2.1, (up_a (by decide)).trans h.1.2.2.2⟩, fun m y0 y1 => ?_⟩
  obtain ⟨u0, u1, u2, u3, u4, u5, u6, u7⟩ := h.2 m y0 y1
  refine ⟨?_, ?_, ?_, ?_, ?_, ?_, ?_, ?_⟩
  · rw [up_a (by decide), u0, tA_lk (by omega), tA_lk (by omega)]
  · rw [up_a (by decide), u1]
  · rw [up_a (by decide), u2]
  · rw [up_a (by decide), u3]
  · rw [up_a (by decide), u4, tA_dp (by omega), tA_dp (by omega)]
  · rw [up_a (by decide), u5, tA_cv (by omega), tA_cv (by omega)]
  · rw [up_a (by decide), u6]
  · by_cases e : m = j
    · subst e; rw [show 90 * 1 + m = 90 + m by omega, up_s, tA_bl1 ⟨rfl, by omega⟩]
    · rw [up_i (by omega), u7]
      by_cases e2 : m < j
      · rw [tA_bl1 ⟨rfl, e2⟩, tA_bl1 ⟨rfl, by omega⟩]
      · rw [tA_bl (by omega), tA_bl (by omega)]
theorem tA_s3 {i j : Int} (g : rS 1 σ (tA 3 i j A)) : rS 1 (sx_up σ 146 (90 + j) (A.ow j)) (tA 3 i (j + 1) A) := by
  have h := rT_e g
  refine rT_m ⟨⟨(up_a (by decide)).trans h.1.1, (up_a (by decide)).trans h.1.2.1, (up_a (by decide)).trans h.1.2.2.1, (up_a (by decide)).trans h.1.2.2.2⟩, fun m y0 y1 => ?_⟩
  obtain ⟨u0, u1, u2, u3, u4, u5, u6, u7⟩ := h.2 m y0 y1
  refine ⟨?_, ?_, ?_, ?_, ?_, ?_, ?_, ?_⟩
  · by_cases e : m = j
    · subst e; rw [show 90 * 1 + m = 90 + m by omega, up_s, tA_lk1 ⟨rfl, by omega⟩]
    · rw [up_i (by omega), u0]
      by_cases e2 : m < j
      · rw [tA_lk1 ⟨rfl, e2⟩, tA_lk1 ⟨rfl, by omega⟩]
      · rw [tA_lk (by omega), tA_lk (by omega)]
  · rw [up_a (by decide), u1]
  · rw [up_a (by decide), u2]
  · rw [up_a (by decide), u3]
  · rw [up_a (by decide), u4, tA_dp (by omega), tA_dp (by omega)]
  · rw [up_a (by decide), u5, tA_cv (by omega), tA_cv (by omega)]
  · rw [up_a (by decide), u6]
  · rw [up_a (by decide), u7, tA_bl (by omega), tA_bl (by omega)]
theorem rS.cg (g : rS b σ A) (e1 : B.n = A.n) (e2 : B.hr = A.hr) (e3 : B.sn = A.sn) (e4 : B.la = A.la) (e : ∀ m : Int, 0 ≤ m → m < A.n → A.lk m = B.lk m ∧ A.ce m = B.ce m ∧ A.wy m = B.wy m ∧ A.bo m = B.bo m ∧ A.dp m = B.dp m ∧ A.cv m = B.cv m ∧ A.ow m = B.ow m ∧ A.bl m = B.bl m) : rS b σ B :=
  rS.mk (g.n.trans e1.symm) (g.hr.trans e2.symm) (g.sn.trans e3.symm) (g.la.trans e4.symm) (fun m y0 y1 => (g.lk m y0 (e1 ▸ y1)).trans (e m y0 (e1 ▸ y1)).1) (fun m y0 y1 => (g.ce m y0 (e1 ▸ y1)).trans (e m y0 (e1 ▸ y1)).2.1) (fun m y0 y1 => (g.wy m y0 (e1 ▸ y1)).trans (e m y0 (e1 ▸ y1)).2.2.1) (fun m y0 y1 => (g.bo m y0 (e1 ▸ y1)).trans (e m y0 (e1 ▸ y1)).2.2.2.1) (fun m y0 y1 => (g.dp m y0 (e1 ▸ y1)).trans (e m y0 (e1 ▸ y1)).2.2.2.2.1) (fun m y0 y1 => (g.cv m y0 (e1 ▸ y1)).trans (e m y0 (e1 ▸ y1)).2.2.2.2.2.1) (fun m y0 y1 => (g.ow m y0 (e1 ▸ y1)).trans (e m y0 (e1 ▸ y1)).2.2.2.2.2.2.1) (fun m y0 y1 => (g.bl m y0 (e1 ▸ y1)).trans (e m y0 (e1 ▸ y1)).2.2.2.2.2.2.2)
theorem tA_cg {q i j k : Int} (h : ∀ m : Int, 0 ≤ m → m < A.n → (q = 3 ∧ m < j ↔ q = 3 ∧ m < k) ∧ (q = 1 ∧ m < j ∧ A.lk m = i ↔ q = 1 ∧ m < k ∧ A.lk m = i) ∧ (q = 0 ∧ m < j ↔ q = 0 ∧ m < k) ∧ (q = 2 ∧ m < j ↔ q = 2 ∧ m < k)) (g : rS b σ (tA q i j A)) : rS b σ (tA q i k A) := by
  have g9 := rT_e g
  refine rT_m ⟨g9.1, fun m y0 y1 => ?_⟩
  obtain ⟨u0, u1, u2, u3, u4, u5, u6, u7⟩ := g9.2 m y0 y1
  obtain ⟨h1, h2, h3, h4⟩ := h m y0 y1
  refine ⟨u0.trans ?_, u1, u2, u3, u4.trans ?_, u5.trans ?_, u6, u7.trans ?_⟩
  · by_cases e : q = 3 ∧ m < j
    · rw [tA_lk1 e, tA_lk1 (h1.mp e)]
    · rw [tA_lk e, tA_lk (fun z => e (h1.mpr z))]
  · by_cases e : q = 1 ∧ m < j ∧ A.lk m = i
    · rw [tA_dp1 e, tA_dp1 (h2.mp e)]
    · rw [tA_dp e, tA_dp (fun z => e (h2.mpr z))]
  · by_cases e : q = 0 ∧ m < j
    · rw [tA_cv1 e, tA_cv1 (h3.mp e)]
    · rw [tA_cv e, tA_cv (fun z => e (h3.mpr z))]
  · by_cases e : q = 2 ∧ m < j
    · rw [tA_bl1 e, tA_bl1 (h4.mp e)]
    · rw [tA_bl e, tA_bl (fun z => e (h4.mpr z))]
theorem tA_n {q i j : Int} (h3 : ¬ q = 3) (h1 : ¬ (q = 1 ∧ A.lk j = i)) (h0 : ¬ q = 0) (h2 : ¬ q = 2) (g : rS b σ (tA q i j A)) : rS b σ (tA q i (j + 1) A) := by
  refine tA_cg (fun m y0 y1 => ⟨⟨fun z => absurd z.1 h3, fun z => absurd z.1 h3⟩, ⟨fun z => ⟨z.1, by omega, z.2.2⟩, fun z => ⟨z.1, ?_, z.2.2⟩⟩, ⟨fun z => absurd z.1 h0, fun z => absurd z.1 h0⟩, ⟨fun z => absurd z.1 h2, fun z => absurd z.1 h2⟩⟩) g
  by_cases e : m = j
  · subst e; exact absurd ⟨z.1, z.2.2⟩ h1
  · omega
theorem tA_0 {q i : Int} (g : rS b σ A) : rS b σ (tA q i 0 A) := rT_m ⟨⟨g.n, g.hr, g.sn, g.la⟩, fun m y0 y1 => ⟨(g.lk m y0 y1).trans (tA_lk (by omega)).symm, g.ce m y0 y1, g.wy m y0 y1, g.bo m y0 y1, (g.dp m y0 y1).trans (tA_dp (by omega)).symm, (g.cv m y0 y1).trans (tA_cv (by omega)).symm, g.ow m y0 y1, (g.bl m y0 y1).trans (tA_bl (by omega)).symm⟩⟩
theorem tA_4 {i j : Int} (g : rS b σ (tA 4 i j A)) : rS b σ A := by
  have h := rT_e g
  exact rS.mk h.1.1 h.1.2.1 h.1.2.2.1 h.1.2.2.2 (fun m y0 y1 => (h.2 m y0 y1).1.trans (tA_lk (by omega))) (fun m y0 y1 => (h.2 m y0 y1).2.1) (fun m y0 y1 => (h.2 m y0 y1).2.2.1) (fun m y0 y1 => (h.2 m y0 y1).2.2.2.1) (fun m y0 y1 => (h.2 m y0 y1).2.2.2.2.1.trans (tA_dp (by omega))) (fun m y0 y1 => (h.2 m y0 y1).2.2.2.2.2.1.trans (tA_cv (by omega))) (fun m y0 y1 => (h.2 m y0 y1).2.2.2.2.2.2.1) (fun m y0 y1 => (h.2 m y0 y1).2.2.2.2.2.2.2.trans (tA_bl (by omega)))
theorem GC.upd {k : Int} (g : GC s p P A σ) (hs : isS s) (hp : isP p) (hT : PT σ') (h : ∀ a i : Int, ¬ a = s + k → σ' a i = σ a i) (hk : 5 ≤ k ∧ k ≤ 12) (hA : cS s σ' B) : GC s p P B σ' := by
  have h1 := hs.ge
  have h2 : p + 20 < 38 := by rcases hp with h9 | h9 <;> omega
  exact GC.mk hT ((h _ _ (by omega)).trans g.ep) (g.cp.of (fun a i z1 z2 => h _ _ (by omega))) hA (g.sc.of (fun a i z1 z2 => h _ _ (by omega)))
theorem GC.t0 {i : Int} (g : GC 70 p P A σ) (hp : isP p) (wm : wM P A c) : GC 70 p P (tA 0 i A.n A) (sx_fil σ (70 + 10) 90 0) := by
  have hs : isS 70 := Or.inr (Or.inr rfl)
  have wn := wm.n
  refine g.upd (k := 10) hs hp (PT_fil g.pt (lkS10 hs) (by decide)) (fun a j z => fil_a z) (by decide) (cS.mk ?_ ?_ ?_ ?_ (fun m y0 y1 => by rw [fil_a (by decide), g.cs.lk m y0 y1]; exact (tA_lk (by omega)).symm)
  (fun m y0 y1 => by rw [fil_a (by decide)]; exact g.cs.ce m y0 y1)
  (fun m y0 y1 => by rw [fil_a (by decide)]; exact g.cs.wy m y0 y1)
  (fun m y0 y1 => by rw [fil_a (by decide)]; exact g.cs.bo m y0 y1)
  (fun m y0 y1 => by rw [fil_a (by decide), g.cs.dp m y0 y1]; exact (tA_dp (by omega)).symm)
  (fun m y0 y1 => by
    have y2 : m < A.n := y1
    rw [fil_in y0 (by omega)]
    exact (tA_cv1 ⟨rfl, y2⟩).symm)
  (fun m y0 y1 => by rw [fil_a (by decide)]; exact g.cs.ow m y0 y1)
  (fun m y0 y1 => by rw [fil_a (by decide), g.cs.bl m y0 y1]; exact (tA_bl (by omega)).symm))
  · rw [fil_a (by decide)]; exact g.cs.n
  · rw [fil_a (by decide)]; exact g.cs.hr
  · rw [fil_a (by decide)]; exact g.cs.sn
  · rw [fil_a (by decide)]; exact g.cs.la
theorem GC.t1 {i : Int} (g : GC 70 p P A σ) (hp : isP p) (wm : wM P A c) : GC 70 p P (tA 1 i A.n A) (sx_mp σ (70 + 9) (σ (70 + 4) 0) (fun j => if σ (70 + 5) j = i then 0 else σ (70 + 9) j)) := by
  have hs : isS 70 := Or.inr (Or.inr rfl)
  have wn := wm.n
  refine g.upd (k := 9) hs hp (PT_mp g.pt (lkS9 hs) (by decide)) (fun a j z => mp_a z) (by decide) (cS.mk ?_ ?_ ?_ ?_ (fun m y0 y1 => by rw [mp_a (by decide), g.cs.lk m y0 y1]; exact (tA_lk (by omega)).symm)
  (fun m y0 y1 => by rw [mp_a (by decide)]; exact g.cs.ce m y0 y1)
  (fun m y0 y1 => by rw [mp_a (by decide)]; exact g.cs.wy m y0 y1)
  (fun m y0 y1 => by rw [mp_a (by decide)]; exact g.cs.bo m y0 y1)
  (fun m y0 y1 => by
    have y2 : m < A.n := y1
    rw [g.cs.n, mp_in y0 y2, g.cs.lk m y0 y2, g.cs.dp m y0 y2]
    by_cases e : A.lk m = i
    · rw [if_pos e, tA_dp1 ⟨rfl, y2, e⟩]
    · rw [if_neg e, tA_dp (by omega)])
  (fun m y0 y1 => by rw [mp_a (by decide), g.cs.cv m y0 y1]; exact (tA_cv (by omega)).symm)
  (fun m y0 y1 => by rw [mp_a (by decide)]; exact g.cs.ow m y0 y1)
  (fun m y0 y1 => by rw [mp_a (by decide), g.cs.bl m y0 y1]; exact (tA_bl (by omega)).symm))
  · rw [mp_a (by decide)]; exact g.cs.n
  · rw [mp_a (by decide)]; exact g.cs.hr
  · rw [mp_a (by decide)]; exact g.cs.sn
  · rw [mp_a (by decide)]; exact g.cs.la
theorem GC.t2 {i : Int} (g : GC 70 p P A σ) (hp : isP p) (wm : wM P A c) : GC 70 p P (tA 2 i A.n A) (sx_fil σ (70 + 12) 90 0) := by
  have hs : isS 70 := Or.inr (Or.inr rfl)
  have wn := wm.n
  refine g.upd (k := 12) hs hp (PT_fil g.pt (lkS12 hs) (by decide)) (fun a j z => fil_a z) (by decide) (cS.mk ?_ ?_ ?_ ?_ (fun m y0 y1 => by rw [fil_a (by decide), g.cs.lk m y0 y1]; exact (tA_lk (by omega)).symm)
  (fun m y0 y1 => by rw [fil_a (by decide)]; exact g.cs.ce m y0 y1)
  (fun m y0 y1 => by rw [fil_a (by decide)]; exact g.cs.wy m y0 y1)
  (fun m y0 y1 => by rw [fil_a (by decide)]; exact g.cs.bo m y0 y1)
  (fun m y0 y1 => by rw [fil_a (by decide), g.cs.dp m y0 y1]; exact (tA_dp (by omega)).symm)
  (fun m y0 y1 => by rw [fil_a (by decide), g.cs.cv m y0 y1]; exact (tA_cv (by omega)).symm)
  (fun m y0 y1 => by rw [fil_a (by decide)]; exact g.cs.ow m y0 y1)
  (fun m y0 y1 => by
    have y2 : m < A.n := y1
    rw [fil_in y0 (by omega)]
    exact (tA_bl1 ⟨rfl, y2⟩).symm))
  · rw [fil_a (by decide)]; exact g.cs.n
  · rw [fil_a (by decide)]; exact g.cs.hr
  · rw [fil_a (by decide)]; exact g.cs.sn
  · rw [fil_a (by decide)]; exact g.cs.la
theorem GC.t3 {i : Int} (g : GC 70 p P A σ) (hp : isP p) (wm : wM P A c) : GC 70 p P (tA 3 i A.n A) (sx_cp σ (70 + 11) 0 (70 + 5) 0 90) := by
  have hs : isS 70 := Or.inr (Or.inr rfl)
  have wn := wm.n
  refine g.upd (k := 5) hs hp (PT_cp g.pt (lkS5 hs) (by decide)) (fun a j z => cp_a z) (by decide) (cS.mk ?_ ?_ ?_ ?_ (fun m y0 y1 => by
    have y2 : m < A.n := y1
    rw [cp_in y0 (by omega), g.cs.ow m y0 y2]
    exact (tA_lk1 ⟨rfl, y2⟩).symm)
  (fun m y0 y1 => by rw [cp_a (by decide)]; exact g.cs.ce m y0 y1)
  (fun m y0 y1 => by rw [cp_a (by decide)]; exact g.cs.wy m y0 y1)
  (fun m y0 y1 => by rw [cp_a (by decide)]; exact g.cs.bo m y0 y1)
  (fun m y0 y1 => by rw [cp_a (by decide), g.cs.dp m y0 y1]; exact (tA_dp (by omega)).symm)
  (fun m y0 y1 => by rw [cp_a (by decide), g.cs.cv m y0 y1]; exact (tA_cv (by omega)).symm)
  (fun m y0 y1 => by rw [cp_a (by decide)]; exact g.cs.ow m y0 y1)
  (fun m y0 y1 => by rw [cp_a (by decide), g.cs.bl m y0 y1]; exact (tA_bl (by omega)).symm))
  · rw [cp_a (by decide)]; exact g.cs.n
  · rw [cp_a (by decide)]; exact g.cs.hr
  · rw [cp_a (by decide)]; exact g.cs.sn
  · rw [cp_a (by decide)]; exact g.cs.la
set_option maxRecDepth 20000 in
theorem c_below (hp : isP p) (wp : wP P) (wm : wM P A c) (hc : c ≤ 1000000) (g0 : GC 40 p P A σ) (hW : cW P 40 σ W) (h0 : ¬ (0 ≤ x ∧ x ≤ 999) → Q (some (.inl (-1))) shM σ) (h1 : 0 ≤ x → x ≤ 999 → ∀ σ', fr FZ σ σ' → GC 70 p P (fThaw x A) σ' → Q (some (.inl (aRm (fThaw x A)))) shM σ') : sx_Run X 161 [.inr (.inr 0), .inl x] shM σ Q := by
  have hs4 : isS 40 := Or.inl rfl
  have hs7 : isS 70 := Or.inr (Or.inr rfl)
  have a6 := pt_0_6 g0.pt
  have a8 := pt_0_8 g0.pt
  refine sx_rule0 (own := 11) (cd := kX11_below) (nL := 2) (by decide +kernel) (by decide +kernel) kX11_below_ok (by decide +kernel) (Nat.le_of_ble_eq_true rfl) 40 ?_
  conv => whnf
  refine ⟨fun g => ?_, fun g => ?_⟩
  · simp only [sx_cc, Classical.not_not] at g
    conv => whnf
    refine ⟨fun q9 => by first | (simp at q9; done) | omega, ?_⟩
    exact h0 (by omega)
  · simp only [sx_cc, Classical.not_not] at g
    conv => whnf
    refine ⟨fun g => ?_, fun g => ?_⟩
    · simp only [sx_cc, Classical.not_not] at g
      conv => whnf
      refine ⟨(by first | assumption | rfl), ?_⟩
      try simp (disch := omega) only [Int.cast_ofNat_Int, up_s, up_a, up_i, mp_a, mp_ge]
      try simp only [a6]
      try simp only [a8]
      conv => whnf
      refine ⟨(by first | assumption | rfl), ?_⟩
      try simp (disch := omega) only [Int.cast_ofNat_Int, up_s, up_a, up_i, mp_a, mp_ge]
      try simp only [a6]
      try simp only [a8]
      conv => whnf
      refine ⟨Nat.le_of_ble_eq_true rfl, Nat.le_of_ble_eq_true rfl, (by first | assumption | rfl), ?_⟩
      refine a_Stake hs7 hs4 hp (by decide) wp wm g0 hW ?_
      intro σ1 hf1 g1 w1
      have a6 := pt_0_6 g1.pt
      have a8 := pt_0_8 g1.pt
      conv => whnf
      refine ⟨(by first | assumption | rfl), ?_⟩
      try simp (disch := omega) only [Int.cast_ofNat_Int, up_s, up_a, up_i, mp_a, mp_ge]
      try simp only [a6]
      try simp only [a8]
      conv => whnf
      refine ⟨Nat.le_of_ble_eq_true rfl, Nat.le_of_ble_eq_true rfl, (by first | assumption | rfl), ?_⟩
      refine a_Smelt hs7 hp wm hc g1 ⟨by omega, by omega⟩ ?_
      intro σ2 hf2 g2
      have a8 := pt_0_8 g2.pt
      conv => whnf
      refine ⟨(by first | assumption | rfl), ?_⟩
      try simp (disch := omega) only [Int.cast_ofNat_Int, up_s, up_a, up_i, mp_a, mp_ge]
      try simp only [a6]
      try simp only [a8]
      conv => whnf
      refine ⟨Nat.le_of_ble_eq_true rfl, Nat.le_of_ble_eq_true rfl, (by first | assumption | rfl), ?_⟩
      refine a_Sreadall hs7 hp wp (wm.thaw (by omega)) g2 ?_
      intro σ3 hf3 hr3 g3
      conv => whnf
      refine ⟨fun q9 => by first | (simp at q9; done) | omega, ?_⟩
      exact h1 (by omega) (by omega) _ ((hf1.xz.trans hf2.cz).trans hf3.cz) g3
    · simp only [sx_cc, Classical.not_not] at g
      conv => whnf
      refine ⟨fun q9 => by first | (simp at q9; done) | omega, ?_⟩
      exact h0 (by omega)
set_option maxRecDepth 20000 in
theorem r_below (e0 : σ0 = sx_up σ 124 2 0) (wp : wP P) (wm : wM P A c) (hc : c ≤ 1000000) (g0 : GR 0 P A σ0) (h0 : ¬ (0 ≤ x ∧ x ≤ 999) → Q (some (.inl (-1))) shM σ0) (h1 : 0 ≤ x → x ≤ 999 → ∀ σ', fr FZR σ0 σ' → GR 1 P (fThaw x A) σ' → Q (some (.inl (aRm (fThaw x A)))) shM σ') : sx_Run X 294 [.inr (.inr 124), .inl x] shM σ Q := by
  have hb1 : (1 : Int) = 0 ∨ (1 : Int) = 1 := Or.inr rfl
  refine sx_rule0 (own := 12) (cd := kX12_below) (nL := 2) (by decide +kernel) (by decide +kernel) kX12_below_ok (by decide +kernel) (Nat.le_of_ble_eq_true rfl) 40 ?_
  conv => whnf
  refine ⟨(by first | assumption | rfl), ?_⟩
  try simp (disch := omega) only [Int.cast_ofNat_Int, up_s, up_a, up_i, mp_a, mp_ge]
  try simp only [r67]
  rw [← e0]
  conv => whnf
  refine ⟨Nat.le_of_ble_eq_true rfl, Nat.le_of_ble_eq_true rfl, ?_⟩
  refine c_Rin (fun y1 y2 => ?_) (fun y0 => ?_)
  · skip
    conv => whnf
    refine ⟨fun g => ?_, fun g => ?_⟩
    · skip
      conv => whnf
      refine ⟨Nat.le_of_ble_eq_true rfl, Nat.le_of_ble_eq_true rfl, (by first | assumption | rfl), ?_⟩
      refine a_Rtried wm g0 ?_
      intro σ1 hf1 g1 t1
      conv => whnf
      refine ⟨Nat.le_of_ble_eq_true rfl, Nat.le_of_ble_eq_true rfl, (by first | assumption | rfl), ?_⟩
      refine a_Rthaws hb1 wm hc t1 ⟨by omega, by omega⟩ ?_
      intro σ2 hf2 g2
      conv => whnf
      refine ⟨Nat.le_of_ble_eq_true rfl, Nat.le_of_ble_eq_true rfl, (by first | assumption | rfl), ?_⟩
      refine a_Rmany hb1 wp (wm.thaw (by omega)) g2 ?_
      conv => whnf
      refine ⟨fun q9 => by first | (simp at q9; done) | omega, ?_⟩
      exact h1 (by omega) (by omega) _ (hf1.yz.trans (hf2.rz (g2.rs.la.trans t1.rs.la.symm))) g2
    · exact absurd g (by simp [sx_cc])
  · skip
    conv => whnf
    refine ⟨fun g => ?_, fun g => ?_⟩
    · exact absurd g (by simp [sx_cc])
    · skip
      conv => whnf
      refine ⟨fun q9 => by first | (simp at q9; done) | omega, ?_⟩
      exact h0 (by omega)
end SXL10
