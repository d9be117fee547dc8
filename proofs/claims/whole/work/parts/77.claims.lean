/-! CLAIMS (by wip/whole) -/
section SXM9
variable {X : sx_X} {Q : sx_R} {s t p b c kk K : Int} {σ σ0 σ' σ1 σ2 : sx_S} {P : aP} {A B : aM}
def aC : Type := (Int) × (Int) × (Int → Int) × (Int → Int) × (Int → Int) × (Int → Int) × (Int → Int)
def aC.n (A : aC) : Int := A.1
def aC.kn (A : aC) : Int := A.2.1
def aC.ce (A : aC) : Int → Int := A.2.2.1
def aC.wk (A : aC) : Int → Int := A.2.2.2.1
def aC.fm (A : aC) : Int → Int := A.2.2.2.2.1
def aC.t2 (A : aC) : Int → Int := A.2.2.2.2.2.1
def aC.tg (A : aC) : Int → Int := A.2.2.2.2.2.2
def aC.mk (n9 : Int) (kn9 : Int) (ce9 : Int → Int) (wk9 : Int → Int) (fm9 : Int → Int) (t29 : Int → Int) (tg9 : Int → Int) : aC := (n9, kn9, ce9, wk9, fm9, t29, tg9)
def cC (σ : sx_S) (C : aC) : Prop := (σ 110 0 = C.n) ∧ (σ 110 1 = C.kn) ∧ (∀ k : Int, 0 ≤ k → k < C.n → σ 115 k = C.tg k) ∧ (∀ k : Int, 0 ≤ k → k < C.n → C.tg k = -1 → σ 111 k = C.ce k) ∧ (∀ k : Int, 0 ≤ k → k < C.n → C.tg k = -1 → σ 112 k = C.wk k) ∧ (∀ k : Int, 0 ≤ k → k < C.n → C.tg k = -1 → σ 113 k = C.fm k) ∧ (∀ k : Int, 0 ≤ k → k < C.n → C.tg k = -1 → σ 114 k = C.t2 k)
theorem cC.n {σ : sx_S} {C : aC} (h : cC σ C) : σ 110 0 = C.n := h.1
theorem cC.kn {σ : sx_S} {C : aC} (h : cC σ C) : σ 110 1 = C.kn := h.2.1
theorem cC.tg {σ : sx_S} {C : aC} (h : cC σ C) : ∀ k : Int, 0 ≤ k → k < C.n → σ 115 k = C.tg k := h.2.2.1
theorem cC.ce {σ : sx_S} {C : aC} (h : cC σ C) : ∀ k : Int, 0 ≤ k → k < C.n → C.tg k = -1 → σ 111 k = C.ce k := h.2.2.2.1
theorem cC.wk {σ : sx_S} {C : aC} (h : cC σ C) : ∀ k : Int, 0 ≤ k → k < C.n → C.tg k = -1 → σ 112 k = C.wk k := h.2.2.2.2.1
theorem cC.fm {σ : sx_S} {C : aC} (h : cC σ C) : ∀ k : Int, 0 ≤ k → k < C.n → C.tg k = -1 → σ 113 k = C.fm k := h.2.2.2.2.2.1
theorem cC.t2 {σ : sx_S} {C : aC} (h : cC σ C) : ∀ k : Int, 0 ≤ k → k < C.n → C.tg k = -1 → σ 114 k = C.t2 k := h.2.2.2.2.2.2
theorem cC.mk {σ : sx_S} {C : aC} (n9 : σ 110 0 = C.n) (kn9 : σ 110 1 = C.kn) (tg9 : ∀ k : Int, 0 ≤ k → k < C.n → σ 115 k = C.tg k) (ce9 : ∀ k : Int, 0 ≤ k → k < C.n → C.tg k = -1 → σ 111 k = C.ce k) (wk9 : ∀ k : Int, 0 ≤ k → k < C.n → C.tg k = -1 → σ 112 k = C.wk k) (fm9 : ∀ k : Int, 0 ≤ k → k < C.n → C.tg k = -1 → σ 113 k = C.fm k) (t29 : ∀ k : Int, 0 ≤ k → k < C.n → C.tg k = -1 → σ 114 k = C.t2 k) : cC σ C := ⟨n9, kn9, tg9, ce9, wk9, fm9, t29⟩
def rC (σ : sx_S) (C : aC) : Prop := (σ 124 74 = C.n) ∧ (σ 124 75 = C.kn) ∧ (∀ k : Int, 0 ≤ k → k < C.n → C.tg k = -1 → σ 161 (4 * k) = C.ce k) ∧ (∀ k : Int, 0 ≤ k → k < C.n → C.tg k = -1 → σ 161 (4 * k + 1) = C.wk k) ∧ (∀ k : Int, 0 ≤ k → k < C.n → C.tg k = -1 → σ 161 (4 * k + 2) = C.fm k) ∧ (∀ k : Int, 0 ≤ k → k < C.n → C.tg k = -1 → σ 161 (4 * k + 3) = C.t2 k) ∧ (∀ k : Int, 0 ≤ k → k < C.n → ¬ C.tg k = -1 → σ 161 (4 * k + 1) = -1) ∧ (∀ k : Int, 0 ≤ k → k < C.n → ¬ C.tg k = -1 → σ 161 (4 * k + 2) = C.tg k)
theorem rC.n {σ : sx_S} {C : aC} (h : rC σ C) : σ 124 74 = C.n := h.1
theorem rC.kn {σ : sx_S} {C : aC} (h : rC σ C) : σ 124 75 = C.kn := h.2.1
theorem rC.ce {σ : sx_S} {C : aC} (h : rC σ C) : ∀ k : Int, 0 ≤ k → k < C.n → C.tg k = -1 → σ 161 (4 * k) = C.ce k := h.2.2.1
theorem rC.wk {σ : sx_S} {C : aC} (h : rC σ C) : ∀ k : Int, 0 ≤ k → k < C.n → C.tg k = -1 → σ 161 (4 * k + 1) = C.wk k := h.2.2.2.1
theorem rC.fm {σ : sx_S} {C : aC} (h : rC σ C) : ∀ k : Int, 0 ≤ k → k < C.n → C.tg k = -1 → σ 161 (4 * k + 2) = C.fm k := h.2.2.2.2.1
theorem rC.t2 {σ : sx_S} {C : aC} (h : rC σ C) : ∀ k : Int, 0 ≤ k → k < C.n → C.tg k = -1 → σ 161 (4 * k + 3) = C.t2 k := h.2.2.2.2.2.1
theorem rC.ng {σ : sx_S} {C : aC} (h : rC σ C) : ∀ k : Int, 0 ≤ k → k < C.n → ¬ C.tg k = -1 → σ 161 (4 * k + 1) = -1 := h.2.2.2.2.2.2.1
theorem rC.tg {σ : sx_S} {C : aC} (h : rC σ C) : ∀ k : Int, 0 ≤ k → k < C.n → ¬ C.tg k = -1 → σ 161 (4 * k + 2) = C.tg k := h.2.2.2.2.2.2.2
theorem rC.mk {σ : sx_S} {C : aC} (n9 : σ 124 74 = C.n) (kn9 : σ 124 75 = C.kn) (ce9 : ∀ k : Int, 0 ≤ k → k < C.n → C.tg k = -1 → σ 161 (4 * k) = C.ce k) (wk9 : ∀ k : Int, 0 ≤ k → k < C.n → C.tg k = -1 → σ 161 (4 * k + 1) = C.wk k) (fm9 : ∀ k : Int, 0 ≤ k → k < C.n → C.tg k = -1 → σ 161 (4 * k + 2) = C.fm k) (t29 : ∀ k : Int, 0 ≤ k → k < C.n → C.tg k = -1 → σ 161 (4 * k + 3) = C.t2 k) (ng9 : ∀ k : Int, 0 ≤ k → k < C.n → ¬ C.tg k = -1 → σ 161 (4 * k + 1) = -1) (tg9 : ∀ k : Int, 0 ≤ k → k < C.n → ¬ C.tg k = -1 → σ 161 (4 * k + 2) = C.tg k) : rC σ C := ⟨n9, kn9, ce9, wk9, fm9, t29, ng9, tg9⟩
def wC (P : aP) (C : aC) : Prop := (0 ≤ C.n ∧ C.n ≤ 24) ∧ (-1 ≤ C.kn ∧ C.kn ≤ C.n) ∧ (∀ k : Int, 0 ≤ k → k < C.n → C.tg k = -1 → 0 ≤ C.wk k ∧ C.wk k < P.wa) ∧ (∀ k : Int, 0 ≤ k → k < C.n → -1 ≤ C.tg k ∧ C.tg k < k)
theorem wC.n {P : aP} {C : aC} (h : wC P C) : 0 ≤ C.n ∧ C.n ≤ 24 := h.1
theorem wC.kn {P : aP} {C : aC} (h : wC P C) : -1 ≤ C.kn ∧ C.kn ≤ C.n := h.2.1
theorem wC.wk {P : aP} {C : aC} (h : wC P C) : ∀ k : Int, 0 ≤ k → k < C.n → C.tg k = -1 → 0 ≤ C.wk k ∧ C.wk k < P.wa := h.2.2.1
theorem wC.tg {P : aP} {C : aC} (h : wC P C) : ∀ k : Int, 0 ≤ k → k < C.n → -1 ≤ C.tg k ∧ C.tg k < k := h.2.2.2
theorem wC.mk {P : aP} {C : aC} (n9 : 0 ≤ C.n ∧ C.n ≤ 24) (kn9 : -1 ≤ C.kn ∧ C.kn ≤ C.n) (wk9 : ∀ k : Int, 0 ≤ k → k < C.n → C.tg k = -1 → 0 ≤ C.wk k ∧ C.wk k < P.wa) (tg9 : ∀ k : Int, 0 ≤ k → k < C.n → -1 ≤ C.tg k ∧ C.tg k < k) : wC P C := ⟨n9, kn9, wk9, tg9⟩
variable {C : aC}
theorem cC.of (h : cC σ C) (e : ∀ a i : Int, (a = 110 ∧ (i = 0 ∨ i = 1)) ∨ (111 ≤ a ∧ a ≤ 115) → σ' a i = σ a i) : cC σ' C := by
  have r : ∀ a : Int, (111 ≤ a ∧ a ≤ 115) → σ' a = σ a := fun a z => funext fun i => e a i (by omega)
  unfold cC
  rw [e 110 0 (by decide), e 110 1 (by decide), r 111 (by decide), r 112 (by decide), r 113 (by decide), r 114 (by decide), r 115 (by decide)]
  exact h
theorem rC.of (h : rC σ C) (e : ∀ a i : Int, a = 161 ∨ (a = 124 ∧ (i = 74 ∨ i = 75)) → σ' a i = σ a i) : rC σ' C := by
  have r : σ' 161 = σ 161 := funext fun i => e 161 i (by omega)
  unfold rC
  rw [e 124 74 (by decide), e 124 75 (by decide), r]
  exact h
def adC (C : aC) (ce wk fm t2 : Int) : aC := aC.mk (C.n + 1) C.kn (fU C.ce C.n ce) (fU C.wk C.n wk) (fU C.fm C.n fm) (fU C.t2 C.n t2) (fU C.tg C.n (-1))
def adS (C : aC) (k : Int) : aC := aC.mk (C.n + 1) C.kn C.ce C.wk C.fm C.t2 (fU C.tg C.n k)
theorem wC.adC (w : wC P C) (hn : C.n < 24) {ce wk fm t2 : Int} (hw : 0 ≤ wk ∧ wk < P.wa) : wC P (adC C ce wk fm t2) := by
  have w1 := w.n
  have w2 := w.kn
  refine wC.mk (show 0 ≤ C.n + 1 ∧ C.n + 1 ≤ 24 by omega) (show -1 ≤ C.kn ∧ C.kn ≤ C.n + 1 by omega) (fun k y0 y1 => ?_) (fun k y0 y1 => ?_)
  · have y2 : k < C.n + 1 := y1
    show fU C.tg C.n (-1) k = -1 → 0 ≤ fU C.wk C.n wk k ∧ fU C.wk C.n wk k < P.wa
    by_cases e : k = C.n
    · rw [e, fU_s, fU_s]; exact fun _ => hw
    · rw [fU_n e, fU_n e]; exact w.wk k y0 (by omega)
  · have y2 : k < C.n + 1 := y1
    show -1 ≤ fU C.tg C.n (-1) k ∧ fU C.tg C.n (-1) k < k
    by_cases e : k = C.n
    · rw [e, fU_s]; omega
    · rw [fU_n e]; exact w.tg k y0 (by omega)
theorem wC.adS (w : wC P C) (hn : C.n < 24) {q : Int} (hq : 0 ≤ q ∧ q < C.n) : wC P (adS C q) := by
  have w1 := w.n
  have w2 := w.kn
  refine wC.mk (show 0 ≤ C.n + 1 ∧ C.n + 1 ≤ 24 by omega) (show -1 ≤ C.kn ∧ C.kn ≤ C.n + 1 by omega) (fun k y0 y1 => ?_) (fun k y0 y1 => ?_)
  · have y2 : k < C.n + 1 := y1
    show fU C.tg C.n q k = -1 → 0 ≤ C.wk k ∧ C.wk k < P.wa
    by_cases e : k = C.n
    · rw [e, fU_s]; intro z; omega
    · rw [fU_n e]; exact w.wk k y0 (by omega)
  · have y2 : k < C.n + 1 := y1
    show -1 ≤ fU C.tg C.n q k ∧ fU C.tg C.n q k < k
    by_cases e : k = C.n
    · rw [e, fU_s]; omega
    · rw [fU_n e]; exact w.tg k y0 (by omega)
abbrev FCl (a i : Int) : Prop := (a = 110 ∧ (i = 0 ∨ i = 1)) ∨ (111 ≤ a ∧ a ≤ 116)
abbrev FClR (a i : Int) : Prop := a = 161 ∨ a = 162 ∨ (a = 124 ∧ (i = 74 ∨ i = 75))
theorem FCl_pts : ptL.all (fun q => decide (¬ FCl q.1 q.2.1)) = true := by decide +kernel
theorem fr.ptcl {σ σ' : sx_S} (h : fr FCl σ σ') (hT : PT σ) : PT σ' := hT.fr (fun q hq => h _ _ (of_decide_eq_true (List.all_eq_true.mp FCl_pts q hq)))
theorem FClR_pts : ptL.all (fun q => decide (¬ FClR q.1 q.2.1)) = true := by decide +kernel
theorem fr.ptclr {σ σ' : sx_S} (h : fr FClR σ σ') (hT : PT σ) : PT σ' := hT.fr (fun q hq => h _ _ (of_decide_eq_true (List.all_eq_true.mp FClR_pts q hq)))
theorem cC_adC (g : cC σ C) {ce wk fm t2 : Int} (e : sx_up (sx_up (sx_up (sx_up (sx_up (sx_up σ 111 C.n ce) 112 C.n wk) 113 C.n fm) 114 C.n t2) 115 C.n (-1)) 110 0 (C.n + 1) = σ') : cC σ' (adC C ce wk fm t2) := by
  refine cC.mk (by rw [← e, up_s]; rfl) (by rw [← e, up_i (by decide), up_a (by decide), up_a (by decide), up_a (by decide), up_a (by decide), up_a (by decide)]; exact g.kn) (fun k y0 y1 => ?_) (fun k y0 y1 => ?_) (fun k y0 y1 => ?_) (fun k y0 y1 => ?_) (fun k y0 y1 => ?_)
  · have y2 : k < C.n + 1 := y1
    show σ' 115 k = fU C.tg C.n (-1) k
    rw [← e, up_a (by decide)]
    by_cases e9 : k = C.n
    · rw [e9, up_s, fU_s]
    · rw [up_i e9, up_a (by decide), up_a (by decide), up_a (by decide), up_a (by decide), fU_n e9]; exact g.tg k y0 (by omega)
  · have y2 : k < C.n + 1 := y1
    show fU C.tg C.n (-1) k = -1 → σ' 111 k = fU C.ce C.n ce k
    rw [← e, up_a (by decide), up_a (by decide), up_a (by decide), up_a (by decide), up_a (by decide)]
    by_cases e9 : k = C.n
    · rw [e9, up_s, fU_s, fU_s]; exact fun _ => rfl
    · rw [up_i e9, fU_n e9, fU_n e9]; exact g.ce k y0 (by omega)
  · have y2 : k < C.n + 1 := y1
    show fU C.tg C.n (-1) k = -1 → σ' 112 k = fU C.wk C.n wk k
    rw [← e, up_a (by decide), up_a (by decide), up_a (by decide), up_a (by decide)]
    by_cases e9 : k = C.n
    · rw [e9, up_s, fU_s, fU_s]; exact fun _ => rfl
    · rw [up_i e9, up_a (by decide), fU_n e9, fU_n e9]; exact g.wk k y0 (by omega)
  · have y2 : k < C.n + 1 := y1
    show fU C.tg C.n (-1) k = -1 → σ' 113 k = fU C.fm C.n fm k
    rw [← e, up_a (by decide), up_a (by decide), up_a (by decide)]
    by_cases e9 : k = C.n
    · rw [e9, up_s, fU_s, fU_s]; exact fun _ => rfl
    · rw [up_i e9, up_a (by decide), up_a (by decide), fU_n e9, fU_n e9]; exact g.fm k y0 (by omega)
  · have y2 : k < C.n + 1 := y1
    show fU C.tg C.n (-1) k = -1 → σ' 114 k = fU C.t2 C.n t2 k
    rw [← e, up_a (by decide), up_a (by decide)]
    by_cases e9 : k = C.n
    · rw [e9, up_s, fU_s, fU_s]; exact fun _ => rfl
    · rw [up_i e9, up_a (by decide), up_a (by decide), up_a (by decide), fU_n e9, fU_n e9]; exact g.t2 k y0 (by omega)
theorem cC_adS (g : cC σ C) {q : Int} (hq : 0 ≤ q) (e : sx_up (sx_up σ 115 C.n q) 110 0 (C.n + 1) = σ') : cC σ' (adS C q) := by
  refine cC.mk (by rw [← e, up_s]; rfl) (by rw [← e, up_i (by decide), up_a (by decide)]; exact g.kn) (fun k y0 y1 => ?_) (fun k y0 y1 => ?_) (fun k y0 y1 => ?_) (fun k y0 y1 => ?_) (fun k y0 y1 => ?_)
  · have y2 : k < C.n + 1 := y1
    show σ' 115 k = fU C.tg C.n q k
    rw [← e, up_a (by decide)]
    by_cases e9 : k = C.n
    · rw [e9, up_s, fU_s]
    · rw [up_i e9, fU_n e9]; exact g.tg k y0 (by omega)
  · have y2 : k < C.n + 1 := y1
    show fU C.tg C.n q k = -1 → σ' 111 k = C.ce k
    rw [← e, up_a (by decide), up_a (by decide)]
    by_cases e9 : k = C.n
    · rw [e9, fU_s]; intro z; omega
    · rw [fU_n e9]; exact g.ce k y0 (by omega)
  · have y2 : k < C.n + 1 := y1
    show fU C.tg C.n q k = -1 → σ' 112 k = C.wk k
    rw [← e, up_a (by decide), up_a (by decide)]
    by_cases e9 : k = C.n
    · rw [e9, fU_s]; intro z; omega
    · rw [fU_n e9]; exact g.wk k y0 (by omega)
  · have y2 : k < C.n + 1 := y1
    show fU C.tg C.n q k = -1 → σ' 113 k = C.fm k
    rw [← e, up_a (by decide), up_a (by decide)]
    by_cases e9 : k = C.n
    · rw [e9, fU_s]; intro z; omega
    · rw [fU_n e9]; exact g.fm k y0 (by omega)
  · have y2 : k < C.n + 1 := y1
    show fU C.tg C.n q k = -1 → σ' 114 k = C.t2 k
    rw [← e, up_a (by decide), up_a (by decide)]
    by_cases e9 : k = C.n
    · rw [e9, fU_s]; intro z; omega
    · rw [fU_n e9]; exact g.t2 k y0 (by omega)
set_option maxRecDepth 20000 in
theorem c_Cadd (hT : PT σ) (w : wC P C) (g0 : cC σ C) {ce wk fm t2 : Int} (h0 : C.n = 24 → Q (some (.inl (-1))) shM σ) (h1 : C.n < 24 → ∀ σ', fr FCl σ σ' → cC σ' (adC C ce wk fm t2) → Q (some (.inl C.n)) shM σ') : sx_Run X 2 [.inr (.inr 110), .inl ce, .inl wk, .inl fm, .inl t2] shM σ Q := by
  have a2 := pt_110_2 hT
  have a3 := pt_110_3 hT
  have a4 := pt_110_4 hT
  have a5 := pt_110_5 hT
  have a6 := pt_110_6 hT
  have en := g0.n
  have wn := w.n
  refine sx_rule0 (own := 0) (cd := kX0_addClaim) (nL := 5) (by decide +kernel) (by decide +kernel) kX0_addClaim_ok (by decide +kernel) (Nat.le_of_ble_eq_true rfl) 40 ?_
  conv => whnf
  refine ⟨(by first | assumption | rfl), ?_⟩
  try simp (disch := omega) only [Int.cast_ofNat_Int, up_s, up_a, up_i, mp_a, mp_ge]
  try simp only [a2]
  try simp only [a3]
  try simp only [a4]
  try simp only [a5]
  try simp only [a6]
  try simp only [en]
  try simp only [ek]
  conv => whnf
  refine ⟨fun g => ?_, fun g => ?_⟩
  · simp only [sx_cc, Classical.not_not] at g
    conv => whnf
    refine ⟨(by first | assumption | rfl), ?_⟩
    try simp (disch := omega) only [Int.cast_ofNat_Int, up_s, up_a, up_i, mp_a, mp_ge]
    try simp only [a2]
    try simp only [a3]
    try simp only [a4]
    try simp only [a5]
    try simp only [a6]
    try simp only [en]
    try simp only [ek]
    conv => whnf
    refine ⟨(by first | assumption | rfl), ?_⟩
    try simp (disch := omega) only [Int.cast_ofNat_Int, up_s, up_a, up_i, mp_a, mp_ge]
    try simp only [a2]
    try simp only [a3]
    try simp only [a4]
    try simp only [a5]
    try simp only [a6]
    try simp only [en]
    try simp only [ek]
    conv => whnf
    refine ⟨sx_ixI (by first | assumption | rfl) (by omega) (by omega), ?_⟩
    conv => whnf
    refine ⟨(by first | assumption | rfl), ?_⟩
    try simp (disch := omega) only [Int.cast_ofNat_Int, up_s, up_a, up_i, mp_a, mp_ge]
    try simp only [a2]
    try simp only [a3]
    try simp only [a4]
    try simp only [a5]
    try simp only [a6]
    try simp only [en]
    try simp only [ek]
    conv => whnf
    refine ⟨(by first | assumption | rfl), ?_⟩
    try simp (disch := omega) only [Int.cast_ofNat_Int, up_s, up_a, up_i, mp_a, mp_ge]
    try simp only [a2]
    try simp only [a3]
    try simp only [a4]
    try simp only [a5]
    try simp only [a6]
    try simp only [en]
    try simp only [ek]
    conv => whnf
    refine ⟨sx_ixI (by first | assumption | rfl) (by omega) (by omega), ?_⟩
    conv => whnf
    refine ⟨(by first | assumption | rfl), ?_⟩
    try simp (disch := omega) only [Int.cast_ofNat_Int, up_s, up_a, up_i, mp_a, mp_ge]
    try simp only [a2]
    try simp only [a3]
    try simp only [a4]
    try simp only [a5]
    try simp only [a6]
    try simp only [en]
    try simp only [ek]
    conv => whnf
    refine ⟨(by first | assumption | rfl), ?_⟩
    try simp (disch := omega) only [Int.cast_ofNat_Int, up_s, up_a, up_i, mp_a, mp_ge]
    try simp only [a2]
    try simp only [a3]
    try simp only [a4]
    try simp only [a5]
    try simp only [a6]
    try simp only [en]
    try simp only [ek]
    conv => whnf
    refine ⟨sx_ixI (by first | assumption | rfl) (by omega) (by omega), ?_⟩
    conv => whnf
    refine ⟨(by first | assumption | rfl), ?_⟩
    try simp (disch := omega) only [Int.cast_ofNat_Int, up_s, up_a, up_i, mp_a, mp_ge]
    try simp only [a2]
    try simp only [a3]
    try simp only [a4]
    try simp only [a5]
    try simp only [a6]
    try simp only [en]
    try simp only [ek]
    conv => whnf
    refine ⟨(by first | assumption | rfl), ?_⟩
    try simp (disch := omega) only [Int.cast_ofNat_Int, up_s, up_a, up_i, mp_a, mp_ge]
    try simp only [a2]
    try simp only [a3]
    try simp only [a4]
    try simp only [a5]
    try simp only [a6]
    try simp only [en]
    try simp only [ek]
    conv => whnf
    refine ⟨sx_ixI (by first | assumption | rfl) (by omega) (by omega), ?_⟩
    conv => whnf
    refine ⟨(by first | assumption | rfl), ?_⟩
    try simp (disch := omega) only [Int.cast_ofNat_Int, up_s, up_a, up_i, mp_a, mp_ge]
    try simp only [a2]
    try simp only [a3]
    try simp only [a4]
    try simp only [a5]
    try simp only [a6]
    try simp only [en]
    try simp only [ek]
    conv => whnf
    refine ⟨(by first | assumption | rfl), ?_⟩
    try simp (disch := omega) only [Int.cast_ofNat_Int, up_s, up_a, up_i, mp_a, mp_ge]
    try simp only [a2]
    try simp only [a3]
    try simp only [a4]
    try simp only [a5]
    try simp only [a6]
    try simp only [en]
    try simp only [ek]
    conv => whnf
    refine ⟨sx_ixI (by first | assumption | rfl) (by omega) (by omega), ?_⟩
    conv => whnf
    refine ⟨(by first | assumption | rfl), ?_⟩
    try simp (disch := omega) only [Int.cast_ofNat_Int, up_s, up_a, up_i, mp_a, mp_ge]
    try simp only [a2]
    try simp only [a3]
    try simp only [a4]
    try simp only [a5]
    try simp only [a6]
    try simp only [en]
    try simp only [ek]
    conv => whnf
    refine ⟨⟨by omega, by omega⟩, ?_⟩
    conv => whnf
    refine ⟨(by first | assumption | rfl), ?_⟩
    try simp (disch := omega) only [Int.cast_ofNat_Int, up_s, up_a, up_i, mp_a, mp_ge]
    try simp only [a2]
    try simp only [a3]
    try simp only [a4]
    try simp only [a5]
    try simp only [a6]
    try simp only [en]
    try simp only [ek]
    conv => whnf
    refine ⟨(by first | assumption | rfl), ?_⟩
    try simp (disch := omega) only [Int.cast_ofNat_Int, up_s, up_a, up_i, mp_a, mp_ge]
    try simp only [a2]
    try simp only [a3]
    try simp only [a4]
    try simp only [a5]
    try simp only [a6]
    try simp only [en]
    try simp only [ek]
    conv => whnf
    refine ⟨⟨by omega, by omega⟩, ?_⟩
    conv => whnf
    refine ⟨fun q9 => by first | (simp at q9; done) | omega, ?_⟩
    rw [show C.n + 1 - 1 = C.n by omega]
    generalize e : sx_up _ 110 0 (C.n + 1) = σ8
    exact h1 (by omega) _ (fun a i z9 => by unfold FCl at z9; rw [← e, up_n (by omega), up_n (by omega), up_n (by omega), up_n (by omega), up_n (by omega), up_n (by omega)]) (cC_adC g0 e)
  · simp only [sx_cc, Classical.not_not] at g
    conv => whnf
    refine ⟨fun q9 => by first | (simp at q9; done) | omega, ?_⟩
    exact h0 (by omega)
set_option maxRecDepth 20000 in
theorem c_Cstr (hT : PT σ) (w : wC P C) (g0 : cC σ C) {q : Int} (hq : 0 ≤ q) (h0 : C.n = 24 → Q (some (.inl (-1))) shM σ) (h1 : C.n < 24 → ∀ σ', fr FCl σ σ' → cC σ' (adS C q) → Q (some (.inl C.n)) shM σ') : sx_Run X 3 [.inr (.inr 110), .inl q] shM σ Q := by
  have a6 := pt_110_6 hT
  have en := g0.n
  have wn := w.n
  refine sx_rule0 (own := 0) (cd := kX0_addStrike) (nL := 2) (by decide +kernel) (by decide +kernel) kX0_addStrike_ok (by decide +kernel) (Nat.le_of_ble_eq_true rfl) 40 ?_
  conv => whnf
  refine ⟨(by first | assumption | rfl), ?_⟩
  try simp (disch := omega) only [Int.cast_ofNat_Int, up_s, up_a, up_i, mp_a, mp_ge]
  try simp only [a2]
  try simp only [a3]
  try simp only [a4]
  try simp only [a5]
  try simp only [a6]
  try simp only [en]
  try simp only [ek]
  conv => whnf
  refine ⟨fun g => ?_, fun g => ?_⟩
  · simp only [sx_cc, Classical.not_not] at g
    conv => whnf
    refine ⟨(by first | assumption | rfl), ?_⟩
    try simp (disch := omega) only [Int.cast_ofNat_Int, up_s, up_a, up_i, mp_a, mp_ge]
    try simp only [a2]
    try simp only [a3]
    try simp only [a4]
    try simp only [a5]
    try simp only [a6]
    try simp only [en]
    try simp only [ek]
    conv => whnf
    refine ⟨(by first | assumption | rfl), ?_⟩
    try simp (disch := omega) only [Int.cast_ofNat_Int, up_s, up_a, up_i, mp_a, mp_ge]
    try simp only [a2]
    try simp only [a3]
    try simp only [a4]
    try simp only [a5]
    try simp only [a6]
    try simp only [en]
    try simp only [ek]
    conv => whnf
    refine ⟨sx_ixI (by first | assumption | rfl) (by omega) (by omega), ?_⟩
    conv => whnf
    refine ⟨(by first | assumption | rfl), ?_⟩
    try simp (disch := omega) only [Int.cast_ofNat_Int, up_s, up_a, up_i, mp_a, mp_ge]
    try simp only [a2]
    try simp only [a3]
    try simp only [a4]
    try simp only [a5]
    try simp only [a6]
    try simp only [en]
    try simp only [ek]
    conv => whnf
    refine ⟨⟨by omega, by omega⟩, ?_⟩
    conv => whnf
    refine ⟨(by first | assumption | rfl), ?_⟩
    try simp (disch := omega) only [Int.cast_ofNat_Int, up_s, up_a, up_i, mp_a, mp_ge]
    try simp only [a2]
    try simp only [a3]
    try simp only [a4]
    try simp only [a5]
    try simp only [a6]
    try simp only [en]
    try simp only [ek]
    conv => whnf
    refine ⟨(by first | assumption | rfl), ?_⟩
    try simp (disch := omega) only [Int.cast_ofNat_Int, up_s, up_a, up_i, mp_a, mp_ge]
    try simp only [a2]
    try simp only [a3]
    try simp only [a4]
    try simp only [a5]
    try simp only [a6]
    try simp only [en]
    try simp only [ek]
    conv => whnf
    refine ⟨⟨by omega, by omega⟩, ?_⟩
    conv => whnf
    refine ⟨fun q9 => by first | (simp at q9; done) | omega, ?_⟩
    rw [show C.n + 1 - 1 = C.n by omega]
    generalize e : sx_up _ 110 0 (C.n + 1) = σ8
    exact h1 (by omega) _ (fun a i z9 => by unfold FCl at z9; rw [← e, up_n (by omega), up_n (by omega)]) (cC_adS g0 hq e)
  · simp only [sx_cc, Classical.not_not] at g
    conv => whnf
    refine ⟨fun q9 => by first | (simp at q9; done) | omega, ?_⟩
    exact h0 (by omega)
set_option maxRecDepth 20000 in
theorem c_claim (hp : isP p) (e2 : σ 0 2 = p) (wp : wP P) (w : wC P C) (g : GC 40 p P A σ) (g0 : cC σ C) {ce wk fm t2 : Int} (h0 : ¬ (0 ≤ ce ∧ ce < P.w * P.h ∧ 0 ≤ wk ∧ wk < P.wa ∧ 0 ≤ fm ∧ fm ≤ t2 ∧ t2 ≤ 9999 ∧ C.n < 24) → Q (some (.inl (-1))) shM σ) (h1 : (0 ≤ ce ∧ ce < P.w * P.h ∧ 0 ≤ wk ∧ wk < P.wa ∧ 0 ≤ fm ∧ fm ≤ t2 ∧ t2 ≤ 9999 ∧ C.n < 24) → ∀ σ', fr FCl σ σ' → cC σ' (adC C ce wk fm t2) → Q (some (.inl C.n)) shM σ') : sx_Run X 143 [.inr (.inr 0), .inl ce, .inl wk, .inl fm, .inl t2] shM σ Q := by
  have a11 := pt_0_11 g.pt
  have q0 := lkP0 hp
  have gg := g
  refine sx_rule0 (own := 11) (cd := kX11_claim) (nL := 6) (by decide +kernel) (by decide +kernel) kX11_claim_ok (by decide +kernel) (Nat.le_of_ble_eq_true rfl) 40 ?_
  conv => whnf
  refine ⟨fun g7 => ?_, fun g7 => ?_⟩
  · simp only [sx_cc, Classical.not_not] at g7
    conv => whnf
    refine ⟨(by first | assumption | rfl), ?_⟩
    try simp (disch := omega) only [Int.cast_ofNat_Int, up_s, up_a, up_i, mp_a, mp_ge]
    try simp only [e2]
    try simp only [a11]
    try simp only [en]
    conv => whnf
    refine ⟨Nat.le_of_ble_eq_true rfl, Nat.le_of_ble_eq_true rfl, (by first | assumption | rfl), ?_⟩
    refine c_Phascell hp (gg.cp.pd wp) (fun y1 y2 => ?_) (fun y0 => ?_)
    · rw [gg.cp.w, gg.cp.h] at y2
      conv => whnf
      refine ⟨fun g7 => ?_, fun g7 => ?_⟩
      · exact absurd g7 (by simp [sx_cc])
      · skip
        conv => whnf
        refine ⟨(by first | assumption | rfl), ?_⟩
        try simp (disch := omega) only [Int.cast_ofNat_Int, up_s, up_a, up_i, mp_a, mp_ge]
        try simp only [e2]
        try simp only [a11]
        try simp only [en]
        conv => whnf
        refine ⟨Nat.le_of_ble_eq_true rfl, Nat.le_of_ble_eq_true rfl, (by first | assumption | rfl), ?_⟩
        refine c_Phaswalker hp (fun y3 y4 => ?_) (fun y0 => ?_)
        · rw [gg.cp.wa] at y4
          conv => whnf
          refine ⟨fun g7 => ?_, fun g7 => ?_⟩
          · exact absurd g7 (by simp [sx_cc])
          · skip
            conv => whnf
            refine ⟨fun g7 => ?_, fun g7 => ?_⟩
            · exact absurd g7 (by simp [sx_cc])
            · skip
              conv => whnf
              refine ⟨fun q9 => by first | (simp at q9; done) | omega, ?_⟩
              exact h0 (by omega)
        · rw [gg.cp.wa] at y0
          conv => whnf
          refine ⟨fun g7 => ?_, fun g7 => ?_⟩
          · skip
            conv => whnf
            refine ⟨fun q9 => by first | (simp at q9; done) | omega, ?_⟩
            exact h0 (by omega)
          · exact absurd g7 (by simp [sx_cc])
    · rw [gg.cp.w, gg.cp.h] at y0
      conv => whnf
      refine ⟨fun g7 => ?_, fun g7 => ?_⟩
      · skip
        conv => whnf
        refine ⟨fun q9 => by first | (simp at q9; done) | omega, ?_⟩
        exact h0 (by omega)
      · exact absurd g7 (by simp [sx_cc])
  · simp only [sx_cc, Classical.not_not] at g7
    conv => whnf
    refine ⟨fun g7 => ?_, fun g7 => ?_⟩
    · simp only [sx_cc, Classical.not_not] at g7
      conv => whnf
      refine ⟨(by first | assumption | rfl), ?_⟩
      try simp (disch := omega) only [Int.cast_ofNat_Int, up_s, up_a, up_i, mp_a, mp_ge]
      try simp only [e2]
      try simp only [a11]
      try simp only [en]
      conv => whnf
      refine ⟨Nat.le_of_ble_eq_true rfl, Nat.le_of_ble_eq_true rfl, (by first | assumption | rfl), ?_⟩
      refine c_Phascell hp (gg.cp.pd wp) (fun y1 y2 => ?_) (fun y0 => ?_)
      · rw [gg.cp.w, gg.cp.h] at y2
        conv => whnf
        refine ⟨fun g7 => ?_, fun g7 => ?_⟩
        · exact absurd g7 (by simp [sx_cc])
        · skip
          conv => whnf
          refine ⟨(by first | assumption | rfl), ?_⟩
          try simp (disch := omega) only [Int.cast_ofNat_Int, up_s, up_a, up_i, mp_a, mp_ge]
          try simp only [e2]
          try simp only [a11]
          try simp only [en]
          conv => whnf
          refine ⟨Nat.le_of_ble_eq_true rfl, Nat.le_of_ble_eq_true rfl, (by first | assumption | rfl), ?_⟩
          refine c_Phaswalker hp (fun y3 y4 => ?_) (fun y0 => ?_)
          · rw [gg.cp.wa] at y4
            conv => whnf
            refine ⟨fun g7 => ?_, fun g7 => ?_⟩
            · exact absurd g7 (by simp [sx_cc])
            · skip
              conv => whnf
              refine ⟨fun g7 => ?_, fun g7 => ?_⟩
              · exact absurd g7 (by simp [sx_cc])
              · skip
                conv => whnf
                refine ⟨fun q9 => by first | (simp at q9; done) | omega, ?_⟩
                exact h0 (by omega)
          · rw [gg.cp.wa] at y0
            conv => whnf
            refine ⟨fun g7 => ?_, fun g7 => ?_⟩
            · skip
              conv => whnf
              refine ⟨fun q9 => by first | (simp at q9; done) | omega, ?_⟩
              exact h0 (by omega)
            · exact absurd g7 (by simp [sx_cc])
      · rw [gg.cp.w, gg.cp.h] at y0
        conv => whnf
        refine ⟨fun g7 => ?_, fun g7 => ?_⟩
        · skip
          conv => whnf
          refine ⟨fun q9 => by first | (simp at q9; done) | omega, ?_⟩
          exact h0 (by omega)
        · exact absurd g7 (by simp [sx_cc])
    · simp only [sx_cc, Classical.not_not] at g7
      conv => whnf
      refine ⟨fun g7 => ?_, fun g7 => ?_⟩
      · simp only [sx_cc, Classical.not_not] at g7
        conv => whnf
        refine ⟨(by first | assumption | rfl), ?_⟩
        try simp (disch := omega) only [Int.cast_ofNat_Int, up_s, up_a, up_i, mp_a, mp_ge]
        try simp only [e2]
        try simp only [a11]
        try simp only [en]
        conv => whnf
        refine ⟨Nat.le_of_ble_eq_true rfl, Nat.le_of_ble_eq_true rfl, (by first | assumption | rfl), ?_⟩
        refine c_Phascell hp (gg.cp.pd wp) (fun y1 y2 => ?_) (fun y0 => ?_)
        · rw [gg.cp.w, gg.cp.h] at y2
          conv => whnf
          refine ⟨fun g7 => ?_, fun g7 => ?_⟩
          · exact absurd g7 (by simp [sx_cc])
          · skip
            conv => whnf
            refine ⟨(by first | assumption | rfl), ?_⟩
            try simp (disch := omega) only [Int.cast_ofNat_Int, up_s, up_a, up_i, mp_a, mp_ge]
            try simp only [e2]
            try simp only [a11]
            try simp only [en]
            conv => whnf
            refine ⟨Nat.le_of_ble_eq_true rfl, Nat.le_of_ble_eq_true rfl, (by first | assumption | rfl), ?_⟩
            refine c_Phaswalker hp (fun y3 y4 => ?_) (fun y0 => ?_)
            · rw [gg.cp.wa] at y4
              conv => whnf
              refine ⟨fun g7 => ?_, fun g7 => ?_⟩
              · exact absurd g7 (by simp [sx_cc])
              · skip
                conv => whnf
                refine ⟨fun g7 => ?_, fun g7 => ?_⟩
                · exact absurd g7 (by simp [sx_cc])
                · skip
                  conv => whnf
                  refine ⟨fun q9 => by first | (simp at q9; done) | omega, ?_⟩
                  exact h0 (by omega)
            · rw [gg.cp.wa] at y0
              conv => whnf
              refine ⟨fun g7 => ?_, fun g7 => ?_⟩
              · skip
                conv => whnf
                refine ⟨fun q9 => by first | (simp at q9; done) | omega, ?_⟩
                exact h0 (by omega)
              · exact absurd g7 (by simp [sx_cc])
        · rw [gg.cp.w, gg.cp.h] at y0
          conv => whnf
          refine ⟨fun g7 => ?_, fun g7 => ?_⟩
          · skip
            conv => whnf
            refine ⟨fun q9 => by first | (simp at q9; done) | omega, ?_⟩
            exact h0 (by omega)
          · exact absurd g7 (by simp [sx_cc])
      · simp only [sx_cc, Classical.not_not] at g7
        conv => whnf
        refine ⟨(by first | assumption | rfl), ?_⟩
        try simp (disch := omega) only [Int.cast_ofNat_Int, up_s, up_a, up_i, mp_a, mp_ge]
        try simp only [e2]
        try simp only [a11]
        try simp only [en]
        conv => whnf
        refine ⟨Nat.le_of_ble_eq_true rfl, Nat.le_of_ble_eq_true rfl, (by first | assumption | rfl), ?_⟩
        refine c_Phascell hp (gg.cp.pd wp) (fun y1 y2 => ?_) (fun y0 => ?_)
        · rw [gg.cp.w, gg.cp.h] at y2
          conv => whnf
          refine ⟨fun g7 => ?_, fun g7 => ?_⟩
          · exact absurd g7 (by simp [sx_cc])
          · skip
            conv => whnf
            refine ⟨(by first | assumption | rfl), ?_⟩
            try simp (disch := omega) only [Int.cast_ofNat_Int, up_s, up_a, up_i, mp_a, mp_ge]
            try simp only [e2]
            try simp only [a11]
            try simp only [en]
            conv => whnf
            refine ⟨Nat.le_of_ble_eq_true rfl, Nat.le_of_ble_eq_true rfl, (by first | assumption | rfl), ?_⟩
            refine c_Phaswalker hp (fun y3 y4 => ?_) (fun y0 => ?_)
            · rw [gg.cp.wa] at y4
              conv => whnf
              refine ⟨fun g7 => ?_, fun g7 => ?_⟩
              · exact absurd g7 (by simp [sx_cc])
              · skip
                conv => whnf
                refine ⟨fun g7 => ?_, fun g7 => ?_⟩
                · skip
                  conv => whnf
                  refine ⟨(by first | assumption | rfl), ?_⟩
                  try simp (disch := omega) only [Int.cast_ofNat_Int, up_s, up_a, up_i, mp_a, mp_ge]
                  try simp only [e2]
                  try simp only [a11]
                  try simp only [en]
                  conv => whnf
                  refine ⟨Nat.le_of_ble_eq_true rfl, Nat.le_of_ble_eq_true rfl, (by first | assumption | rfl), ?_⟩
                  refine c_Cadd gg.pt w g0 (fun z9 => ?_) (fun z9 σ3 hf3 g3 => ?_)
                  · skip
                    conv => whnf
                    refine ⟨fun q9 => by first | (simp at q9; done) | omega, ?_⟩
                    first | exact h0 (by omega) | exact h1 ⟨by omega, by omega, by omega, by omega, by omega, by omega, by omega, by omega⟩ _ hf3 g3
                  · skip
                    conv => whnf
                    refine ⟨fun q9 => by first | (simp at q9; done) | omega, ?_⟩
                    first | exact h0 (by omega) | exact h1 ⟨by omega, by omega, by omega, by omega, by omega, by omega, by omega, by omega⟩ _ hf3 g3
                · exact absurd g7 (by simp [sx_cc])
            · rw [gg.cp.wa] at y0
              conv => whnf
              refine ⟨fun g7 => ?_, fun g7 => ?_⟩
              · skip
                conv => whnf
                refine ⟨fun q9 => by first | (simp at q9; done) | omega, ?_⟩
                exact h0 (by omega)
              · exact absurd g7 (by simp [sx_cc])
        · rw [gg.cp.w, gg.cp.h] at y0
          conv => whnf
          refine ⟨fun g7 => ?_, fun g7 => ?_⟩
          · skip
            conv => whnf
            refine ⟨fun q9 => by first | (simp at q9; done) | omega, ?_⟩
            exact h0 (by omega)
          · exact absurd g7 (by simp [sx_cc])
set_option maxRecDepth 20000 in
theorem c_strike (hT : PT σ) (w : wC P C) (g0 : cC σ C) {q : Int} (h0 : ¬ (0 ≤ q ∧ q < C.n ∧ C.n < 24) → Q (some (.inl (-1))) shM σ) (h1 : (0 ≤ q ∧ q < C.n ∧ C.n < 24) → ∀ σ', fr FCl σ σ' → cC σ' (adS C q) → Q (some (.inl C.n)) shM σ') : sx_Run X 144 [.inr (.inr 0), .inl q] shM σ Q := by
  have a11 := pt_0_11 hT
  have en := g0.n
  refine sx_rule0 (own := 11) (cd := kX11_strike) (nL := 2) (by decide +kernel) (by decide +kernel) kX11_strike_ok (by decide +kernel) (Nat.le_of_ble_eq_true rfl) 40 ?_
  conv => whnf
  refine ⟨fun g => ?_, fun g => ?_⟩
  · simp only [sx_cc, Classical.not_not] at g
    conv => whnf
    refine ⟨fun q9 => by first | (simp at q9; done) | omega, ?_⟩
    exact h0 (by omega)
  · simp only [sx_cc, Classical.not_not] at g
    conv => whnf
    refine ⟨(by first | assumption | rfl), ?_⟩
    try simp (disch := omega) only [Int.cast_ofNat_Int, up_s, up_a, up_i, mp_a, mp_ge]
    try simp only [e2]
    try simp only [a11]
    try simp only [en]
    conv => whnf
    refine ⟨(by first | assumption | rfl), ?_⟩
    try simp (disch := omega) only [Int.cast_ofNat_Int, up_s, up_a, up_i, mp_a, mp_ge]
    try simp only [e2]
    try simp only [a11]
    try simp only [en]
    conv => whnf
    refine ⟨fun g => ?_, fun g => ?_⟩
    · simp only [sx_cc, Classical.not_not] at g
      conv => whnf
      refine ⟨(by first | assumption | rfl), ?_⟩
      try simp (disch := omega) only [Int.cast_ofNat_Int, up_s, up_a, up_i, mp_a, mp_ge]
      try simp only [e2]
      try simp only [a11]
      try simp only [en]
      conv => whnf
      refine ⟨Nat.le_of_ble_eq_true rfl, Nat.le_of_ble_eq_true rfl, (by first | assumption | rfl), ?_⟩
      refine c_Cstr hT w g0 (by omega) (fun z9 => ?_) (fun z9 σ3 hf3 g3 => ?_)
      · skip
        conv => whnf
        refine ⟨fun q9 => by first | (simp at q9; done) | omega, ?_⟩
        first | exact h0 (by omega) | exact h1 ⟨by omega, by omega, by omega⟩ _ hf3 g3
      · skip
        conv => whnf
        refine ⟨fun q9 => by first | (simp at q9; done) | omega, ?_⟩
        first | exact h0 (by omega) | exact h1 ⟨by omega, by omega, by omega⟩ _ hf3 g3
    · simp only [sx_cc, Classical.not_not] at g
      conv => whnf
      refine ⟨fun q9 => by first | (simp at q9; done) | omega, ?_⟩
      exact h0 (by omega)
def knC (C : aC) (q : Int) : aC := aC.mk C.n q C.ce C.wk C.fm C.t2 C.tg
theorem wC.knC (w : wC P C) {q : Int} (hq : -1 ≤ q ∧ q ≤ C.n) : wC P (knC C q) := wC.mk w.n hq w.wk w.tg
set_option maxRecDepth 20000 in
theorem c_known (hT : PT σ) (g0 : cC σ C) {q : Int} (h0 : ¬ (-1 ≤ q ∧ q ≤ C.n) → Q (some (.inl 0)) shM σ) (h1 : (-1 ≤ q ∧ q ≤ C.n) → ∀ σ', fr FCl σ σ' → cC σ' (knC C q) → Q (some (.inl 1)) shM σ') : sx_Run X 145 [.inr (.inr 0), .inl q] shM σ Q := by
  have a11 := pt_0_11 hT
  have en := g0.n
  refine sx_rule0 (own := 11) (cd := kX11_known) (nL := 2) (by decide +kernel) (by decide +kernel) kX11_known_ok (by decide +kernel) (Nat.le_of_ble_eq_true rfl) 40 ?_
  conv => whnf
  refine ⟨fun g => ?_, fun g => ?_⟩
  · simp only [sx_cc, Classical.not_not] at g
    conv => whnf
    refine ⟨fun q9 => by first | (simp at q9; done) | omega, ?_⟩
    exact h0 (by omega)
  · simp only [sx_cc, Classical.not_not] at g
    conv => whnf
    refine ⟨(by first | assumption | rfl), ?_⟩
    try simp (disch := omega) only [Int.cast_ofNat_Int, up_s, up_a, up_i, mp_a, mp_ge]
    try simp only [e2]
    try simp only [a11]
    try simp only [en]
    conv => whnf
    refine ⟨(by first | assumption | rfl), ?_⟩
    try simp (disch := omega) only [Int.cast_ofNat_Int, up_s, up_a, up_i, mp_a, mp_ge]
    try simp only [e2]
    try simp only [a11]
    try simp only [en]
    conv => whnf
    refine ⟨fun g => ?_, fun g => ?_⟩
    · simp only [sx_cc, Classical.not_not] at g
      conv => whnf
      refine ⟨(by first | assumption | rfl), ?_⟩
      try simp (disch := omega) only [Int.cast_ofNat_Int, up_s, up_a, up_i, mp_a, mp_ge]
      try simp only [e2]
      try simp only [a11]
      try simp only [en]
      conv => whnf
      refine ⟨(by first | assumption | rfl), ?_⟩
      try simp (disch := omega) only [Int.cast_ofNat_Int, up_s, up_a, up_i, mp_a, mp_ge]
      try simp only [e2]
      try simp only [a11]
      try simp only [en]
      conv => whnf
      refine ⟨fun q9 => by first | (simp at q9; done) | omega, ?_⟩
      generalize e : sx_up σ 110 1 q = σ8
      exact h1 ⟨by omega, by omega⟩ _ (fun a i z9 => by unfold FCl at z9; rw [← e, up_n (by omega)]) (cC.mk (by rw [← e, up_i (by decide)]; exact g0.n) (by rw [← e, up_s]; rfl) (fun k y0 y1 => by rw [← e, up_a (by decide)]; exact g0.tg k y0 y1) (fun k y0 y1 => by rw [← e, up_a (by decide)]; exact g0.ce k y0 y1) (fun k y0 y1 => by rw [← e, up_a (by decide)]; exact g0.wk k y0 y1) (fun k y0 y1 => by rw [← e, up_a (by decide)]; exact g0.fm k y0 y1) (fun k y0 y1 => by rw [← e, up_a (by decide)]; exact g0.t2 k y0 y1))
    · simp only [sx_cc, Classical.not_not] at g
      conv => whnf
      refine ⟨fun q9 => by first | (simp at q9; done) | omega, ?_⟩
      exact h0 (by omega)
theorem rC_ad (g : rC σ C) {ce wk fm t2 : Int} (e : sx_up (sx_up (sx_up (sx_up (sx_up σ 161 (4 * C.n) ce) 161 (4 * C.n + 1) wk) 161 (4 * C.n + 2) fm) 161 (4 * C.n + 3) t2) 124 74 (C.n + 1) = σ') : (∀ i : Int, 0 ≤ i → i < 4 * C.n → σ' 161 i = σ 161 i) ∧ σ' 161 (4 * C.n) = ce ∧ σ' 161 (4 * C.n + 1) = wk ∧ σ' 161 (4 * C.n + 2) = fm ∧ σ' 161 (4 * C.n + 3) = t2 ∧ σ' 124 74 = C.n + 1 ∧ σ' 124 75 = C.kn := by
  refine ⟨fun i y0 y1 => ?_, ?_, ?_, ?_, ?_, ?_, ?_⟩
  · rw [← e, up_a (by decide), up_i (by omega), up_i (by omega), up_i (by omega), up_i (by omega)]
  · rw [← e, up_a (by decide), up_i (by omega), up_i (by omega), up_i (by omega), up_s]
  · rw [← e, up_a (by decide), up_i (by omega), up_i (by omega), up_s]
  · rw [← e, up_a (by decide), up_i (by omega), up_s]
  · rw [← e, up_a (by decide), up_s]
  · rw [← e, up_s]
  · rw [← e, up_i (by decide), up_a (by decide), up_a (by decide), up_a (by decide), up_a (by decide)]; exact g.kn
theorem rC_adC (g : rC σ C) {ce wk fm t2 : Int} (e : sx_up (sx_up (sx_up (sx_up (sx_up σ 161 (4 * C.n) ce) 161 (4 * C.n + 1) wk) 161 (4 * C.n + 2) fm) 161 (4 * C.n + 3) t2) 124 74 (C.n + 1) = σ') : rC σ' (adC C ce wk fm t2) := by
  obtain ⟨h1, h2, h3, h4, h5, h6, h7⟩ := rC_ad g e
  refine rC.mk h6 h7 (fun k y0 y1 => ?_) (fun k y0 y1 => ?_) (fun k y0 y1 => ?_) (fun k y0 y1 => ?_) (fun k y0 y1 => ?_) (fun k y0 y1 => ?_)
  · have y2 : k < C.n + 1 := y1
    show fU C.tg C.n (-1) k = -1 → σ' 161 (4 * k) = fU C.ce C.n ce k
    by_cases e9 : k = C.n
    · rw [e9, fU_s, fU_s]; exact fun _ => h2
    · rw [fU_n e9, fU_n e9, h1 _ (by omega) (by omega)]; exact g.ce k y0 (by omega)
  · have y2 : k < C.n + 1 := y1
    show fU C.tg C.n (-1) k = -1 → σ' 161 (4 * k + 1) = fU C.wk C.n wk k
    by_cases e9 : k = C.n
    · rw [e9, fU_s, fU_s]; exact fun _ => h3
    · rw [fU_n e9, fU_n e9, h1 _ (by omega) (by omega)]; exact g.wk k y0 (by omega)
  · have y2 : k < C.n + 1 := y1
    show fU C.tg C.n (-1) k = -1 → σ' 161 (4 * k + 2) = fU C.fm C.n fm k
    by_cases e9 : k = C.n
    · rw [e9, fU_s, fU_s]; exact fun _ => h4
    · rw [fU_n e9, fU_n e9, h1 _ (by omega) (by omega)]; exact g.fm k y0 (by omega)
  · have y2 : k < C.n + 1 := y1
    show fU C.tg C.n (-1) k = -1 → σ' 161 (4 * k + 3) = fU C.t2 C.n t2 k
    by_cases e9 : k = C.n
    · rw [e9, fU_s, fU_s]; exact fun _ => h5
    · rw [fU_n e9, fU_n e9, h1 _ (by omega) (by omega)]; exact g.t2 k y0 (by omega)
  · have y2 : k < C.n + 1 := y1
    show ¬ fU C.tg C.n (-1) k = -1 → σ' 161 (4 * k + 1) = -1
    by_cases e9 : k = C.n
    · rw [e9, fU_s]; exact fun z => absurd rfl z
    · rw [fU_n e9, h1 _ (by omega) (by omega)]; exact g.ng k y0 (by omega)
  · have y2 : k < C.n + 1 := y1
    show ¬ fU C.tg C.n (-1) k = -1 → σ' 161 (4 * k + 2) = fU C.tg C.n (-1) k
    by_cases e9 : k = C.n
    · rw [e9, fU_s]; exact fun z => absurd rfl z
    · rw [fU_n e9, h1 _ (by omega) (by omega)]; exact g.tg k y0 (by omega)
theorem rC_adS (g : rC σ C) {q : Int} (hq : 0 ≤ q) (e : sx_up (sx_up (sx_up (sx_up (sx_up σ 161 (4 * C.n) 0) 161 (4 * C.n + 1) (-1)) 161 (4 * C.n + 2) q) 161 (4 * C.n + 3) 0) 124 74 (C.n + 1) = σ') : rC σ' (adS C q) := by
  obtain ⟨h1, h2, h3, h4, h5, h6, h7⟩ := rC_ad g e
  refine rC.mk h6 h7 (fun k y0 y1 => ?_) (fun k y0 y1 => ?_) (fun k y0 y1 => ?_) (fun k y0 y1 => ?_) (fun k y0 y1 => ?_) (fun k y0 y1 => ?_)
  · have y2 : k < C.n + 1 := y1
    show fU C.tg C.n q k = -1 → σ' 161 (4 * k) = C.ce k
    by_cases e9 : k = C.n
    · rw [e9, fU_s]; intro z; omega
    · rw [fU_n e9, h1 _ (by omega) (by omega)]; exact g.ce k y0 (by omega)
  · have y2 : k < C.n + 1 := y1
    show fU C.tg C.n q k = -1 → σ' 161 (4 * k + 1) = C.wk k
    by_cases e9 : k = C.n
    · rw [e9, fU_s]; intro z; omega
    · rw [fU_n e9, h1 _ (by omega) (by omega)]; exact g.wk k y0 (by omega)
  · have y2 : k < C.n + 1 := y1
    show fU C.tg C.n q k = -1 → σ' 161 (4 * k + 2) = C.fm k
    by_cases e9 : k = C.n
    · rw [e9, fU_s]; intro z; omega
    · rw [fU_n e9, h1 _ (by omega) (by omega)]; exact g.fm k y0 (by omega)
  · have y2 : k < C.n + 1 := y1
    show fU C.tg C.n q k = -1 → σ' 161 (4 * k + 3) = C.t2 k
    by_cases e9 : k = C.n
    · rw [e9, fU_s]; intro z; omega
    · rw [fU_n e9, h1 _ (by omega) (by omega)]; exact g.t2 k y0 (by omega)
  · have y2 : k < C.n + 1 := y1
    show ¬ fU C.tg C.n q k = -1 → σ' 161 (4 * k + 1) = -1
    by_cases e9 : k = C.n
    · rw [e9, fU_s]; exact fun _ => h3
    · rw [fU_n e9, h1 _ (by omega) (by omega)]; exact g.ng k y0 (by omega)
  · have y2 : k < C.n + 1 := y1
    show ¬ fU C.tg C.n q k = -1 → σ' 161 (4 * k + 2) = fU C.tg C.n q k
    by_cases e9 : k = C.n
    · rw [e9, fU_s]; exact fun _ => h4
    · rw [fU_n e9, h1 _ (by omega) (by omega)]; exact g.tg k y0 (by omega)
set_option maxRecDepth 20000 in
theorem c_Rclaimed (hT : PT σ) (w : wC P C) (g0 : rC σ C) (hn : C.n < 24) {ce wk fm t2 : Int} (h1 : ∀ σ', sx_up (sx_up (sx_up (sx_up (sx_up σ 161 (4 * C.n) ce) 161 (4 * C.n + 1) wk) 161 (4 * C.n + 2) fm) 161 (4 * C.n + 3) t2) 124 74 (C.n + 1) = σ' → fr FClR σ σ' → Q (some (.inl C.n)) shM σ') : sx_Run X 256 [.inr (.inr 124), .inl ce, .inl wk, .inl fm, .inl t2] shM σ Q := by
  have r76 := pt_124_76 hT
  have en := g0.n
  have wn := w.n
  refine sx_rule0 (own := 12) (cd := kX12_claimed) (nL := 5) (by decide +kernel) (by decide +kernel) kX12_claimed_ok (by decide +kernel) (Nat.le_of_ble_eq_true rfl) 40 ?_
  conv => whnf
  refine ⟨(by first | assumption | rfl), ?_⟩
  try simp (disch := omega) only [Int.cast_ofNat_Int, up_s, up_a, up_i, mp_a, mp_ge]
  try simp only [r76]
  try simp only [en]
  conv => whnf
  refine ⟨(by first | assumption | rfl), ?_⟩
  try simp (disch := omega) only [Int.cast_ofNat_Int, up_s, up_a, up_i, mp_a, mp_ge]
  try simp only [r76]
  try simp only [en]
  conv => whnf
  refine ⟨⟨by omega, by omega⟩, ?_⟩
  conv => whnf
  refine ⟨sx_ixI (by first | assumption | rfl) (by omega) (by omega), ?_⟩
  conv => whnf
  refine ⟨(by first | assumption | rfl), ?_⟩
  try simp (disch := omega) only [Int.cast_ofNat_Int, up_s, up_a, up_i, mp_a, mp_ge]
  try simp only [r76]
  try simp only [en]
  conv => whnf
  refine ⟨(by first | assumption | rfl), ?_⟩
  try simp (disch := omega) only [Int.cast_ofNat_Int, up_s, up_a, up_i, mp_a, mp_ge]
  try simp only [r76]
  try simp only [en]
  conv => whnf
  refine ⟨⟨by omega, by omega⟩, ?_⟩
  conv => whnf
  refine ⟨⟨by omega, by omega⟩, ?_⟩
  conv => whnf
  refine ⟨sx_ixI (by first | assumption | rfl) (by omega) (by omega), ?_⟩
  conv => whnf
  refine ⟨(by first | assumption | rfl), ?_⟩
  try simp (disch := omega) only [Int.cast_ofNat_Int, up_s, up_a, up_i, mp_a, mp_ge]
  try simp only [r76]
  try simp only [en]
  conv => whnf
  refine ⟨(by first | assumption | rfl), ?_⟩
  try simp (disch := omega) only [Int.cast_ofNat_Int, up_s, up_a, up_i, mp_a, mp_ge]
  try simp only [r76]
  try simp only [en]
  conv => whnf
  refine ⟨⟨by omega, by omega⟩, ?_⟩
  conv => whnf
  refine ⟨⟨by omega, by omega⟩, ?_⟩
  conv => whnf
  refine ⟨sx_ixI (by first | assumption | rfl) (by omega) (by omega), ?_⟩
  conv => whnf
  refine ⟨(by first | assumption | rfl), ?_⟩
  try simp (disch := omega) only [Int.cast_ofNat_Int, up_s, up_a, up_i, mp_a, mp_ge]
  try simp only [r76]
  try simp only [en]
  conv => whnf
  refine ⟨(by first | assumption | rfl), ?_⟩
  try simp (disch := omega) only [Int.cast_ofNat_Int, up_s, up_a, up_i, mp_a, mp_ge]
  try simp only [r76]
  try simp only [en]
  conv => whnf
  refine ⟨⟨by omega, by omega⟩, ?_⟩
  conv => whnf
  refine ⟨⟨by omega, by omega⟩, ?_⟩
  conv => whnf
  refine ⟨sx_ixI (by first | assumption | rfl) (by omega) (by omega), ?_⟩
  conv => whnf
  refine ⟨(by first | assumption | rfl), ?_⟩
  try simp (disch := omega) only [Int.cast_ofNat_Int, up_s, up_a, up_i, mp_a, mp_ge]
  try simp only [r76]
  try simp only [en]
  conv => whnf
  refine ⟨⟨by omega, by omega⟩, ?_⟩
  conv => whnf
  refine ⟨(by first | assumption | rfl), ?_⟩
  try simp (disch := omega) only [Int.cast_ofNat_Int, up_s, up_a, up_i, mp_a, mp_ge]
  try simp only [r76]
  try simp only [en]
  conv => whnf
  refine ⟨(by first | assumption | rfl), ?_⟩
  try simp (disch := omega) only [Int.cast_ofNat_Int, up_s, up_a, up_i, mp_a, mp_ge]
  try simp only [r76]
  try simp only [en]
  conv => whnf
  refine ⟨⟨by omega, by omega⟩, ?_⟩
  conv => whnf
  refine ⟨fun q9 => by first | (simp at q9; done) | omega, ?_⟩
  rw [show C.n + 1 - 1 = C.n by omega]
  generalize e : sx_up _ 124 74 (C.n + 1) = σ8
  exact h1 σ8 e (fun a i z9 => by unfold FClR at z9; rw [← e, up_n (by omega), up_n (by omega), up_n (by omega), up_n (by omega), up_n (by omega)])
set_option maxRecDepth 20000 in
theorem r_claim (e0 : σ0 = sx_up σ 124 2 0) (wp : wP P) (w : wC P C) (gg : GR 0 P A σ0) (g0 : rC σ0 C) {ce wk fm t2 : Int} (h0 : ¬ (0 ≤ ce ∧ ce < P.w * P.h ∧ 0 ≤ wk ∧ wk < P.wa ∧ 0 ≤ fm ∧ fm ≤ t2 ∧ t2 ≤ 9999 ∧ C.n < 24) → Q (some (.inl (-1))) shM σ0) (h1 : (0 ≤ ce ∧ ce < P.w * P.h ∧ 0 ≤ wk ∧ wk < P.wa ∧ 0 ≤ fm ∧ fm ≤ t2 ∧ t2 ≤ 9999 ∧ C.n < 24) → ∀ σ', fr FClR σ0 σ' → rC σ' (adC C ce wk fm t2) → Q (some (.inl C.n)) shM σ') : sx_Run X 257 [.inr (.inr 124), .inl ce, .inl wk, .inl fm, .inl t2] shM σ Q := by
  have en := g0.n
  have wn := w.n
  refine sx_rule0 (own := 12) (cd := kX12_claim) (nL := 5) (by decide +kernel) (by decide +kernel) kX12_claim_ok (by decide +kernel) (Nat.le_of_ble_eq_true rfl) 40 ?_
  conv => whnf
  refine ⟨(by first | assumption | rfl), ?_⟩
  try simp (disch := omega) only [Int.cast_ofNat_Int, up_s, up_a, up_i, mp_a, mp_ge]
  try simp only [r76]
  try simp only [en]
  rw [← e0]
  conv => whnf
  refine ⟨(by first | assumption | rfl), ?_⟩
  try simp (disch := omega) only [Int.cast_ofNat_Int, up_s, up_a, up_i, mp_a, mp_ge]
  try simp only [r76]
  try simp only [en]
  conv => whnf
  refine ⟨fun g => ?_, fun g => ?_⟩
  · simp only [sx_cc, Classical.not_not] at g
    conv => whnf
    refine ⟨fun q9 => by first | (simp at q9; done) | omega, ?_⟩
    first | exact h0 (by omega) | exact h1 ⟨by omega, by omega, by omega, by omega, by omega, by omega, by omega, by omega⟩ _ hf3 (rC_adC g0 e3)
  · simp only [sx_cc, Classical.not_not] at g
    conv => whnf
    refine ⟨Nat.le_of_ble_eq_true rfl, Nat.le_of_ble_eq_true rfl, (by first | assumption | rfl), ?_⟩
    refine c_Riscell (gg.rp.rd wp) (fun y1 y2 => ?_) (fun y0 => ?_)
    · rw [gg.rp.w, gg.rp.h] at y2
      conv => whnf
      refine ⟨fun g => ?_, fun g => ?_⟩
      · exact absurd g (by simp [sx_cc])
      · skip
        conv => whnf
        refine ⟨Nat.le_of_ble_eq_true rfl, Nat.le_of_ble_eq_true rfl, (by first | assumption | rfl), ?_⟩
        refine c_Riswalker (fun y3 y4 => ?_) (fun y0 => ?_)
        · rw [gg.rp.wa] at y4
          conv => whnf
          refine ⟨fun g => ?_, fun g => ?_⟩
          · exact absurd g (by simp [sx_cc])
          · skip
            conv => whnf
            refine ⟨Nat.le_of_ble_eq_true rfl, Nat.le_of_ble_eq_true rfl, ?_⟩
            refine c_Rin (fun y5 y6 => ?_) (fun y0 => ?_)
            · skip
              conv => whnf
              refine ⟨fun g => ?_, fun g => ?_⟩
              · exact absurd g (by simp [sx_cc])
              · skip
                conv => whnf
                refine ⟨Nat.le_of_ble_eq_true rfl, Nat.le_of_ble_eq_true rfl, ?_⟩
                refine c_Rin (fun y7 y8 => ?_) (fun y0 => ?_)
                · skip
                  conv => whnf
                  refine ⟨fun g => ?_, fun g => ?_⟩
                  · skip
                    conv => whnf
                    refine ⟨Nat.le_of_ble_eq_true rfl, Nat.le_of_ble_eq_true rfl, (by first | assumption | rfl), ?_⟩
                    refine c_Rclaimed gg.pt w g0 (by omega) ?_
                    intro σ3 e3 hf3
                    conv => whnf
                    refine ⟨fun q9 => by first | (simp at q9; done) | omega, ?_⟩
                    first | exact h0 (by omega) | exact h1 ⟨by omega, by omega, by omega, by omega, by omega, by omega, by omega, by omega⟩ _ hf3 (rC_adC g0 e3)
                  · exact absurd g (by simp [sx_cc])
                · skip
                  conv => whnf
                  refine ⟨fun g => ?_, fun g => ?_⟩
                  · exact absurd g (by simp [sx_cc])
                  · skip
                    conv => whnf
                    refine ⟨fun q9 => by first | (simp at q9; done) | omega, ?_⟩
                    first | exact h0 (by omega) | exact h1 ⟨by omega, by omega, by omega, by omega, by omega, by omega, by omega, by omega⟩ _ hf3 (rC_adC g0 e3)
            · skip
              conv => whnf
              refine ⟨fun g => ?_, fun g => ?_⟩
              · skip
                conv => whnf
                refine ⟨fun q9 => by first | (simp at q9; done) | omega, ?_⟩
                first | exact h0 (by omega) | exact h1 ⟨by omega, by omega, by omega, by omega, by omega, by omega, by omega, by omega⟩ _ hf3 (rC_adC g0 e3)
              · exact absurd g (by simp [sx_cc])
        · rw [gg.rp.wa] at y0
          conv => whnf
          refine ⟨fun g => ?_, fun g => ?_⟩
          · skip
            conv => whnf
            refine ⟨fun q9 => by first | (simp at q9; done) | omega, ?_⟩
            first | exact h0 (by omega) | exact h1 ⟨by omega, by omega, by omega, by omega, by omega, by omega, by omega, by omega⟩ _ hf3 (rC_adC g0 e3)
          · exact absurd g (by simp [sx_cc])
    · rw [gg.rp.w, gg.rp.h] at y0
      conv => whnf
      refine ⟨fun g => ?_, fun g => ?_⟩
      · skip
        conv => whnf
        refine ⟨fun q9 => by first | (simp at q9; done) | omega, ?_⟩
        first | exact h0 (by omega) | exact h1 ⟨by omega, by omega, by omega, by omega, by omega, by omega, by omega, by omega⟩ _ hf3 (rC_adC g0 e3)
      · exact absurd g (by simp [sx_cc])
set_option maxRecDepth 20000 in
theorem r_strike (e0 : σ0 = sx_up σ 124 2 0) (hT : PT σ0) (w : wC P C) (g0 : rC σ0 C) {q : Int} (h0 : ¬ (0 ≤ q ∧ q < C.n ∧ C.n < 24) → Q (some (.inl (-1))) shM σ0) (h1 : (0 ≤ q ∧ q < C.n ∧ C.n < 24) → ∀ σ', fr FClR σ0 σ' → rC σ' (adS C q) → Q (some (.inl C.n)) shM σ') : sx_Run X 258 [.inr (.inr 124), .inl q] shM σ Q := by
  have en := g0.n
  have wn := w.n
  refine sx_rule0 (own := 12) (cd := kX12_strike) (nL := 2) (by decide +kernel) (by decide +kernel) kX12_strike_ok (by decide +kernel) (Nat.le_of_ble_eq_true rfl) 40 ?_
  conv => whnf
  refine ⟨(by first | assumption | rfl), ?_⟩
  try simp (disch := omega) only [Int.cast_ofNat_Int, up_s, up_a, up_i, mp_a, mp_ge]
  try simp only [r76]
  try simp only [en]
  rw [← e0]
  conv => whnf
  refine ⟨(by first | assumption | rfl), ?_⟩
  try simp (disch := omega) only [Int.cast_ofNat_Int, up_s, up_a, up_i, mp_a, mp_ge]
  try simp only [r76]
  try simp only [en]
  conv => whnf
  refine ⟨fun g => ?_, fun g => ?_⟩
  · simp only [sx_cc, Classical.not_not] at g
    conv => whnf
    refine ⟨fun q9 => by first | (simp at q9; done) | omega, ?_⟩
    first | exact h0 (by omega) | exact h1 ⟨by omega, by omega, by omega⟩ _ hf3 (rC_adS g0 (by omega) e3)
  · simp only [sx_cc, Classical.not_not] at g
    conv => whnf
    refine ⟨fun g => ?_, fun g => ?_⟩
    · simp only [sx_cc, Classical.not_not] at g
      conv => whnf
      refine ⟨fun q9 => by first | (simp at q9; done) | omega, ?_⟩
      first | exact h0 (by omega) | exact h1 ⟨by omega, by omega, by omega⟩ _ hf3 (rC_adS g0 (by omega) e3)
    · simp only [sx_cc, Classical.not_not] at g
      conv => whnf
      refine ⟨(by first | assumption | rfl), ?_⟩
      try simp (disch := omega) only [Int.cast_ofNat_Int, up_s, up_a, up_i, mp_a, mp_ge]
      try simp only [r76]
      try simp only [en]
      conv => whnf
      refine ⟨fun g => ?_, fun g => ?_⟩
      · simp only [sx_cc, Classical.not_not] at g
        conv => whnf
        refine ⟨Nat.le_of_ble_eq_true rfl, Nat.le_of_ble_eq_true rfl, (by first | assumption | rfl), ?_⟩
        refine c_Rclaimed hT w g0 (by omega) ?_
        intro σ3 e3 hf3
        conv => whnf
        refine ⟨fun q9 => by first | (simp at q9; done) | omega, ?_⟩
        first | exact h0 (by omega) | exact h1 ⟨by omega, by omega, by omega⟩ _ hf3 (rC_adS g0 (by omega) e3)
      · simp only [sx_cc, Classical.not_not] at g
        conv => whnf
        refine ⟨fun q9 => by first | (simp at q9; done) | omega, ?_⟩
        first | exact h0 (by omega) | exact h1 ⟨by omega, by omega, by omega⟩ _ hf3 (rC_adS g0 (by omega) e3)
set_option maxRecDepth 20000 in
theorem r_known (e0 : σ0 = sx_up σ 124 2 0) (g0 : rC σ0 C) {q : Int} (h0 : ¬ (-1 ≤ q ∧ q ≤ C.n) → Q (some (.inl 0)) shM σ0) (h1 : (-1 ≤ q ∧ q ≤ C.n) → ∀ σ', fr FClR σ0 σ' → rC σ' (knC C q) → Q (some (.inl 1)) shM σ') : sx_Run X 259 [.inr (.inr 124), .inl q] shM σ Q := by
  have en := g0.n
  refine sx_rule0 (own := 12) (cd := kX12_known) (nL := 2) (by decide +kernel) (by decide +kernel) kX12_known_ok (by decide +kernel) (Nat.le_of_ble_eq_true rfl) 40 ?_
  conv => whnf
  refine ⟨(by first | assumption | rfl), ?_⟩
  try simp (disch := omega) only [Int.cast_ofNat_Int, up_s, up_a, up_i, mp_a, mp_ge]
  try simp only [r76]
  try simp only [en]
  rw [← e0]
  conv => whnf
  refine ⟨(by first | assumption | rfl), ?_⟩
  try simp (disch := omega) only [Int.cast_ofNat_Int, up_s, up_a, up_i, mp_a, mp_ge]
  try simp only [r76]
  try simp only [en]
  conv => whnf
  refine ⟨Nat.le_of_ble_eq_true rfl, Nat.le_of_ble_eq_true rfl, ?_⟩
  refine c_Rin (fun y7 y8 => ?_) (fun y0 => ?_)
  · skip
    conv => whnf
    refine ⟨fun g => ?_, fun g => ?_⟩
    · skip
      conv => whnf
      refine ⟨(by first | assumption | rfl), ?_⟩
      try simp (disch := omega) only [Int.cast_ofNat_Int, up_s, up_a, up_i, mp_a, mp_ge]
      try simp only [r76]
      try simp only [en]
      conv => whnf
      refine ⟨fun q9 => by first | (simp at q9; done) | omega, ?_⟩
      generalize e : sx_up σ0 124 75 q = σ8
      exact h1 ⟨by omega, by omega⟩ _ (fun a i z9 => by unfold FClR at z9; rw [← e, up_n (by omega)]) (rC.mk (by rw [← e, up_i (by decide)]; exact g0.n) (by rw [← e, up_s]; rfl) (fun k y0 y1 => by rw [← e, up_a (by decide)]; exact g0.ce k y0 y1) (fun k y0 y1 => by rw [← e, up_a (by decide)]; exact g0.wk k y0 y1) (fun k y0 y1 => by rw [← e, up_a (by decide)]; exact g0.fm k y0 y1) (fun k y0 y1 => by rw [← e, up_a (by decide)]; exact g0.t2 k y0 y1) (fun k y0 y1 => by rw [← e, up_a (by decide)]; exact g0.ng k y0 y1) (fun k y0 y1 => by rw [← e, up_a (by decide)]; exact g0.tg k y0 y1))
    · exact absurd g (by simp [sx_cc])
  · skip
    conv => whnf
    refine ⟨fun g => ?_, fun g => ?_⟩
    · exact absurd g (by simp [sx_cc])
    · skip
      conv => whnf
      refine ⟨fun q9 => by first | (simp at q9; done) | omega, ?_⟩
      exact h0 (by omega)
end SXM9
