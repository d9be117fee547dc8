/-! THE ABSTRACT PLAN AND SNOW: what both sides hold -/
section SXL1
def aP : Type := (Int) × (Int) × (Int) × (Int) × (Int) × (Int) × (Int → Int) × (Int → Int) × (Int → Int) × (Int → Int) × (Int → Int) × (Int → Int) × (Int → Int) × (Int → Int) × (Int → Int) × (Int → (Int → Int) → Option Int)
def aP.w (A : aP) : Int := A.1
def aP.h (A : aP) : Int := A.2.1
def aP.fa (A : aP) : Int := A.2.2.1
def aP.wa (A : aP) : Int := A.2.2.2.1
def aP.kn (A : aP) : Int := A.2.2.2.2.1
def aP.sd (A : aP) : Int := A.2.2.2.2.2.1
def aP.ki (A : aP) : Int → Int := A.2.2.2.2.2.2.1
def aP.gr (A : aP) : Int → Int := A.2.2.2.2.2.2.2.1
def aP.fn (A : aP) : Int → Int := A.2.2.2.2.2.2.2.2.1
def aP.wn (A : aP) : Int → Int := A.2.2.2.2.2.2.2.2.2.1
def aP.fo (A : aP) : Int → Int := A.2.2.2.2.2.2.2.2.2.2.1
def aP.we (A : aP) : Int → Int := A.2.2.2.2.2.2.2.2.2.2.2.1
def aP.ga (A : aP) : Int → Int := A.2.2.2.2.2.2.2.2.2.2.2.2.1
def aP.ho (A : aP) : Int → Int := A.2.2.2.2.2.2.2.2.2.2.2.2.2.1
def aP.hl (A : aP) : Int → Int := A.2.2.2.2.2.2.2.2.2.2.2.2.2.2.1
def aP.lw (A : aP) : Int → (Int → Int) → Option Int := A.2.2.2.2.2.2.2.2.2.2.2.2.2.2.2
def aP.mk (w9 : Int) (h9 : Int) (fa9 : Int) (wa9 : Int) (kn9 : Int) (sd9 : Int) (ki9 : Int → Int) (gr9 : Int → Int) (fn9 : Int → Int) (wn9 : Int → Int) (fo9 : Int → Int) (we9 : Int → Int) (ga9 : Int → Int) (ho9 : Int → Int) (hl9 : Int → Int) (lw9 : Int → (Int → Int) → Option Int) : aP := (w9, h9, fa9, wa9, kn9, sd9, ki9, gr9, fn9, wn9, fo9, we9, ga9, ho9, hl9, lw9)
def aM : Type := (Int) × (Int) × (Int) × (Int) × (Int → Int) × (Int → Int) × (Int → Int) × (Int → Int) × (Int → Int) × (Int → Int) × (Int → Int) × (Int → Int)
def aM.n (A : aM) : Int := A.1
def aM.hr (A : aM) : Int := A.2.1
def aM.sn (A : aM) : Int := A.2.2.1
def aM.la (A : aM) : Int := A.2.2.2.1
def aM.lk (A : aM) : Int → Int := A.2.2.2.2.1
def aM.ce (A : aM) : Int → Int := A.2.2.2.2.2.1
def aM.wy (A : aM) : Int → Int := A.2.2.2.2.2.2.1
def aM.bo (A : aM) : Int → Int := A.2.2.2.2.2.2.2.1
def aM.dp (A : aM) : Int → Int := A.2.2.2.2.2.2.2.2.1
def aM.cv (A : aM) : Int → Int := A.2.2.2.2.2.2.2.2.2.1
def aM.ow (A : aM) : Int → Int := A.2.2.2.2.2.2.2.2.2.2.1
def aM.bl (A : aM) : Int → Int := A.2.2.2.2.2.2.2.2.2.2.2
def aM.mk (n9 : Int) (hr9 : Int) (sn9 : Int) (la9 : Int) (lk9 : Int → Int) (ce9 : Int → Int) (wy9 : Int → Int) (bo9 : Int → Int) (dp9 : Int → Int) (cv9 : Int → Int) (ow9 : Int → Int) (bl9 : Int → Int) : aM := (n9, hr9, sn9, la9, lk9, ce9, wy9, bo9, dp9, cv9, ow9, bl9)
/-- the class's plan at p -/
def cP (p : Int) (σ : sx_S) (P : aP) : Prop := (σ p 0 = P.w) ∧ (σ p 1 = P.h) ∧ (σ p 4 = P.fa) ∧ (σ p 6 = P.wa) ∧ (σ p 13 = P.sd) ∧ (σ p 14 = P.kn) ∧ (∀ c : Int, 0 ≤ c → c < 48 → σ (p + 1) c = P.ki c) ∧ (∀ c : Int, 0 ≤ c → c < 48 → σ (p + 2) c = P.gr c) ∧ (∀ f : Int, 0 ≤ f → f < P.fa → σ (p + 3) f = P.fn f) ∧ (∀ f : Int, 0 ≤ f → f < P.wa → σ (p + 4) f = P.wn f) ∧ (∀ f : Int, 0 ≤ f → f < P.wa → σ (p + 5) f = P.fo f) ∧ (∀ f : Int, 0 ≤ f → f < P.wa → σ (p + 6) f = P.we f) ∧ (∀ f : Int, 0 ≤ f → f < P.wa → σ (p + 7) f = P.ga f) ∧ (∀ f : Int, 0 ≤ f → f < P.wa → σ (p + 8) f = P.ho f) ∧ (∀ f : Int, 0 ≤ f → f < 5 → 0 ≤ σ (p + 8) f ∧ σ (p + 8) f < 48) ∧ (∀ f : Int, 0 ≤ f → f < 24 → σ (p + 10) f = P.hl f) ∧ (∀ (k : Int) (nm : Int → Int), 0 ≤ k → k < 3 → (∀ j : Int, 0 ≤ j → j < 7 → pB12 (nm j)) → pLw (σ (p + 11)) (σ (p + 12)) (σ (p + 13)) (σ (p + 14)) k nm (P.lw k nm))
theorem cP.w {p : Int} {σ : sx_S} {P : aP} (h : cP p σ P) : σ p 0 = P.w := h.1
theorem cP.h {p : Int} {σ : sx_S} {P : aP} (h : cP p σ P) : σ p 1 = P.h := h.2.1
theorem cP.fa {p : Int} {σ : sx_S} {P : aP} (h : cP p σ P) : σ p 4 = P.fa := h.2.2.1
theorem cP.wa {p : Int} {σ : sx_S} {P : aP} (h : cP p σ P) : σ p 6 = P.wa := h.2.2.2.1
theorem cP.sd {p : Int} {σ : sx_S} {P : aP} (h : cP p σ P) : σ p 13 = P.sd := h.2.2.2.2.1
theorem cP.kn {p : Int} {σ : sx_S} {P : aP} (h : cP p σ P) : σ p 14 = P.kn := h.2.2.2.2.2.1
theorem cP.ki {p : Int} {σ : sx_S} {P : aP} (h : cP p σ P) : ∀ c : Int, 0 ≤ c → c < 48 → σ (p + 1) c = P.ki c := h.2.2.2.2.2.2.1
theorem cP.gr {p : Int} {σ : sx_S} {P : aP} (h : cP p σ P) : ∀ c : Int, 0 ≤ c → c < 48 → σ (p + 2) c = P.gr c := h.2.2.2.2.2.2.2.1
theorem cP.fn {p : Int} {σ : sx_S} {P : aP} (h : cP p σ P) : ∀ f : Int, 0 ≤ f → f < P.fa → σ (p + 3) f = P.fn f := h.2.2.2.2.2.2.2.2.1
theorem cP.wn {p : Int} {σ : sx_S} {P : aP} (h : cP p σ P) : ∀ f : Int, 0 ≤ f → f < P.wa → σ (p + 4) f = P.wn f := h.2.2.2.2.2.2.2.2.2.1
theorem cP.fo {p : Int} {σ : sx_S} {P : aP} (h : cP p σ P) : ∀ f : Int, 0 ≤ f → f < P.wa → σ (p + 5) f = P.fo f := h.2.2.2.2.2.2.2.2.2.2.1
theorem cP.we {p : Int} {σ : sx_S} {P : aP} (h : cP p σ P) : ∀ f : Int, 0 ≤ f → f < P.wa → σ (p + 6) f = P.we f := h.2.2.2.2.2.2.2.2.2.2.2.1
theorem cP.ga {p : Int} {σ : sx_S} {P : aP} (h : cP p σ P) : ∀ f : Int, 0 ≤ f → f < P.wa → σ (p + 7) f = P.ga f := h.2.2.2.2.2.2.2.2.2.2.2.2.1
theorem cP.ho {p : Int} {σ : sx_S} {P : aP} (h : cP p σ P) : ∀ f : Int, 0 ≤ f → f < P.wa → σ (p + 8) f = P.ho f := h.2.2.2.2.2.2.2.2.2.2.2.2.2.1
theorem cP.hb {p : Int} {σ : sx_S} {P : aP} (h : cP p σ P) : ∀ f : Int, 0 ≤ f → f < 5 → 0 ≤ σ (p + 8) f ∧ σ (p + 8) f < 48 := h.2.2.2.2.2.2.2.2.2.2.2.2.2.2.1
theorem cP.hl {p : Int} {σ : sx_S} {P : aP} (h : cP p σ P) : ∀ f : Int, 0 ≤ f → f < 24 → σ (p + 10) f = P.hl f := h.2.2.2.2.2.2.2.2.2.2.2.2.2.2.2.1
theorem cP.lw {p : Int} {σ : sx_S} {P : aP} (h : cP p σ P) : ∀ (k : Int) (nm : Int → Int), 0 ≤ k → k < 3 → (∀ j : Int, 0 ≤ j → j < 7 → pB12 (nm j)) → pLw (σ (p + 11)) (σ (p + 12)) (σ (p + 13)) (σ (p + 14)) k nm (P.lw k nm) := h.2.2.2.2.2.2.2.2.2.2.2.2.2.2.2.2
theorem cP.mk {p : Int} {σ : sx_S} {P : aP} (w9 : σ p 0 = P.w) (h9 : σ p 1 = P.h) (fa9 : σ p 4 = P.fa) (wa9 : σ p 6 = P.wa) (sd9 : σ p 13 = P.sd) (kn9 : σ p 14 = P.kn) (ki9 : ∀ c : Int, 0 ≤ c → c < 48 → σ (p + 1) c = P.ki c) (gr9 : ∀ c : Int, 0 ≤ c → c < 48 → σ (p + 2) c = P.gr c) (fn9 : ∀ f : Int, 0 ≤ f → f < P.fa → σ (p + 3) f = P.fn f) (wn9 : ∀ f : Int, 0 ≤ f → f < P.wa → σ (p + 4) f = P.wn f) (fo9 : ∀ f : Int, 0 ≤ f → f < P.wa → σ (p + 5) f = P.fo f) (we9 : ∀ f : Int, 0 ≤ f → f < P.wa → σ (p + 6) f = P.we f) (ga9 : ∀ f : Int, 0 ≤ f → f < P.wa → σ (p + 7) f = P.ga f) (ho9 : ∀ f : Int, 0 ≤ f → f < P.wa → σ (p + 8) f = P.ho f) (hb9 : ∀ f : Int, 0 ≤ f → f < 5 → 0 ≤ σ (p + 8) f ∧ σ (p + 8) f < 48) (hl9 : ∀ f : Int, 0 ≤ f → f < 24 → σ (p + 10) f = P.hl f) (lw9 : ∀ (k : Int) (nm : Int → Int), 0 ≤ k → k < 3 → (∀ j : Int, 0 ≤ j → j < 7 → pB12 (nm j)) → pLw (σ (p + 11)) (σ (p + 12)) (σ (p + 13)) (σ (p + 14)) k nm (P.lw k nm)) : cP p σ P := ⟨w9, h9, fa9, wa9, sd9, kn9, ki9, gr9, fn9, wn9, fo9, we9, ga9, ho9, hb9, hl9, lw9⟩
/-- the class's law k is the reference's -/
def fLk (k : Int) : Int := if k = 2 then 0 else k + 1
def rP (σ : sx_S) (P : aP) : Prop := (σ 124 12 = P.w) ∧ (σ 124 13 = P.h) ∧ (σ 124 14 = P.fa) ∧ (σ 124 15 = P.wa) ∧ (σ 124 16 = P.kn) ∧ (σ 124 17 = P.sd) ∧ (∀ c : Int, 0 ≤ c → c < 48 → σ 127 c = P.ki c) ∧ (∀ c : Int, 0 ≤ c → c < 48 → σ 128 c = P.gr c) ∧ (∀ f : Int, 0 ≤ f → f < P.fa → σ 129 f = P.fn f) ∧ (∀ f : Int, 0 ≤ f → f < P.wa → σ 130 f = P.wn f) ∧ (∀ f : Int, 0 ≤ f → f < P.wa → σ 131 f = P.fo f) ∧ (∀ f : Int, 0 ≤ f → f < P.wa → σ 132 f = P.we f) ∧ (∀ f : Int, 0 ≤ f → f < P.wa → σ 133 f = P.ga f) ∧ (∀ f : Int, 0 ≤ f → f < P.wa → σ 134 f = P.ho f) ∧ (∀ f : Int, 0 ≤ f → f < 5 → 0 ≤ σ 134 f ∧ σ 134 f < 48) ∧ (∀ f : Int, 0 ≤ f → f < 24 → σ 135 f = P.hl f) ∧ (∀ (k : Int) (nm : Int → Int), 0 ≤ k → k < 3 → σ 136 (fLk k) = 0 → P.lw k nm = none) ∧ (∀ k : Int, 0 ≤ k → k < 3 → ¬ σ 136 (fLk k) = 0 → (0 ≤ σ 137 (fLk k) ∧ σ 137 (fLk k) < σ 138 (fLk k) ∧ σ 138 (fLk k) ≤ 64) ∧ (∀ i : Int, σ 137 (fLk k) ≤ i → i < σ 138 (fLk k) → pKn (σ 139) (σ 140) (σ 141) i ∧ pKl (σ 139) (σ 140) (σ 141) (σ 137 (fLk k)) i)) ∧ (∀ (k : Int) (nm : Int → Int), 0 ≤ k → k < 3 → ¬ σ 136 (fLk k) = 0 → P.lw k nm = fLaw (σ 139) (σ 140) (σ 141) nm (σ 137 (fLk k)) (σ 138 (fLk k)))
theorem rP.w {σ : sx_S} {P : aP} (h : rP σ P) : σ 124 12 = P.w := h.1
theorem rP.h {σ : sx_S} {P : aP} (h : rP σ P) : σ 124 13 = P.h := h.2.1
theorem rP.fa {σ : sx_S} {P : aP} (h : rP σ P) : σ 124 14 = P.fa := h.2.2.1
theorem rP.wa {σ : sx_S} {P : aP} (h : rP σ P) : σ 124 15 = P.wa := h.2.2.2.1
theorem rP.kn {σ : sx_S} {P : aP} (h : rP σ P) : σ 124 16 = P.kn := h.2.2.2.2.1
theorem rP.sd {σ : sx_S} {P : aP} (h : rP σ P) : σ 124 17 = P.sd := h.2.2.2.2.2.1
theorem rP.ki {σ : sx_S} {P : aP} (h : rP σ P) : ∀ c : Int, 0 ≤ c → c < 48 → σ 127 c = P.ki c := h.2.2.2.2.2.2.1
theorem rP.gr {σ : sx_S} {P : aP} (h : rP σ P) : ∀ c : Int, 0 ≤ c → c < 48 → σ 128 c = P.gr c := h.2.2.2.2.2.2.2.1
theorem rP.fn {σ : sx_S} {P : aP} (h : rP σ P) : ∀ f : Int, 0 ≤ f → f < P.fa → σ 129 f = P.fn f := h.2.2.2.2.2.2.2.2.1
theorem rP.wn {σ : sx_S} {P : aP} (h : rP σ P) : ∀ f : Int, 0 ≤ f → f < P.wa → σ 130 f = P.wn f := h.2.2.2.2.2.2.2.2.2.1
theorem rP.fo {σ : sx_S} {P : aP} (h : rP σ P) : ∀ f : Int, 0 ≤ f → f < P.wa → σ 131 f = P.fo f := h.2.2.2.2.2.2.2.2.2.2.1
theorem rP.we {σ : sx_S} {P : aP} (h : rP σ P) : ∀ f : Int, 0 ≤ f → f < P.wa → σ 132 f = P.we f := h.2.2.2.2.2.2.2.2.2.2.2.1
theorem rP.ga {σ : sx_S} {P : aP} (h : rP σ P) : ∀ f : Int, 0 ≤ f → f < P.wa → σ 133 f = P.ga f := h.2.2.2.2.2.2.2.2.2.2.2.2.1
theorem rP.ho {σ : sx_S} {P : aP} (h : rP σ P) : ∀ f : Int, 0 ≤ f → f < P.wa → σ 134 f = P.ho f := h.2.2.2.2.2.2.2.2.2.2.2.2.2.1
theorem rP.hb {σ : sx_S} {P : aP} (h : rP σ P) : ∀ f : Int, 0 ≤ f → f < 5 → 0 ≤ σ 134 f ∧ σ 134 f < 48 := h.2.2.2.2.2.2.2.2.2.2.2.2.2.2.1
theorem rP.hl {σ : sx_S} {P : aP} (h : rP σ P) : ∀ f : Int, 0 ≤ f → f < 24 → σ 135 f = P.hl f := h.2.2.2.2.2.2.2.2.2.2.2.2.2.2.2.1
theorem rP.l0 {σ : sx_S} {P : aP} (h : rP σ P) : ∀ (k : Int) (nm : Int → Int), 0 ≤ k → k < 3 → σ 136 (fLk k) = 0 → P.lw k nm = none := h.2.2.2.2.2.2.2.2.2.2.2.2.2.2.2.2.1
theorem rP.l1 {σ : sx_S} {P : aP} (h : rP σ P) : ∀ k : Int, 0 ≤ k → k < 3 → ¬ σ 136 (fLk k) = 0 → (0 ≤ σ 137 (fLk k) ∧ σ 137 (fLk k) < σ 138 (fLk k) ∧ σ 138 (fLk k) ≤ 64) ∧ (∀ i : Int, σ 137 (fLk k) ≤ i → i < σ 138 (fLk k) → pKn (σ 139) (σ 140) (σ 141) i ∧ pKl (σ 139) (σ 140) (σ 141) (σ 137 (fLk k)) i) := h.2.2.2.2.2.2.2.2.2.2.2.2.2.2.2.2.2.1
theorem rP.l2 {σ : sx_S} {P : aP} (h : rP σ P) : ∀ (k : Int) (nm : Int → Int), 0 ≤ k → k < 3 → ¬ σ 136 (fLk k) = 0 → P.lw k nm = fLaw (σ 139) (σ 140) (σ 141) nm (σ 137 (fLk k)) (σ 138 (fLk k)) := h.2.2.2.2.2.2.2.2.2.2.2.2.2.2.2.2.2.2
theorem rP.mk {σ : sx_S} {P : aP} (w9 : σ 124 12 = P.w) (h9 : σ 124 13 = P.h) (fa9 : σ 124 14 = P.fa) (wa9 : σ 124 15 = P.wa) (kn9 : σ 124 16 = P.kn) (sd9 : σ 124 17 = P.sd) (ki9 : ∀ c : Int, 0 ≤ c → c < 48 → σ 127 c = P.ki c) (gr9 : ∀ c : Int, 0 ≤ c → c < 48 → σ 128 c = P.gr c) (fn9 : ∀ f : Int, 0 ≤ f → f < P.fa → σ 129 f = P.fn f) (wn9 : ∀ f : Int, 0 ≤ f → f < P.wa → σ 130 f = P.wn f) (fo9 : ∀ f : Int, 0 ≤ f → f < P.wa → σ 131 f = P.fo f) (we9 : ∀ f : Int, 0 ≤ f → f < P.wa → σ 132 f = P.we f) (ga9 : ∀ f : Int, 0 ≤ f → f < P.wa → σ 133 f = P.ga f) (ho9 : ∀ f : Int, 0 ≤ f → f < P.wa → σ 134 f = P.ho f) (hb9 : ∀ f : Int, 0 ≤ f → f < 5 → 0 ≤ σ 134 f ∧ σ 134 f < 48) (hl9 : ∀ f : Int, 0 ≤ f → f < 24 → σ 135 f = P.hl f) (l09 : ∀ (k : Int) (nm : Int → Int), 0 ≤ k → k < 3 → σ 136 (fLk k) = 0 → P.lw k nm = none) (l19 : ∀ k : Int, 0 ≤ k → k < 3 → ¬ σ 136 (fLk k) = 0 → (0 ≤ σ 137 (fLk k) ∧ σ 137 (fLk k) < σ 138 (fLk k) ∧ σ 138 (fLk k) ≤ 64) ∧ (∀ i : Int, σ 137 (fLk k) ≤ i → i < σ 138 (fLk k) → pKn (σ 139) (σ 140) (σ 141) i ∧ pKl (σ 139) (σ 140) (σ 141) (σ 137 (fLk k)) i)) (l29 : ∀ (k : Int) (nm : Int → Int), 0 ≤ k → k < 3 → ¬ σ 136 (fLk k) = 0 → P.lw k nm = fLaw (σ 139) (σ 140) (σ 141) nm (σ 137 (fLk k)) (σ 138 (fLk k))) : rP σ P := ⟨w9, h9, fa9, wa9, kn9, sd9, ki9, gr9, fn9, wn9, fo9, we9, ga9, ho9, hb9, hl9, l09, l19, l29⟩
def wP (P : aP) : Prop := (1 ≤ P.w ∧ P.w ≤ 8) ∧ (1 ≤ P.h ∧ P.h ≤ 6) ∧ (0 ≤ P.fa ∧ P.fa ≤ 3) ∧ (0 ≤ P.wa ∧ P.wa ≤ 5) ∧ (0 ≤ P.kn ∧ P.kn ≤ 64) ∧ (0 ≤ P.sd ∧ P.sd ≤ 99999) ∧ (1 ≤ P.w * P.h ∧ P.w * P.h ≤ 48) ∧ (∀ c : Int, 0 ≤ c → c < 48 → 0 ≤ P.ki c ∧ P.ki c ≤ 2) ∧ (∀ c : Int, 0 ≤ c → c < 48 → -1 ≤ P.gr c ∧ P.gr c < P.fa) ∧ (∀ f : Int, 0 ≤ f → f < P.wa → 0 ≤ P.fo f ∧ P.fo f < P.fa) ∧ (∀ f : Int, 0 ≤ f → f < P.wa → 1 ≤ P.we f ∧ P.we f ≤ 60) ∧ (∀ f : Int, 0 ≤ f → f < P.wa → 1 ≤ P.ga f ∧ P.ga f ≤ 3) ∧ (∀ f : Int, 0 ≤ f → f < P.wa → 0 ≤ P.ho f ∧ P.ho f < P.w * P.h) ∧ (∀ f : Int, 0 ≤ f → f < 24 → 0 ≤ P.hl f ∧ P.hl f ≤ 100)
theorem wP.w {P : aP} (h : wP P) : 1 ≤ P.w ∧ P.w ≤ 8 := h.1
theorem wP.h {P : aP} (h : wP P) : 1 ≤ P.h ∧ P.h ≤ 6 := h.2.1
theorem wP.fa {P : aP} (h : wP P) : 0 ≤ P.fa ∧ P.fa ≤ 3 := h.2.2.1
theorem wP.wa {P : aP} (h : wP P) : 0 ≤ P.wa ∧ P.wa ≤ 5 := h.2.2.2.1
theorem wP.kn {P : aP} (h : wP P) : 0 ≤ P.kn ∧ P.kn ≤ 64 := h.2.2.2.2.1
theorem wP.sd {P : aP} (h : wP P) : 0 ≤ P.sd ∧ P.sd ≤ 99999 := h.2.2.2.2.2.1
theorem wP.wh {P : aP} (h : wP P) : 1 ≤ P.w * P.h ∧ P.w * P.h ≤ 48 := h.2.2.2.2.2.2.1
theorem wP.ki {P : aP} (h : wP P) : ∀ c : Int, 0 ≤ c → c < 48 → 0 ≤ P.ki c ∧ P.ki c ≤ 2 := h.2.2.2.2.2.2.2.1
theorem wP.gr {P : aP} (h : wP P) : ∀ c : Int, 0 ≤ c → c < 48 → -1 ≤ P.gr c ∧ P.gr c < P.fa := h.2.2.2.2.2.2.2.2.1
theorem wP.fo {P : aP} (h : wP P) : ∀ f : Int, 0 ≤ f → f < P.wa → 0 ≤ P.fo f ∧ P.fo f < P.fa := h.2.2.2.2.2.2.2.2.2.1
theorem wP.we {P : aP} (h : wP P) : ∀ f : Int, 0 ≤ f → f < P.wa → 1 ≤ P.we f ∧ P.we f ≤ 60 := h.2.2.2.2.2.2.2.2.2.2.1
theorem wP.ga {P : aP} (h : wP P) : ∀ f : Int, 0 ≤ f → f < P.wa → 1 ≤ P.ga f ∧ P.ga f ≤ 3 := h.2.2.2.2.2.2.2.2.2.2.2.1
theorem wP.ho {P : aP} (h : wP P) : ∀ f : Int, 0 ≤ f → f < P.wa → 0 ≤ P.ho f ∧ P.ho f < P.w * P.h := h.2.2.2.2.2.2.2.2.2.2.2.2.1
theorem wP.hl {P : aP} (h : wP P) : ∀ f : Int, 0 ≤ f → f < 24 → 0 ≤ P.hl f ∧ P.hl f ≤ 100 := h.2.2.2.2.2.2.2.2.2.2.2.2.2
theorem wP.mk {P : aP} (w9 : 1 ≤ P.w ∧ P.w ≤ 8) (h9 : 1 ≤ P.h ∧ P.h ≤ 6) (fa9 : 0 ≤ P.fa ∧ P.fa ≤ 3) (wa9 : 0 ≤ P.wa ∧ P.wa ≤ 5) (kn9 : 0 ≤ P.kn ∧ P.kn ≤ 64) (sd9 : 0 ≤ P.sd ∧ P.sd ≤ 99999) (wh9 : 1 ≤ P.w * P.h ∧ P.w * P.h ≤ 48) (ki9 : ∀ c : Int, 0 ≤ c → c < 48 → 0 ≤ P.ki c ∧ P.ki c ≤ 2) (gr9 : ∀ c : Int, 0 ≤ c → c < 48 → -1 ≤ P.gr c ∧ P.gr c < P.fa) (fo9 : ∀ f : Int, 0 ≤ f → f < P.wa → 0 ≤ P.fo f ∧ P.fo f < P.fa) (we9 : ∀ f : Int, 0 ≤ f → f < P.wa → 1 ≤ P.we f ∧ P.we f ≤ 60) (ga9 : ∀ f : Int, 0 ≤ f → f < P.wa → 1 ≤ P.ga f ∧ P.ga f ≤ 3) (ho9 : ∀ f : Int, 0 ≤ f → f < P.wa → 0 ≤ P.ho f ∧ P.ho f < P.w * P.h) (hl9 : ∀ f : Int, 0 ≤ f → f < 24 → 0 ≤ P.hl f ∧ P.hl f ≤ 100) : wP P := ⟨w9, h9, fa9, wa9, kn9, sd9, wh9, ki9, gr9, fo9, we9, ga9, ho9, hl9⟩
/-- the class's marks and weather at s -/
def cS (s : Int) (σ : sx_S) (A : aM) : Prop := (σ (s + 4) 0 = A.n) ∧ (σ s 7 = A.hr) ∧ (σ s 8 = A.sn) ∧ (σ s 10 = A.la) ∧ (∀ m : Int, 0 ≤ m → m < A.n → σ (s + 5) m = A.lk m) ∧ (∀ m : Int, 0 ≤ m → m < A.n → σ (s + 6) m = A.ce m) ∧ (∀ m : Int, 0 ≤ m → m < A.n → σ (s + 7) m = A.wy m) ∧ (∀ m : Int, 0 ≤ m → m < A.n → σ (s + 8) m = A.bo m) ∧ (∀ m : Int, 0 ≤ m → m < A.n → σ (s + 9) m = A.dp m) ∧ (∀ m : Int, 0 ≤ m → m < A.n → σ (s + 10) m = A.cv m) ∧ (∀ m : Int, 0 ≤ m → m < A.n → σ (s + 11) m = A.ow m) ∧ (∀ m : Int, 0 ≤ m → m < A.n → σ (s + 12) m = A.bl m)
theorem cS.n {s : Int} {σ : sx_S} {A : aM} (h : cS s σ A) : σ (s + 4) 0 = A.n := h.1
theorem cS.hr {s : Int} {σ : sx_S} {A : aM} (h : cS s σ A) : σ s 7 = A.hr := h.2.1
theorem cS.sn {s : Int} {σ : sx_S} {A : aM} (h : cS s σ A) : σ s 8 = A.sn := h.2.2.1
theorem cS.la {s : Int} {σ : sx_S} {A : aM} (h : cS s σ A) : σ s 10 = A.la := h.2.2.2.1
theorem cS.lk {s : Int} {σ : sx_S} {A : aM} (h : cS s σ A) : ∀ m : Int, 0 ≤ m → m < A.n → σ (s + 5) m = A.lk m := h.2.2.2.2.1
theorem cS.ce {s : Int} {σ : sx_S} {A : aM} (h : cS s σ A) : ∀ m : Int, 0 ≤ m → m < A.n → σ (s + 6) m = A.ce m := h.2.2.2.2.2.1
theorem cS.wy {s : Int} {σ : sx_S} {A : aM} (h : cS s σ A) : ∀ m : Int, 0 ≤ m → m < A.n → σ (s + 7) m = A.wy m := h.2.2.2.2.2.2.1
theorem cS.bo {s : Int} {σ : sx_S} {A : aM} (h : cS s σ A) : ∀ m : Int, 0 ≤ m → m < A.n → σ (s + 8) m = A.bo m := h.2.2.2.2.2.2.2.1
theorem cS.dp {s : Int} {σ : sx_S} {A : aM} (h : cS s σ A) : ∀ m : Int, 0 ≤ m → m < A.n → σ (s + 9) m = A.dp m := h.2.2.2.2.2.2.2.2.1
theorem cS.cv {s : Int} {σ : sx_S} {A : aM} (h : cS s σ A) : ∀ m : Int, 0 ≤ m → m < A.n → σ (s + 10) m = A.cv m := h.2.2.2.2.2.2.2.2.2.1
theorem cS.ow {s : Int} {σ : sx_S} {A : aM} (h : cS s σ A) : ∀ m : Int, 0 ≤ m → m < A.n → σ (s + 11) m = A.ow m := h.2.2.2.2.2.2.2.2.2.2.1
theorem cS.bl {s : Int} {σ : sx_S} {A : aM} (h : cS s σ A) : ∀ m : Int, 0 ≤ m → m < A.n → σ (s + 12) m = A.bl m := h.2.2.2.2.2.2.2.2.2.2.2
theorem cS.mk {s : Int} {σ : sx_S} {A : aM} (n9 : σ (s + 4) 0 = A.n) (hr9 : σ s 7 = A.hr) (sn9 : σ s 8 = A.sn) (la9 : σ s 10 = A.la) (lk9 : ∀ m : Int, 0 ≤ m → m < A.n → σ (s + 5) m = A.lk m) (ce9 : ∀ m : Int, 0 ≤ m → m < A.n → σ (s + 6) m = A.ce m) (wy9 : ∀ m : Int, 0 ≤ m → m < A.n → σ (s + 7) m = A.wy m) (bo9 : ∀ m : Int, 0 ≤ m → m < A.n → σ (s + 8) m = A.bo m) (dp9 : ∀ m : Int, 0 ≤ m → m < A.n → σ (s + 9) m = A.dp m) (cv9 : ∀ m : Int, 0 ≤ m → m < A.n → σ (s + 10) m = A.cv m) (ow9 : ∀ m : Int, 0 ≤ m → m < A.n → σ (s + 11) m = A.ow m) (bl9 : ∀ m : Int, 0 ≤ m → m < A.n → σ (s + 12) m = A.bl m) : cS s σ A := ⟨n9, hr9, sn9, la9, lk9, ce9, wy9, bo9, dp9, cv9, ow9, bl9⟩
def rS (b : Int) (σ : sx_S) (A : aM) : Prop := (σ 154 b = A.n) ∧ (σ 156 b = A.hr) ∧ (σ 155 b = A.sn) ∧ (σ 124 73 = A.la) ∧ (∀ m : Int, 0 ≤ m → m < A.n → σ 146 (90 * b + m) = A.lk m) ∧ (∀ m : Int, 0 ≤ m → m < A.n → σ 147 (90 * b + m) = A.ce m) ∧ (∀ m : Int, 0 ≤ m → m < A.n → σ 148 (90 * b + m) = A.wy m) ∧ (∀ m : Int, 0 ≤ m → m < A.n → σ 149 (90 * b + m) = A.bo m) ∧ (∀ m : Int, 0 ≤ m → m < A.n → σ 150 (90 * b + m) = A.dp m) ∧ (∀ m : Int, 0 ≤ m → m < A.n → σ 151 (90 * b + m) = A.cv m) ∧ (∀ m : Int, 0 ≤ m → m < A.n → σ 152 (90 * b + m) = A.ow m) ∧ (∀ m : Int, 0 ≤ m → m < A.n → σ 153 (90 * b + m) = A.bl m)
theorem rS.n {b : Int} {σ : sx_S} {A : aM} (h : rS b σ A) : σ 154 b = A.n := h.1
theorem rS.hr {b : Int} {σ : sx_S} {A : aM} (h : rS b σ A) : σ 156 b = A.hr := h.2.1
theorem rS.sn {b : Int} {σ : sx_S} {A : aM} (h : rS b σ A) : σ 155 b = A.sn := h.2.2.1
theorem rS.la {b : Int} {σ : sx_S} {A : aM} (h : rS b σ A) : σ 124 73 = A.la := h.2.2.2.1
theorem rS.lk {b : Int} {σ : sx_S} {A : aM} (h : rS b σ A) : ∀ m : Int, 0 ≤ m → m < A.n → σ 146 (90 * b + m) = A.lk m := h.2.2.2.2.1
theorem rS.ce {b : Int} {σ : sx_S} {A : aM} (h : rS b σ A) : ∀ m : Int, 0 ≤ m → m < A.n → σ 147 (90 * b + m) = A.ce m := h.2.2.2.2.2.1
theorem rS.wy {b : Int} {σ : sx_S} {A : aM} (h : rS b σ A) : ∀ m : Int, 0 ≤ m → m < A.n → σ 148 (90 * b + m) = A.wy m := h.2.2.2.2.2.2.1
theorem rS.bo {b : Int} {σ : sx_S} {A : aM} (h : rS b σ A) : ∀ m : Int, 0 ≤ m → m < A.n → σ 149 (90 * b + m) = A.bo m := h.2.2.2.2.2.2.2.1
theorem rS.dp {b : Int} {σ : sx_S} {A : aM} (h : rS b σ A) : ∀ m : Int, 0 ≤ m → m < A.n → σ 150 (90 * b + m) = A.dp m := h.2.2.2.2.2.2.2.2.1
theorem rS.cv {b : Int} {σ : sx_S} {A : aM} (h : rS b σ A) : ∀ m : Int, 0 ≤ m → m < A.n → σ 151 (90 * b + m) = A.cv m := h.2.2.2.2.2.2.2.2.2.1
theorem rS.ow {b : Int} {σ : sx_S} {A : aM} (h : rS b σ A) : ∀ m : Int, 0 ≤ m → m < A.n → σ 152 (90 * b + m) = A.ow m := h.2.2.2.2.2.2.2.2.2.2.1
theorem rS.bl {b : Int} {σ : sx_S} {A : aM} (h : rS b σ A) : ∀ m : Int, 0 ≤ m → m < A.n → σ 153 (90 * b + m) = A.bl m := h.2.2.2.2.2.2.2.2.2.2.2
theorem rS.mk {b : Int} {σ : sx_S} {A : aM} (n9 : σ 154 b = A.n) (hr9 : σ 156 b = A.hr) (sn9 : σ 155 b = A.sn) (la9 : σ 124 73 = A.la) (lk9 : ∀ m : Int, 0 ≤ m → m < A.n → σ 146 (90 * b + m) = A.lk m) (ce9 : ∀ m : Int, 0 ≤ m → m < A.n → σ 147 (90 * b + m) = A.ce m) (wy9 : ∀ m : Int, 0 ≤ m → m < A.n → σ 148 (90 * b + m) = A.wy m) (bo9 : ∀ m : Int, 0 ≤ m → m < A.n → σ 149 (90 * b + m) = A.bo m) (dp9 : ∀ m : Int, 0 ≤ m → m < A.n → σ 150 (90 * b + m) = A.dp m) (cv9 : ∀ m : Int, 0 ≤ m → m < A.n → σ 151 (90 * b + m) = A.cv m) (ow9 : ∀ m : Int, 0 ≤ m → m < A.n → σ 152 (90 * b + m) = A.ow m) (bl9 : ∀ m : Int, 0 ≤ m → m < A.n → σ 153 (90 * b + m) = A.bl m) : rS b σ A := ⟨n9, hr9, sn9, la9, lk9, ce9, wy9, bo9, dp9, cv9, ow9, bl9⟩
def wM (P : aP) (A : aM) (c : Int) : Prop := (0 ≤ A.n ∧ A.n ≤ 90) ∧ (0 ≤ A.hr ∧ A.hr ≤ 9999) ∧ (0 ≤ A.sn ∧ A.sn ≤ 9999) ∧ (0 ≤ A.la ∧ A.la ≤ 2147483647) ∧ (∀ m : Int, 0 ≤ m → m < A.n → 0 ≤ A.lk m ∧ A.lk m < P.wa) ∧ (∀ m : Int, 0 ≤ m → m < A.n → 0 ≤ A.ce m ∧ A.ce m < P.w * P.h) ∧ (∀ m : Int, 0 ≤ m → m < A.n → 0 ≤ A.wy m ∧ A.wy m ≤ 3) ∧ (∀ m : Int, 0 ≤ m → m < A.n → 0 ≤ A.bo m ∧ A.bo m ≤ 9999) ∧ (∀ m : Int, 0 ≤ m → m < A.n → 0 ≤ A.dp m ∧ A.dp m ≤ 99) ∧ (∀ m : Int, 0 ≤ m → m < A.n → 0 ≤ A.cv m ∧ A.cv m ≤ c) ∧ (∀ m : Int, 0 ≤ m → m < A.n → 0 ≤ A.ow m ∧ A.ow m < P.wa) ∧ (∀ m : Int, 0 ≤ m → m < A.n → A.bl m = 0 ∨ A.bl m = 1)
theorem wM.n {P : aP} {A : aM} {c : Int} (h : wM P A c) : 0 ≤ A.n ∧ A.n ≤ 90 := h.1
theorem wM.hr {P : aP} {A : aM} {c : Int} (h : wM P A c) : 0 ≤ A.hr ∧ A.hr ≤ 9999 := h.2.1
theorem wM.sn {P : aP} {A : aM} {c : Int} (h : wM P A c) : 0 ≤ A.sn ∧ A.sn ≤ 9999 := h.2.2.1
theorem wM.la {P : aP} {A : aM} {c : Int} (h : wM P A c) : 0 ≤ A.la ∧ A.la ≤ 2147483647 := h.2.2.2.1
theorem wM.lk {P : aP} {A : aM} {c : Int} (h : wM P A c) : ∀ m : Int, 0 ≤ m → m < A.n → 0 ≤ A.lk m ∧ A.lk m < P.wa := h.2.2.2.2.1
theorem wM.ce {P : aP} {A : aM} {c : Int} (h : wM P A c) : ∀ m : Int, 0 ≤ m → m < A.n → 0 ≤ A.ce m ∧ A.ce m < P.w * P.h := h.2.2.2.2.2.1
theorem wM.wy {P : aP} {A : aM} {c : Int} (h : wM P A c) : ∀ m : Int, 0 ≤ m → m < A.n → 0 ≤ A.wy m ∧ A.wy m ≤ 3 := h.2.2.2.2.2.2.1
theorem wM.bo {P : aP} {A : aM} {c : Int} (h : wM P A c) : ∀ m : Int, 0 ≤ m → m < A.n → 0 ≤ A.bo m ∧ A.bo m ≤ 9999 := h.2.2.2.2.2.2.2.1
theorem wM.dp {P : aP} {A : aM} {c : Int} (h : wM P A c) : ∀ m : Int, 0 ≤ m → m < A.n → 0 ≤ A.dp m ∧ A.dp m ≤ 99 := h.2.2.2.2.2.2.2.2.1
theorem wM.cv {P : aP} {A : aM} {c : Int} (h : wM P A c) : ∀ m : Int, 0 ≤ m → m < A.n → 0 ≤ A.cv m ∧ A.cv m ≤ c := h.2.2.2.2.2.2.2.2.2.1
theorem wM.ow {P : aP} {A : aM} {c : Int} (h : wM P A c) : ∀ m : Int, 0 ≤ m → m < A.n → 0 ≤ A.ow m ∧ A.ow m < P.wa := h.2.2.2.2.2.2.2.2.2.2.1
theorem wM.bl {P : aP} {A : aM} {c : Int} (h : wM P A c) : ∀ m : Int, 0 ≤ m → m < A.n → A.bl m = 0 ∨ A.bl m = 1 := h.2.2.2.2.2.2.2.2.2.2.2
theorem wM.mk {P : aP} {A : aM} {c : Int} (n9 : 0 ≤ A.n ∧ A.n ≤ 90) (hr9 : 0 ≤ A.hr ∧ A.hr ≤ 9999) (sn9 : 0 ≤ A.sn ∧ A.sn ≤ 9999) (la9 : 0 ≤ A.la ∧ A.la ≤ 2147483647) (lk9 : ∀ m : Int, 0 ≤ m → m < A.n → 0 ≤ A.lk m ∧ A.lk m < P.wa) (ce9 : ∀ m : Int, 0 ≤ m → m < A.n → 0 ≤ A.ce m ∧ A.ce m < P.w * P.h) (wy9 : ∀ m : Int, 0 ≤ m → m < A.n → 0 ≤ A.wy m ∧ A.wy m ≤ 3) (bo9 : ∀ m : Int, 0 ≤ m → m < A.n → 0 ≤ A.bo m ∧ A.bo m ≤ 9999) (dp9 : ∀ m : Int, 0 ≤ m → m < A.n → 0 ≤ A.dp m ∧ A.dp m ≤ 99) (cv9 : ∀ m : Int, 0 ≤ m → m < A.n → 0 ≤ A.cv m ∧ A.cv m ≤ c) (ow9 : ∀ m : Int, 0 ≤ m → m < A.n → 0 ≤ A.ow m ∧ A.ow m < P.wa) (bl9 : ∀ m : Int, 0 ≤ m → m < A.n → A.bl m = 0 ∨ A.bl m = 1) : wM P A c := ⟨n9, hr9, sn9, la9, lk9, ce9, wy9, bo9, dp9, cv9, ow9, bl9⟩
/-- alike but for F -/
def fr (F : Int → Int → Prop) (σ σ' : sx_S) : Prop := ∀ a i : Int, ¬ F a i → σ' a i = σ a i
theorem fr.rfl {F : Int → Int → Prop} {σ : sx_S} : fr F σ σ := fun _ _ _ => Eq.refl _
theorem fr.trans {F : Int → Int → Prop} {σ σ1 σ2 : sx_S} (h : fr F σ σ1) (h' : fr F σ1 σ2) : fr F σ σ2 := fun a i z => (h' a i z).trans (h a i z)
theorem fr.mono {F G : Int → Int → Prop} {σ σ1 : sx_S} (h : fr F σ σ1) (h' : ∀ a i : Int, F a i → G a i) : fr G σ σ1 := fun a i z => h a i (fun y => z (h' a i y))
abbrev FC (s a i : Int) : Prop := a = 38 ∨ a = 39 ∨ (a = 37 ∧ i = 2) ∨ (a = s ∧ (i = 7 ∨ i = 8 ∨ i = 10)) ∨ a = s + 9 ∨ a = s + 10 ∨ a = s + 14
abbrev FR (b a i : Int) : Prop := a = 144 ∨ a = 145 ∨ (a = 124 ∧ (i = 56 ∨ i = 73)) ∨ (a = 150 ∧ 90 * b ≤ i ∧ i < 90 * b + 90) ∨ (a = 151 ∧ 90 * b ≤ i ∧ i < 90 * b + 90) ∨ (a = 155 ∧ i = b) ∨ (a = 156 ∧ i = b)
theorem FC_pts : ([40, 55, 70] : List Int).all (fun s => ptL.all (fun q => decide (¬ FC s q.1 q.2.1))) = true := by decide +kernel
theorem FR_pts : ([0, 1] : List Int).all (fun s => ptL.all (fun q => decide (¬ FR s q.1 q.2.1))) = true := by decide +kernel
theorem fr.pt {s : Int} {σ σ' : sx_S} (h : fr (FC s) σ σ') (hs : isS s) (hT : PT σ) : PT σ' := hT.fr (fun q hq => h _ _ (by
  have h1 := List.all_eq_true.mp FC_pts s (by rcases hs with e | e | e <;> subst e <;> decide)
  exact of_decide_eq_true (List.all_eq_true.mp h1 q hq)))
theorem fr.ptr {b : Int} {σ σ' : sx_S} (h : fr (FR b) σ σ') (hb : b = 0 ∨ b = 1) (hT : PT σ) : PT σ' := hT.fr (fun q hq => h _ _ (by
  have h1 := List.all_eq_true.mp FR_pts b (by rcases hb with e | e <;> subst e <;> decide)
  exact of_decide_eq_true (List.all_eq_true.mp h1 q hq)))
theorem cP.of {p : Int} {σ σ' : sx_S} {P : aP} (h : cP p σ P) (e : ∀ a i : Int, p ≤ a → a ≤ p + 14 → σ' a i = σ a i) : cP p σ' P := by
  have r : ∀ a : Int, p ≤ a → a ≤ p + 14 → σ' a = σ a := fun a y z => funext fun i => e a i y z
  unfold cP
  rw [r p (by omega) (by omega), r (p + 1) (by omega) (by omega), r (p + 2) (by omega) (by omega), r (p + 3) (by omega) (by omega), r (p + 4) (by omega) (by omega), r (p + 5) (by omega) (by omega), r (p + 6) (by omega) (by omega), r (p + 7) (by omega) (by omega), r (p + 8) (by omega) (by omega), r (p + 10) (by omega) (by omega), r (p + 11) (by omega) (by omega), r (p + 12) (by omega) (by omega), r (p + 13) (by omega) (by omega), r (p + 14) (by omega) (by omega)]
  exact h
theorem rP.of {σ σ' : sx_S} {P : aP} (h : rP σ P) (e : ∀ a i : Int, 127 ≤ a → a ≤ 141 → σ' a i = σ a i) (e' : ∀ i : Int, 12 ≤ i → i ≤ 17 → σ' 124 i = σ 124 i) : rP σ' P := by
  have r : ∀ a : Int, 127 ≤ a → a ≤ 141 → σ' a = σ a := fun a y z => funext fun i => e a i y z
  unfold rP
  rw [e' 12 (by decide) (by decide), e' 13 (by decide) (by decide), e' 14 (by decide) (by decide), e' 15 (by decide) (by decide), e' 16 (by decide) (by decide), e' 17 (by decide) (by decide), r 127 (by decide) (by decide), r 128 (by decide) (by decide), r 129 (by decide) (by decide), r 130 (by decide) (by decide), r 131 (by decide) (by decide), r 132 (by decide) (by decide), r 133 (by decide) (by decide), r 134 (by decide) (by decide), r 135 (by decide) (by decide), r 136 (by decide) (by decide), r 137 (by decide) (by decide), r 138 (by decide) (by decide), r 139 (by decide) (by decide), r 140 (by decide) (by decide), r 141 (by decide) (by decide)]
  exact h
theorem cS.of {s : Int} {σ σ' : sx_S} {A : aM} (h : cS s σ A) (e : ∀ a i : Int, s ≤ a → a ≤ s + 12 → σ' a i = σ a i) : cS s σ' A := by
  have r : ∀ a : Int, s ≤ a → a ≤ s + 12 → σ' a = σ a := fun a y z => funext fun i => e a i y z
  unfold cS
  rw [r s (by omega) (by omega), r (s + 4) (by omega) (by omega), r (s + 5) (by omega) (by omega), r (s + 6) (by omega) (by omega), r (s + 7) (by omega) (by omega), r (s + 8) (by omega) (by omega), r (s + 9) (by omega) (by omega), r (s + 10) (by omega) (by omega), r (s + 11) (by omega) (by omega), r (s + 12) (by omega) (by omega)]
  exact h
theorem SCC.of {σ σ' : sx_S} (h : SCC σ) (e : ∀ a i : Int, 37 ≤ a → a ≤ 39 → σ' a i = σ a i) : SCC σ' := by
  refine ⟨fun j h3 h4 => ?_, ?_⟩
  · rw [e _ _ (by decide) (by decide)]; exact h.1 j h3 h4
  · rw [e _ _ (by decide) (by decide)]; exact h.2
theorem SCK.of {σ σ' : sx_S} (h : SCK σ) (e : ∀ i : Int, σ' 145 i = σ 145 i) (e' : σ' 124 56 = σ 124 56) : SCK σ' := by
  refine ⟨fun j h3 h4 => ?_, ?_⟩
  · rw [e]; exact h.1 j h3 h4
  · rw [e']; exact h.2
/-- a mark's names -/
def aNm (P : aP) (A : aM) (m : Int) : Int → Int := fNm (P.we (A.lk m)) (P.ga (A.lk m)) (fFar P.w (A.ce m) (P.ho (A.lk m))) (A.dp m) (A.hr - A.bo m) A.sn (fB (P.gr (A.ce m) = P.fo (A.lk m)))
def aNw (P : aP) (A : aM) (w c : Int) : Int → Int := fNm (P.we w) (P.ga w) (fFar P.w c (P.ho w)) 0 0 A.sn (fB (P.gr c = P.fo w))
theorem fFar_b2 {w a b : Int} (hw : 1 ≤ w ∧ w ≤ 8) (ha : 0 ≤ a ∧ a < 48) (hb : 0 ≤ b ∧ b < 48) : 0 ≤ fFar w a b ∧ fFar w a b ≤ 200 := by
  have h1 := tm_bd ha.1 (show 0 < w by omega)
  have h2 := tm_bd hb.1 (show 0 < w by omega)
  unfold fFar fAbs
  constructor <;> (repeat (first | omega | split))
theorem fNm_b {a b c d e f g : Int} (h : pB12 a ∧ pB12 b ∧ pB12 c ∧ pB12 d ∧ pB12 e ∧ pB12 f ∧ pB12 g) (j : Int) : pB12 (fNm a b c d e f g j) := by
  obtain ⟨h1, h2, h3, h4, h5, h6, h7⟩ := h
  unfold fNm
  repeat (first | assumption | split)
theorem fB_b2 {p : Prop} [Decidable p] : 0 ≤ fB p ∧ fB p ≤ 1 := by unfold fB; split <;> decide
variable {s p b c : Int} {σ σ' : sx_S} {P : aP} {A : aM}
theorem aNm_b (wp : wP P) (wm : wM P A c) {m : Int} (h0 : 0 ≤ m) (h1 : m < A.n) (j : Int) : pB12 (aNm P A m j) := by
  have u1 := wm.lk m h0 h1
  have u2 := wm.ce m h0 h1
  have u3 := wm.bo m h0 h1
  have u4 := wm.dp m h0 h1
  have v1 := wp.we _ u1.1 u1.2
  have v2 := wp.ga _ u1.1 u1.2
  have v3 := wp.ho _ u1.1 u1.2
  have v4 := wp.wh
  have v5 := fFar_b2 (a := A.ce m) (b := P.ho (A.lk m)) wp.w ⟨u2.1, by omega⟩ ⟨v3.1, by omega⟩
  have v6 := wm.hr
  have v7 := wm.sn
  have v8 := fB_b2 (p := P.gr (A.ce m) = P.fo (A.lk m))
  unfold aNm
  refine fNm_b ?_ j
  unfold pB12
  omega
theorem aNw_b (wp : wP P) (wm : wM P A c) {w e : Int} (h0 : 0 ≤ w) (h1 : w < P.wa) (h2 : 0 ≤ e) (h3 : e < 48) (j : Int) : pB12 (aNw P A w e j) := by
  have v1 := wp.we _ h0 h1
  have v2 := wp.ga _ h0 h1
  have v3 := wp.ho _ h0 h1
  have v4 := wp.wh
  have v5 := fFar_b2 (a := e) (b := P.ho w) wp.w ⟨h2, h3⟩ ⟨v3.1, by omega⟩
  have v7 := wm.sn
  have v8 := fB_b2 (p := P.gr e = P.fo w)
  unfold aNw
  refine fNm_b ?_ j
  unfold pB12
  omega
theorem cNm (wp : wP P) (wm : wM P A c) (hP : cP p σ P) (hA : cS s σ A) {m : Int} (h0 : 0 ≤ m) (h1 : m < A.n) : fNm (σ (p + 6) (σ (s + 5) m)) (σ (p + 7) (σ (s + 5) m)) (fFar (σ p 0) (σ (s + 6) m) (σ (p + 8) (σ (s + 5) m))) (σ (s + 9) m) (σ s 7 - σ (s + 8) m) (σ s 8) (fB (σ (p + 2) (σ (s + 6) m) = σ (p + 5) (σ (s + 5) m))) = aNm P A m := by
  have u1 := wm.lk m h0 h1
  have u2 := wm.ce m h0 h1
  have v4 := wp.wh
  unfold aNm
  simp only [hA.lk m h0 h1, hA.ce m h0 h1, hA.dp m h0 h1, hA.bo m h0 h1, hA.hr, hA.sn, hP.w, hP.we _ u1.1 u1.2, hP.ga _ u1.1 u1.2, hP.ho _ u1.1 u1.2, hP.fo _ u1.1 u1.2, hP.gr _ u2.1 (show A.ce m < 48 by omega)]
theorem rNm (wp : wP P) (wm : wM P A c) (hP : rP σ P) (hA : rS b σ A) {m : Int} (h0 : 0 ≤ m) (h1 : m < A.n) : fNm (σ 132 (σ 146 (90 * b + m))) (σ 133 (σ 146 (90 * b + m))) (fFar (σ 124 12) (σ 147 (90 * b + m)) (σ 134 (σ 146 (90 * b + m)))) (σ 150 (90 * b + m)) (σ 156 b - σ 149 (90 * b + m)) (σ 155 b) (fB (σ 128 (σ 147 (90 * b + m)) = σ 131 (σ 146 (90 * b + m)))) = aNm P A m := by
  have u1 := wm.lk m h0 h1
  have u2 := wm.ce m h0 h1
  have v4 := wp.wh
  unfold aNm
  simp only [hA.lk m h0 h1, hA.ce m h0 h1, hA.dp m h0 h1, hA.bo m h0 h1, hA.hr, hA.sn, hP.w, hP.we _ u1.1 u1.2, hP.ga _ u1.1 u1.2, hP.ho _ u1.1 u1.2, hP.fo _ u1.1 u1.2, hP.gr _ u2.1 (show A.ce m < 48 by omega)]
/-- what holds of a side -/
def GC (s p : Int) (P : aP) (A : aM) (σ : sx_S) : Prop := (PT σ) ∧ (σ s 1 = p) ∧ (cP p σ P) ∧ (cS s σ A) ∧ (SCC σ)
theorem GC.pt {s p : Int} {P : aP} {A : aM} {σ : sx_S} (h : GC s p P A σ) : PT σ := h.1
theorem GC.ep {s p : Int} {P : aP} {A : aM} {σ : sx_S} (h : GC s p P A σ) : σ s 1 = p := h.2.1
theorem GC.cp {s p : Int} {P : aP} {A : aM} {σ : sx_S} (h : GC s p P A σ) : cP p σ P := h.2.2.1
theorem GC.cs {s p : Int} {P : aP} {A : aM} {σ : sx_S} (h : GC s p P A σ) : cS s σ A := h.2.2.2.1
theorem GC.sc {s p : Int} {P : aP} {A : aM} {σ : sx_S} (h : GC s p P A σ) : SCC σ := h.2.2.2.2
theorem GC.mk {s p : Int} {P : aP} {A : aM} {σ : sx_S} (pt9 : PT σ) (ep9 : σ s 1 = p) (cp9 : cP p σ P) (cs9 : cS s σ A) (sc9 : SCC σ) : GC s p P A σ := ⟨pt9, ep9, cp9, cs9, sc9⟩
def GR (b : Int) (P : aP) (A : aM) (σ : sx_S) : Prop := (PT σ) ∧ (rP σ P) ∧ (rS b σ A) ∧ (SCK σ)
theorem GR.pt {b : Int} {P : aP} {A : aM} {σ : sx_S} (h : GR b P A σ) : PT σ := h.1
theorem GR.rp {b : Int} {P : aP} {A : aM} {σ : sx_S} (h : GR b P A σ) : rP σ P := h.2.1
theorem GR.rs {b : Int} {P : aP} {A : aM} {σ : sx_S} (h : GR b P A σ) : rS b σ A := h.2.2.1
theorem GR.sc {b : Int} {P : aP} {A : aM} {σ : sx_S} (h : GR b P A σ) : SCK σ := h.2.2.2
theorem GR.mk {b : Int} {P : aP} {A : aM} {σ : sx_S} (pt9 : PT σ) (rp9 : rP σ P) (rs9 : rS b σ A) (sc9 : SCK σ) : GR b P A σ := ⟨pt9, rp9, rs9, sc9⟩
theorem cP.pd (wp : wP P) (h : cP p σ P) : PD σ p := by unfold PD; rw [h.w, h.h]; exact ⟨wp.w.1, wp.w.2, wp.h.1, wp.h.2⟩
theorem rP.rd (wp : wP P) (h : rP σ P) : RD σ := by unfold RD; rw [h.w, h.h]; exact ⟨wp.w.1, wp.w.2, wp.h.1, wp.h.2⟩
def fHour (P : aP) (A : aM) : aM := (aM.mk A.n (A.hr + 1) A.sn A.la A.lk A.ce A.wy A.bo (fHr A.dp A.cv (fun m => P.lw 0 (aNm P A m))) A.cv A.ow A.bl)
def fFall (x : Int) (A : aM) : aM := (aM.mk A.n A.hr (fMn (A.sn + x)) A.la A.lk A.ce A.wy A.bo A.dp (fun j => A.cv j + x) A.ow A.bl)
def fThaw (x : Int) (A : aM) : aM := (aM.mk A.n A.hr (fMax0 (A.sn - x)) A.la A.lk A.ce A.wy A.bo (fMd A.dp A.cv x) (fMc A.dp A.cv x) A.ow A.bl)
theorem fHr_bd {d v : Int → Int} {o : Int → Option Int} {m : Int} (h : 0 ≤ d m ∧ d m ≤ 99) : 0 ≤ fHr d v o m ∧ fHr d v o m ≤ 99 := by
  have h9 := fBl_bd (o := o m) (lo := 0) (df := 0) (by decide) (by decide)
  unfold fHr fMax0
  repeat (first | omega | split)
theorem wM.hour (h : wM P A c) (hh : A.hr ≤ 9998) : wM P (fHour P A) c := wM.mk (h.n) (⟨by have := h.hr; show 0 ≤ A.hr + 1; omega, by show A.hr + 1 ≤ 9999; omega⟩) (h.sn) (h.la) (h.lk) (h.ce) (h.wy) (h.bo) (fun m h0 h1 => (fHr_bd (h.dp m h0 h1) : 0 ≤ fHr A.dp A.cv (fun m => P.lw 0 (aNm P A m)) m ∧ fHr A.dp A.cv (fun m => P.lw 0 (aNm P A m)) m ≤ 99)) (h.cv) (h.ow) (h.bl)
theorem fMax0_b2 {x y : Int} (h0 : 0 ≤ y) (h : x ≤ y) : 0 ≤ fMax0 x ∧ fMax0 x ≤ y := by unfold fMax0; split <;> omega
theorem wM.fall (h : wM P A c) {x : Int} (hx : 0 ≤ x) : wM P (fFall x A) (c + x) := wM.mk (h.n) (h.hr) (fMn_bd (by have := h.sn; omega)) (h.la) (h.lk) (h.ce) (h.wy) (h.bo) (h.dp) (fun m h0 h1 => by have := h.cv m h0 h1; show 0 ≤ A.cv m + x ∧ A.cv m + x ≤ c + x; omega) (h.ow) (h.bl)
theorem fMc_bd {d v : Int → Int} {x c m : Int} (hx : 0 ≤ x) (h : 0 ≤ v m ∧ v m ≤ c) : 0 ≤ fMc d v x m ∧ fMc d v x m ≤ c := by
  unfold fMc fMax0; repeat (first | omega | split)
theorem fMd_bd {d v : Int → Int} {x m : Int} (h : 0 ≤ d m ∧ d m ≤ 99) : 0 ≤ fMd d v x m ∧ fMd d v x m ≤ 99 := by
  unfold fMd fMax0; repeat (first | omega | split)
theorem wM.thaw (h : wM P A c) {x : Int} (hx : 0 ≤ x) : wM P (fThaw x A) c := wM.mk (h.n) (h.hr) (fMax0_b2 (y := 9999) (by decide) (by have := h.sn; omega)) (h.la) (h.lk) (h.ce) (h.wy) (h.bo) (fun m h0 h1 => (fMd_bd (h.dp m h0 h1) : 0 ≤ fMd A.dp A.cv x m ∧ fMd A.dp A.cv x m ≤ 99)) (fun m h0 h1 => (fMc_bd hx (h.cv m h0 h1) : 0 ≤ fMc A.dp A.cv x m ∧ fMc A.dp A.cv x m ≤ c)) (h.ow) (h.bl)
theorem wM.up (h : wM P A c) {d : Int} (hd : c ≤ d) : wM P A d := wM.mk h.n h.hr h.sn h.la h.lk h.ce h.wy h.bo h.dp (fun m h0 h1 => by have := h.cv m h0 h1; omega) h.ow h.bl
end SXL1
