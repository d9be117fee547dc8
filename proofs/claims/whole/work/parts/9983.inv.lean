/-! THE INVARIANT between calls: both objects, one picture -/
section SXU1
variable {X : sx_X} {Q : sx_R} {σ σ0 σ' σ1 σ2 : sx_S}
def jC (p : Int) (P : aP) (A : aM) (W : aW) (B : aM) (V : aW) (C : aC) (kp z nx n9 f1 f2 : Int) (tx : Int → Int) (σ : sx_S) : Prop := (GC 40 p P A σ) ∧ (cW P 40 σ W) ∧ (σ 0 2 = p) ∧ (σ 0 3 = 19 - p) ∧ (σ 0 9 = kp) ∧ (kp = 1 → σ 55 1 = p ∧ cS 55 σ B ∧ cW P 55 σ V) ∧ (σ 85 0 = z) ∧ (σ 85 1 = nx) ∧ (cC σ C) ∧ (σ 0 1 = n9) ∧ (∀ j : Int, 0 ≤ j → j < n9 → sx_and (σ 1 j) 255 = tx j) ∧ (σ 32 0 = f1) ∧ (σ 32 1 = f2) ∧ (hHb (19 - p) σ)
theorem jC.g {p : Int} {P : aP} {A : aM} {W : aW} {B : aM} {V : aW} {C : aC} {kp z nx n9 f1 f2 : Int} {tx : Int → Int} {σ : sx_S} (h : jC p P A W B V C kp z nx n9 f1 f2 tx σ) : GC 40 p P A σ := h.1
theorem jC.w {p : Int} {P : aP} {A : aM} {W : aW} {B : aM} {V : aW} {C : aC} {kp z nx n9 f1 f2 : Int} {tx : Int → Int} {σ : sx_S} (h : jC p P A W B V C kp z nx n9 f1 f2 tx σ) : cW P 40 σ W := h.2.1
theorem jC.e2 {p : Int} {P : aP} {A : aM} {W : aW} {B : aM} {V : aW} {C : aC} {kp z nx n9 f1 f2 : Int} {tx : Int → Int} {σ : sx_S} (h : jC p P A W B V C kp z nx n9 f1 f2 tx σ) : σ 0 2 = p := h.2.2.1
theorem jC.e3 {p : Int} {P : aP} {A : aM} {W : aW} {B : aM} {V : aW} {C : aC} {kp z nx n9 f1 f2 : Int} {tx : Int → Int} {σ : sx_S} (h : jC p P A W B V C kp z nx n9 f1 f2 tx σ) : σ 0 3 = 19 - p := h.2.2.2.1
theorem jC.e9 {p : Int} {P : aP} {A : aM} {W : aW} {B : aM} {V : aW} {C : aC} {kp z nx n9 f1 f2 : Int} {tx : Int → Int} {σ : sx_S} (h : jC p P A W B V C kp z nx n9 f1 f2 tx σ) : σ 0 9 = kp := h.2.2.2.2.1
theorem jC.im {p : Int} {P : aP} {A : aM} {W : aW} {B : aM} {V : aW} {C : aC} {kp z nx n9 f1 f2 : Int} {tx : Int → Int} {σ : sx_S} (h : jC p P A W B V C kp z nx n9 f1 f2 tx σ) : kp = 1 → σ 55 1 = p ∧ cS 55 σ B ∧ cW P 55 σ V := h.2.2.2.2.2.1
theorem jC.ez {p : Int} {P : aP} {A : aM} {W : aW} {B : aM} {V : aW} {C : aC} {kp z nx n9 f1 f2 : Int} {tx : Int → Int} {σ : sx_S} (h : jC p P A W B V C kp z nx n9 f1 f2 tx σ) : σ 85 0 = z := h.2.2.2.2.2.2.1
theorem jC.ex {p : Int} {P : aP} {A : aM} {W : aW} {B : aM} {V : aW} {C : aC} {kp z nx n9 f1 f2 : Int} {tx : Int → Int} {σ : sx_S} (h : jC p P A W B V C kp z nx n9 f1 f2 tx σ) : σ 85 1 = nx := h.2.2.2.2.2.2.2.1
theorem jC.c {p : Int} {P : aP} {A : aM} {W : aW} {B : aM} {V : aW} {C : aC} {kp z nx n9 f1 f2 : Int} {tx : Int → Int} {σ : sx_S} (h : jC p P A W B V C kp z nx n9 f1 f2 tx σ) : cC σ C := h.2.2.2.2.2.2.2.2.1
theorem jC.en {p : Int} {P : aP} {A : aM} {W : aW} {B : aM} {V : aW} {C : aC} {kp z nx n9 f1 f2 : Int} {tx : Int → Int} {σ : sx_S} (h : jC p P A W B V C kp z nx n9 f1 f2 tx σ) : σ 0 1 = n9 := h.2.2.2.2.2.2.2.2.2.1
theorem jC.tp {p : Int} {P : aP} {A : aM} {W : aW} {B : aM} {V : aW} {C : aC} {kp z nx n9 f1 f2 : Int} {tx : Int → Int} {σ : sx_S} (h : jC p P A W B V C kp z nx n9 f1 f2 tx σ) : ∀ j : Int, 0 ≤ j → j < n9 → sx_and (σ 1 j) 255 = tx j := h.2.2.2.2.2.2.2.2.2.2.1
theorem jC.x1 {p : Int} {P : aP} {A : aM} {W : aW} {B : aM} {V : aW} {C : aC} {kp z nx n9 f1 f2 : Int} {tx : Int → Int} {σ : sx_S} (h : jC p P A W B V C kp z nx n9 f1 f2 tx σ) : σ 32 0 = f1 := h.2.2.2.2.2.2.2.2.2.2.2.1
theorem jC.x2 {p : Int} {P : aP} {A : aM} {W : aW} {B : aM} {V : aW} {C : aC} {kp z nx n9 f1 f2 : Int} {tx : Int → Int} {σ : sx_S} (h : jC p P A W B V C kp z nx n9 f1 f2 tx σ) : σ 32 1 = f2 := h.2.2.2.2.2.2.2.2.2.2.2.2.1
theorem jC.hb {p : Int} {P : aP} {A : aM} {W : aW} {B : aM} {V : aW} {C : aC} {kp z nx n9 f1 f2 : Int} {tx : Int → Int} {σ : sx_S} (h : jC p P A W B V C kp z nx n9 f1 f2 tx σ) : hHb (19 - p) σ := h.2.2.2.2.2.2.2.2.2.2.2.2.2
theorem jC.mk {p : Int} {P : aP} {A : aM} {W : aW} {B : aM} {V : aW} {C : aC} {kp z nx n9 f1 f2 : Int} {tx : Int → Int} {σ : sx_S} (g9 : GC 40 p P A σ) (w9 : cW P 40 σ W) (e29 : σ 0 2 = p) (e39 : σ 0 3 = 19 - p) (e99 : σ 0 9 = kp) (im9 : kp = 1 → σ 55 1 = p ∧ cS 55 σ B ∧ cW P 55 σ V) (ez9 : σ 85 0 = z) (ex9 : σ 85 1 = nx) (c9 : cC σ C) (en9 : σ 0 1 = n9) (tp9 : ∀ j : Int, 0 ≤ j → j < n9 → sx_and (σ 1 j) 255 = tx j) (x19 : σ 32 0 = f1) (x29 : σ 32 1 = f2) (hb9 : hHb (19 - p) σ) : jC p P A W B V C kp z nx n9 f1 f2 tx σ := ⟨g9, w9, e29, e39, e99, im9, ez9, ex9, c9, en9, tp9, x19, x29, hb9⟩
def jR (P : aP) (A : aM) (W : aW) (B : aM) (V : aW) (C : aC) (kp z n9 f1 f2 : Int) (tx : Int → Int) (σ : sx_S) : Prop := (GR 0 P A σ) ∧ (rW P σ W) ∧ (σ 124 85 = kp) ∧ (kp = 1 → rI P σ B V) ∧ (σ 124 83 = z) ∧ (rC σ C) ∧ (σ 124 1 = n9) ∧ (∀ j : Int, 0 ≤ j → j < n9 → σ 125 j = tx j) ∧ (σ 124 4 = f1) ∧ (σ 124 5 = f2) ∧ (hB5 σ) ∧ (rWd σ)
theorem jR.g {P : aP} {A : aM} {W : aW} {B : aM} {V : aW} {C : aC} {kp z n9 f1 f2 : Int} {tx : Int → Int} {σ : sx_S} (h : jR P A W B V C kp z n9 f1 f2 tx σ) : GR 0 P A σ := h.1
theorem jR.w {P : aP} {A : aM} {W : aW} {B : aM} {V : aW} {C : aC} {kp z n9 f1 f2 : Int} {tx : Int → Int} {σ : sx_S} (h : jR P A W B V C kp z n9 f1 f2 tx σ) : rW P σ W := h.2.1
theorem jR.e9 {P : aP} {A : aM} {W : aW} {B : aM} {V : aW} {C : aC} {kp z n9 f1 f2 : Int} {tx : Int → Int} {σ : sx_S} (h : jR P A W B V C kp z n9 f1 f2 tx σ) : σ 124 85 = kp := h.2.2.1
theorem jR.im {P : aP} {A : aM} {W : aW} {B : aM} {V : aW} {C : aC} {kp z n9 f1 f2 : Int} {tx : Int → Int} {σ : sx_S} (h : jR P A W B V C kp z n9 f1 f2 tx σ) : kp = 1 → rI P σ B V := h.2.2.2.1
theorem jR.ez {P : aP} {A : aM} {W : aW} {B : aM} {V : aW} {C : aC} {kp z n9 f1 f2 : Int} {tx : Int → Int} {σ : sx_S} (h : jR P A W B V C kp z n9 f1 f2 tx σ) : σ 124 83 = z := h.2.2.2.2.1
theorem jR.c {P : aP} {A : aM} {W : aW} {B : aM} {V : aW} {C : aC} {kp z n9 f1 f2 : Int} {tx : Int → Int} {σ : sx_S} (h : jR P A W B V C kp z n9 f1 f2 tx σ) : rC σ C := h.2.2.2.2.2.1
theorem jR.en {P : aP} {A : aM} {W : aW} {B : aM} {V : aW} {C : aC} {kp z n9 f1 f2 : Int} {tx : Int → Int} {σ : sx_S} (h : jR P A W B V C kp z n9 f1 f2 tx σ) : σ 124 1 = n9 := h.2.2.2.2.2.2.1
theorem jR.tp {P : aP} {A : aM} {W : aW} {B : aM} {V : aW} {C : aC} {kp z n9 f1 f2 : Int} {tx : Int → Int} {σ : sx_S} (h : jR P A W B V C kp z n9 f1 f2 tx σ) : ∀ j : Int, 0 ≤ j → j < n9 → σ 125 j = tx j := h.2.2.2.2.2.2.2.1
theorem jR.x1 {P : aP} {A : aM} {W : aW} {B : aM} {V : aW} {C : aC} {kp z n9 f1 f2 : Int} {tx : Int → Int} {σ : sx_S} (h : jR P A W B V C kp z n9 f1 f2 tx σ) : σ 124 4 = f1 := h.2.2.2.2.2.2.2.2.1
theorem jR.x2 {P : aP} {A : aM} {W : aW} {B : aM} {V : aW} {C : aC} {kp z n9 f1 f2 : Int} {tx : Int → Int} {σ : sx_S} (h : jR P A W B V C kp z n9 f1 f2 tx σ) : σ 124 5 = f2 := h.2.2.2.2.2.2.2.2.2.1
theorem jR.hb {P : aP} {A : aM} {W : aW} {B : aM} {V : aW} {C : aC} {kp z n9 f1 f2 : Int} {tx : Int → Int} {σ : sx_S} (h : jR P A W B V C kp z n9 f1 f2 tx σ) : hB5 σ := h.2.2.2.2.2.2.2.2.2.2.1
theorem jR.wd {P : aP} {A : aM} {W : aW} {B : aM} {V : aW} {C : aC} {kp z n9 f1 f2 : Int} {tx : Int → Int} {σ : sx_S} (h : jR P A W B V C kp z n9 f1 f2 tx σ) : rWd σ := h.2.2.2.2.2.2.2.2.2.2.2
theorem jR.mk {P : aP} {A : aM} {W : aW} {B : aM} {V : aW} {C : aC} {kp z n9 f1 f2 : Int} {tx : Int → Int} {σ : sx_S} (g9 : GR 0 P A σ) (w9 : rW P σ W) (e99 : σ 124 85 = kp) (im9 : kp = 1 → rI P σ B V) (ez9 : σ 124 83 = z) (c9 : rC σ C) (en9 : σ 124 1 = n9) (tp9 : ∀ j : Int, 0 ≤ j → j < n9 → σ 125 j = tx j) (x19 : σ 124 4 = f1) (x29 : σ 124 5 = f2) (hb9 : hB5 σ) (wd9 : rWd σ) : jR P A W B V C kp z n9 f1 f2 tx σ := ⟨g9, w9, e99, im9, ez9, c9, en9, tp9, x19, x29, hb9, wd9⟩
def jW (k p : Int) (P : aP) (A : aM) (W : aW) (B : aM) (V : aW) (C : aC) (kp z nx n9 : Int) : Prop := (isP p) ∧ (wP P) ∧ (wM P A (99 * k)) ∧ (wW P W k) ∧ (wM P B (99 * k)) ∧ (wW P V k) ∧ (wC P C) ∧ (kp = 0 ∨ kp = 1) ∧ (0 ≤ z ∧ z ≤ 20) ∧ (0 ≤ nx ∧ nx < 20) ∧ (0 ≤ n9 ∧ n9 ≤ 700) ∧ (0 ≤ k)
theorem jW.p {k p : Int} {P : aP} {A : aM} {W : aW} {B : aM} {V : aW} {C : aC} {kp z nx n9 : Int} (h : jW k p P A W B V C kp z nx n9) : isP p := h.1
theorem jW.wp {k p : Int} {P : aP} {A : aM} {W : aW} {B : aM} {V : aW} {C : aC} {kp z nx n9 : Int} (h : jW k p P A W B V C kp z nx n9) : wP P := h.2.1
theorem jW.wm {k p : Int} {P : aP} {A : aM} {W : aW} {B : aM} {V : aW} {C : aC} {kp z nx n9 : Int} (h : jW k p P A W B V C kp z nx n9) : wM P A (99 * k) := h.2.2.1
theorem jW.ww {k p : Int} {P : aP} {A : aM} {W : aW} {B : aM} {V : aW} {C : aC} {kp z nx n9 : Int} (h : jW k p P A W B V C kp z nx n9) : wW P W k := h.2.2.2.1
theorem jW.wb {k p : Int} {P : aP} {A : aM} {W : aW} {B : aM} {V : aW} {C : aC} {kp z nx n9 : Int} (h : jW k p P A W B V C kp z nx n9) : wM P B (99 * k) := h.2.2.2.2.1
theorem jW.wv {k p : Int} {P : aP} {A : aM} {W : aW} {B : aM} {V : aW} {C : aC} {kp z nx n9 : Int} (h : jW k p P A W B V C kp z nx n9) : wW P V k := h.2.2.2.2.2.1
theorem jW.wc {k p : Int} {P : aP} {A : aM} {W : aW} {B : aM} {V : aW} {C : aC} {kp z nx n9 : Int} (h : jW k p P A W B V C kp z nx n9) : wC P C := h.2.2.2.2.2.2.1
theorem jW.kp {k p : Int} {P : aP} {A : aM} {W : aW} {B : aM} {V : aW} {C : aC} {kp z nx n9 : Int} (h : jW k p P A W B V C kp z nx n9) : kp = 0 ∨ kp = 1 := h.2.2.2.2.2.2.2.1
theorem jW.z {k p : Int} {P : aP} {A : aM} {W : aW} {B : aM} {V : aW} {C : aC} {kp z nx n9 : Int} (h : jW k p P A W B V C kp z nx n9) : 0 ≤ z ∧ z ≤ 20 := h.2.2.2.2.2.2.2.2.1
theorem jW.x {k p : Int} {P : aP} {A : aM} {W : aW} {B : aM} {V : aW} {C : aC} {kp z nx n9 : Int} (h : jW k p P A W B V C kp z nx n9) : 0 ≤ nx ∧ nx < 20 := h.2.2.2.2.2.2.2.2.2.1
theorem jW.nn {k p : Int} {P : aP} {A : aM} {W : aW} {B : aM} {V : aW} {C : aC} {kp z nx n9 : Int} (h : jW k p P A W B V C kp z nx n9) : 0 ≤ n9 ∧ n9 ≤ 700 := h.2.2.2.2.2.2.2.2.2.2.1
theorem jW.k {k p : Int} {P : aP} {A : aM} {W : aW} {B : aM} {V : aW} {C : aC} {kp z nx n9 : Int} (h : jW k p P A W B V C kp z nx n9) : 0 ≤ k := h.2.2.2.2.2.2.2.2.2.2.2
theorem jW.mk {k p : Int} {P : aP} {A : aM} {W : aW} {B : aM} {V : aW} {C : aC} {kp z nx n9 : Int} (p9 : isP p) (wp9 : wP P) (wm9 : wM P A (99 * k)) (ww9 : wW P W k) (wb9 : wM P B (99 * k)) (wv9 : wW P V k) (wc9 : wC P C) (kp9 : kp = 0 ∨ kp = 1) (z9 : 0 ≤ z ∧ z ≤ 20) (x9 : 0 ≤ nx ∧ nx < 20) (nn9 : 0 ≤ n9 ∧ n9 ≤ 700) (k9 : 0 ≤ k) : jW k p P A W B V C kp z nx n9 := ⟨p9, wp9, wm9, ww9, wb9, wv9, wc9, kp9, z9, x9, nn9, k9⟩
def Inv (k : Int) (σ : sx_S) : Prop := ∃ (p : Int) (P : aP) (A : aM) (W : aW) (B : aM) (V : aW) (C : aC) (kp z nx n9 f1 f2 : Int) (tx : Int → Int), jW k p P A W B V C kp z nx n9 ∧ jC p P A W B V C kp z nx n9 f1 f2 tx σ ∧ jR P A W B V C kp z n9 f1 f2 tx σ ∧ LG P σ k 0 z.toNat nx (uOf A W)
section SXU2
variable {k p : Int} {P : aP} {A A' : aM} {W W' : aW} {B : aM} {V : aW} {C : aC} {kp z z' nx nx' n9 f1 f2 : Int} {tx : Int → Int}
theorem wW.up (h : wW P W k) {d : Int} (hd : k ≤ d) : wW P W d := wW.mk h.at1 (fun w h0 h1 => by have := h.st w h0 h1; omega) h.bt (fun w h0 h1 => by have := h.db w h0 h1; omega) (by have := h.wi; omega)
theorem jW.up (h : jW k p P A W B V C kp z nx n9) : jW (k + 1) p P A W B V C kp z nx n9 := jW.mk h.p h.wp (h.wm.up (by omega)) (h.ww.up (by omega)) (h.wb.up (by omega)) (h.wv.up (by omega)) h.wc h.kp h.z h.x h.nn (by have := h.k; omega)
abbrev kDc (a i : Int) : Prop := (a = 0 ∧ (i = 1 ∨ i = 2 ∨ i = 3 ∨ i = 9)) ∨ a = 1 ∨ a = 10 ∨ a = 25 ∨ (a = 32 ∧ (i = 0 ∨ i = 1)) ∨ (55 ≤ a ∧ a ≤ 68) ∨ (a = 110 ∧ (i = 0 ∨ i = 1)) ∨ (111 ≤ a ∧ a ≤ 115)
abbrev kCc (a i : Int) : Prop := kDc a i ∨ (41 ≤ a ∧ a ≤ 43) ∨ a = 53 ∨ (a = 40 ∧ i = 9) ∨ (a = 85 ∧ (i = 0 ∨ i = 1))
abbrev kEr (a i : Int) : Prop := a = 125 ∨ a = 126 ∨ (a = 134 ∧ 5 ≤ i) ∨ a = 161 ∨ (168 ≤ a ∧ a ≤ 170) ∨ (a = 124 ∧ (i = 1 ∨ i = 4 ∨ i = 5 ∨ i = 74 ∨ i = 75 ∨ i = 85 ∨ (89 ≤ i ∧ i ≤ 92)))
abbrev kRr (a i : Int) : Prop := kEr a i ∨ (157 ≤ a ∧ a ≤ 160) ∨ (a = 124 ∧ (i = 72 ∨ i = 83))
theorem jC.ofW (hp : isP p) (h : jC p P A W B V C kp z nx n9 f1 f2 tx σ) (g : GC 40 p P A' σ') (w : cW P 40 σ' W') (ez : σ' 85 0 = z') (ex : σ' 85 1 = nx') (e : ∀ a i : Int, kDc a i → σ' a i = σ a i) : jC p P A' W' B V C kp z' nx' n9 f1 f2 tx σ' := by
  refine jC.mk g w ((e _ _ (by decide)).trans h.e2) ((e _ _ (by decide)).trans h.e3) ((e _ _ (by decide)).trans h.e9) (fun q => ?_) ez ex (h.c.of (fun a i z => e _ _ (by unfold kDc; omega))) ((e _ _ (by decide)).trans h.en) (fun j h0 h1 => by rw [e _ _ (by unfold kDc; omega)]; exact h.tp j h0 h1) ((e _ _ (by decide)).trans h.x1) ((e _ _ (by decide)).trans h.x2) (fun f h0 h1 => ?_)
  · obtain ⟨q1, q2, q3⟩ := h.im q
    exact ⟨(e _ _ (by decide)).trans q1, q2.of (fun a i z1 z2 => e _ _ (by unfold kDc; omega)), q3.of (fun a i z1 => e _ _ (by unfold kDc; omega))⟩
  · rw [e (19 - p + 8) f (by unfold kDc; rcases hp with rfl | rfl <;> omega)]
    exact h.hb f h0 h1
theorem jC.of (hp : isP p) (h : jC p P A W B V C kp z nx n9 f1 f2 tx σ) (g : GC 40 p P A' σ') (e : ∀ a i : Int, kCc a i → σ' a i = σ a i) : jC p P A' W B V C kp z nx n9 f1 f2 tx σ' :=
  h.ofW hp g (h.w.of (fun a i z => e _ _ (by unfold kCc; omega))) ((e _ _ (by decide)).trans h.ez) ((e _ _ (by decide)).trans h.ex) (fun a i z => e _ _ (Or.inl z))
theorem jC.rf (hp : isP p) (h : jC p P A W B V C kp z nx n9 f1 f2 tx σ) (hT : PT σ') (e : ∀ a i : Int, a < 124 → σ' a i = σ a i) : jC p P A W B V C kp z nx n9 f1 f2 tx σ' :=
  h.of hp (h.g.of (Or.inl rfl) hp hT (fun a i z1 z2 => e _ _ (by omega))) (fun a i z => e _ _ (by unfold kCc kDc at z; omega))
theorem jR.ofW (h : jR P A W B V C kp z n9 f1 f2 tx σ) (g : GR 0 P A' σ') (w : rW P σ' W') (ez : σ' 124 83 = z') (e : ∀ a i : Int, kEr a i → σ' a i = σ a i) : jR P A' W' B V C kp z' n9 f1 f2 tx σ' :=
  jR.mk g w ((e _ _ (by decide)).trans h.e9) (fun q => (h.im q).of (fun a i z => e _ _ (by unfold kEr; omega))) ez (h.c.of (fun a i z => e _ _ (by unfold kEr; omega))) ((e _ _ (by decide)).trans h.en) (fun j h0 h1 => by rw [e _ _ (by unfold kEr; omega)]; exact h.tp j h0 h1) ((e _ _ (by decide)).trans h.x1) ((e _ _ (by decide)).trans h.x2) (fun f h0 h1 => by rw [e _ _ (by unfold kEr; omega)]; exact h.hb f h0 h1) (fun j h0 h1 => by rw [e _ _ (by unfold kEr; omega)]; exact h.wd j h0 h1)
theorem jR.of (h : jR P A W B V C kp z n9 f1 f2 tx σ) (g : GR 0 P A' σ') (e : ∀ a i : Int, kRr a i → σ' a i = σ a i) : jR P A' W B V C kp z n9 f1 f2 tx σ' :=
  h.ofW g (h.w.of (fun a i z => e _ _ (by unfold kRr; omega))) ((e _ _ (by decide)).trans h.ez) (fun a i z => e _ _ (Or.inl z))
theorem jR.cl (h : jR P A W B V C kp z n9 f1 f2 tx σ) (hT : PT σ') (e : ∀ a i : Int, 124 ≤ a → σ' a i = σ a i) : jR P A W B V C kp z n9 f1 f2 tx σ' :=
  h.of (h.g.of hT (fun a i z1 z2 => e _ _ (by omega)) (fun i z => e _ _ (by decide))) (fun a i z => e _ _ (by unfold kRr kEr at z; omega))
/-- the reference's mark of a throw, cleared -/
theorem jR.up2 (h : jR P A W B V C kp z n9 f1 f2 tx σ) {v : Int} : jR P A W B V C kp z n9 f1 f2 tx (sx_up σ 124 2 v) :=
  h.of (h.g.of (h.g.pt.up (by decide +kernel)) (fun a i z1 z2 => up_a (by omega)) (fun i z => up_n (by omega))) (fun a i z => up_n (by unfold kRr kEr at z; omega))
theorem jC.up2 (hp : isP p) (h : jC p P A W B V C kp z nx n9 f1 f2 tx σ) {v : Int} : jC p P A W B V C kp z nx n9 f1 f2 tx (sx_up σ 124 2 v) :=
  h.rf hp (h.g.pt.up (by decide +kernel)) (fun a i z => up_a (by omega))
theorem Inv.mk' {k : Int} (w : jW (k + 1) p P A W B V C kp z nx n9) (c : jC p P A W B V C kp z nx n9 f1 f2 tx σ) (r : jR P A W B V C kp z n9 f1 f2 tx σ) (l : LG P σ (k + 1) 0 z.toNat nx (uOf A W)) : Inv (k + 1) σ := ⟨p, P, A, W, B, V, C, kp, z, nx, n9, f1, f2, tx, w, c, r, l⟩
theorem LG.keep (wp : wP P) (hx : 0 ≤ nx ∧ nx < 20) (l : LG P σ k 0 z.toNat nx (uOf A W)) (e : ∀ a i : Int, (86 ≤ a ∧ a ≤ 109) ∨ a = 167 → σ' a i = σ a i) : LG P σ' k 0 z.toNat nx (uOf A W) :=
  LG_of wp.wa.2 (fun a i z1 z2 => e _ _ (Or.inl ⟨z1, z2⟩)) (fun y => e _ _ (Or.inr rfl)) _ _ _ hx l
theorem LG.next (l : LG P σ k 0 z.toNat nx (uOf A W)) : LG P σ (k + 1) 0 z.toNat nx (uOf A W) := LG_K (by omega) _ _ _ l
end SXU2
/-- one call on both: the class's answer is the reference's, and the picture holds again -/
def jI (X : sx_X) (i j : Nat) (vs : List sx_V) (k : Int) (σ : sx_S) : Prop := sx_Run X i (.inr (.inr 0) :: vs) shM σ (fun r _ σ1 => ∃ v : Int, r = some (.inl v) ∧ sx_Run X j (.inr (.inr 124) :: vs) shM σ1 (fun r2 _ σ2 => r2 = some (.inl v) ∧ Inv (k + 1) σ2))
def jJ (X : sx_X) (i j : Nat) (vs : List sx_V) (k : Int) (σ : sx_S) : Prop := sx_Run X i (.inr (.inr 0) :: vs) shM σ (fun r _ σ1 => ∃ v : Int, r = some (.inr (.inl v)) ∧ sx_Run X j (.inr (.inr 124) :: vs) shM σ1 (fun r2 _ σ2 => r2 = some (.inr (.inl v)) ∧ Inv (k + 1) σ2))
end SXU1
