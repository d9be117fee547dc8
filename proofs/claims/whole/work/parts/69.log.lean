/-! WHAT CAN BE UNDONE: the log's rows against the snapshots -/
section SXM1
def aU : Type := (Int → Int) × (Int → Int) × (Int → Int) × (Int) × (Int → Int)
def aU.at1 (A : aU) : Int → Int := A.1
def aU.st (A : aU) : Int → Int := A.2.1
def aU.bt (A : aU) : Int → Int := A.2.2.1
def aU.n (A : aU) : Int := A.2.2.2.1
def aU.bl (A : aU) : Int → Int := A.2.2.2.2
def aU.mk (at19 : Int → Int) (st9 : Int → Int) (bt9 : Int → Int) (n9 : Int) (bl9 : Int → Int) : aU := (at19, st9, bt9, n9, bl9)
variable {P : aP} {σ σ' : sx_S} {K base d q r : Int} {U V : aU}
def fPv (q : Int) : Int := if 0 < q then q - 1 else 19
def fNx (q : Int) : Int := if q + 1 < 20 then q + 1 else 0
theorem fPv_bd (h : 0 ≤ q ∧ q < 20) : 0 ≤ fPv q ∧ fPv q < 20 := by unfold fPv; split <;> omega
theorem fNx_bd (h : 0 ≤ q ∧ q < 20) : 0 ≤ fNx q ∧ fNx q < 20 := by unfold fNx; split <;> omega
theorem fPv_nx (h : 0 ≤ q ∧ q < 20) : fPv (fNx q) = q := by unfold fPv fNx; repeat (first | omega | split)
/-- how many steps back from nx to q -/
def fDs (nx q : Int) : Int := if q < nx then nx - 1 - q else nx + 19 - q
theorem fDs_pv {nx : Int} (h : 0 ≤ nx ∧ nx < 20) (hq : 0 ≤ q ∧ q < 20) (h1 : 1 ≤ fDs nx q) : ¬ fPv nx = q ∧ fDs (fPv nx) q = fDs nx q - 1 := by
  unfold fDs at h1
  unfold fDs fPv
  constructor <;> (repeat (first | omega | split at h1 | split))
theorem fDs_self {nx : Int} : fDs nx nx = 19 := by unfold fDs; split <;> omega
def fFx (row : Int → Int) : Nat → (Int → Int) → Int → Int
  | 0, f => f
  | k + 1, f => fun m => if m = row (k : Int) then 0 else fFx row k f m
theorem fFx_cg {row f g : Int → Int} {m : Int} (h : f m = g m) : ∀ k : Nat, fFx row k f m = fFx row k g m
  | 0 => h
  | k + 1 => by show (if _ then _ else _) = (if _ then _ else _); rw [fFx_cg h k]
def fBk (σ : sx_S) (q : Int) (U : aU) : aU := if σ 86 q = 2 then aU.mk U.at1 U.st (fun w => if w = σ 87 q then σ 88 q else U.bt w) U.n U.bl else if σ 86 q = 3 then aU.mk U.at1 U.st U.bt U.n (fFx (σ (90 + q)) (σ 88 q).toNat U.bl) else aU.mk (fun w => if w = σ 87 q then σ 88 q else U.at1 w) (fun w => if w = σ 87 q then U.st w - 1 else U.st w) U.bt (U.n - σ 86 q) U.bl
theorem fBk_cg (h1 : σ' 86 q = σ 86 q) (h2 : σ' 87 q = σ 87 q) (h3 : σ' 88 q = σ 88 q) (h4 : σ' (90 + q) = σ (90 + q)) : fBk σ' q U = fBk σ q U := by unfold fBk; rw [h1, h2, h3, h4]
def rU (P : aP) (σ : sx_S) (r : Int) (U : aU) : Prop := (∀ w : Int, 0 ≤ w → w < P.wa → σ 167 (106 * r + w) = U.at1 w ∧ σ 167 (106 * r + 5 + w) = U.st w ∧ σ 167 (106 * r + 10 + w) = U.bt w) ∧ σ 167 (106 * r + 15) = U.n ∧ ∀ m : Int, 0 ≤ m → m < U.n → σ 167 (106 * r + 16 + m) = U.bl m
def wU (P : aP) (U : aU) (K : Int) : Prop := (∀ w : Int, 0 ≤ w → w < P.wa → (0 ≤ U.at1 w ∧ U.at1 w < P.w * P.h) ∧ (0 ≤ U.st w ∧ U.st w ≤ K) ∧ (0 ≤ U.bt w ∧ U.bt w < P.wa)) ∧ (0 ≤ U.n ∧ U.n ≤ 90) ∧ ∀ m : Int, 0 ≤ m → m < U.n → U.bl m = 0 ∨ U.bl m = 1
/-- alike where it is looked at -/
def eU (P : aP) (U V : aU) : Prop := (∀ w : Int, 0 ≤ w → w < P.wa → V.at1 w = U.at1 w ∧ V.st w = U.st w ∧ V.bt w = U.bt w) ∧ V.n = U.n ∧ ∀ m : Int, 0 ≤ m → m < U.n → V.bl m = U.bl m
theorem eU.ru (e : eU P U V) (h : rU P σ r U) : rU P σ r V := by
  obtain ⟨e1, e2, e3⟩ := e
  obtain ⟨h1, h2, h3⟩ := h
  refine ⟨fun w y0 y1 => ?_, h2.trans e2.symm, fun m y0 y1 => ?_⟩
  · have a := h1 w y0 y1
    have b := e1 w y0 y1
    exact ⟨a.1.trans b.1.symm, a.2.1.trans b.2.1.symm, a.2.2.trans b.2.2.symm⟩
  · rw [e2] at y1
    exact (h3 m y0 y1).trans (e3 m y0 y1).symm
theorem eU.wu (e : eU P U V) (h : wU P U K) : wU P V K := by
  obtain ⟨e1, e2, e3⟩ := e
  obtain ⟨h1, h2, h3⟩ := h
  refine ⟨fun w y0 y1 => ?_, by rw [e2]; exact h2, fun m y0 y1 => ?_⟩
  · obtain ⟨b1, b2, b3⟩ := e1 w y0 y1
    rw [b1, b2, b3]
    exact h1 w y0 y1
  · rw [e2] at y1
    rw [e3 m y0 y1]
    exact h3 m y0 y1
def pOk (P : aP) (σ : sx_S) (q : Int) : Prop := (0 ≤ σ 86 q ∧ σ 86 q ≤ 3) ∧ (σ 86 q ≤ 2 → 0 ≤ σ 87 q ∧ σ 87 q < P.wa) ∧ (σ 86 q = 3 → (0 ≤ σ 88 q ∧ σ 88 q ≤ 8) ∧ ∀ i : Int, 0 ≤ i → i < σ 88 q → 0 ≤ σ (90 + q) i ∧ σ (90 + q) i < 90)
theorem eU.bk (e : eU P U V) (hk : pOk P σ q) : eU P (fBk σ q U) (fBk σ q V) := by
  obtain ⟨e1, e2, e3⟩ := e
  unfold fBk
  by_cases k2 : σ 86 q = 2
  · rw [if_pos k2, if_pos k2]
    refine ⟨fun w y0 y1 => ?_, e2, e3⟩
    have b := e1 w y0 y1
    refine ⟨b.1, b.2.1, ?_⟩
    show (if w = σ 87 q then σ 88 q else V.bt w) = (if w = σ 87 q then σ 88 q else U.bt w)
    rw [b.2.2]
  · rw [if_neg k2, if_neg k2]
    by_cases k3 : σ 86 q = 3
    · rw [if_pos k3, if_pos k3]
      exact ⟨e1, e2, fun m y0 y1 => fFx_cg (e3 m y0 y1) _⟩
    · rw [if_neg k3, if_neg k3]
      refine ⟨fun w y0 y1 => ?_, ?_, fun m y0 y1 => e3 m y0 ?_⟩
      · have b := e1 w y0 y1
        refine ⟨?_, ?_, b.2.2⟩
        · show (if w = σ 87 q then σ 88 q else V.at1 w) = (if w = σ 87 q then σ 88 q else U.at1 w)
          rw [b.1]
        · show (if w = σ 87 q then V.st w - 1 else V.st w) = (if w = σ 87 q then U.st w - 1 else U.st w)
          rw [b.2.1]
      · show V.n - σ 86 q = U.n - σ 86 q
        rw [e2]
      · have y2 : m < U.n - σ 86 q := y1
        have := hk.1
        omega
/-- k rows of the log end ahead of nx, and lead from U back over the snapshots base + k - 1 .. base -/
def LG (P : aP) (σ : sx_S) (K base : Int) : Nat → Int → aU → Prop
  | 0, _, _ => True
  | k + 1, nx, U => pOk P σ (fPv nx) ∧ rU P σ (base + k) (fBk σ (fPv nx) U) ∧ wU P (fBk σ (fPv nx) U) K ∧ LG P σ K base k (fPv nx) (fBk σ (fPv nx) U)
theorem LG_cg : ∀ (k : Nat) (nx : Int) (U V : aU), eU P U V → LG P σ K base k nx U → LG P σ K base k nx V
  | 0, _, _, _, _, _ => trivial
  | k + 1, nx, U, V, e, h => by
    obtain ⟨h1, h2, h3, h4⟩ := h
    have e' := e.bk h1
    exact ⟨h1, e'.ru h2, e'.wu h3, LG_cg k _ _ _ e' h4⟩
theorem wU.up {K' : Int} (h : wU P U K) (hK : K ≤ K') : wU P U K' := ⟨fun w y0 y1 => by obtain ⟨a, b, c⟩ := h.1 w y0 y1; exact ⟨a, ⟨b.1, by omega⟩, c⟩, h.2⟩
theorem LG_K {K' : Int} (hK : K ≤ K') : ∀ (k : Nat) (nx : Int) (U : aU), LG P σ K base k nx U → LG P σ K' base k nx U
  | 0, _, _, _ => trivial
  | k + 1, nx, U, h => ⟨h.1, h.2.1, h.2.2.1.up hK, LG_K hK k _ _ h.2.2.2⟩
theorem LG_drop : ∀ (k : Nat) (nx : Int) (U : aU), LG P σ K base (k + 1) nx U → LG P σ K (base + 1) k nx U
  | 0, _, _, _ => trivial
  | k + 1, nx, U, h => ⟨h.1, by have := h.2.1; rw [show base + 1 + (k : Int) = base + ((k + 1 : Nat) : Int) by omega]; exact this, h.2.2.1, LG_drop k _ _ h.2.2.2⟩
theorem pOk_cg (h1 : σ' 86 q = σ 86 q) (h2 : σ' 87 q = σ 87 q) (h3 : σ' 88 q = σ 88 q) (h4 : σ' (90 + q) = σ (90 + q)) (h : pOk P σ q) : pOk P σ' q := by
  unfold pOk; rw [h1, h2, h3, h4]; exact h
theorem rU_cg (hn : U.n ≤ 90) (hw : P.wa ≤ 5) (hs : ∀ y : Int, 106 * r ≤ y → y < 106 * r + 106 → σ' 167 (y - 106 * d) = σ 167 y) (h : rU P σ r U) : rU P σ' (r - d) U := by
  obtain ⟨h1, h2, h3⟩ := h
  refine ⟨fun w y0 y1 => ?_, ?_, fun m y0 y1 => ?_⟩
  · obtain ⟨b1, b2, b3⟩ := h1 w y0 y1
    rw [show 106 * (r - d) + w = (106 * r + w) - 106 * d by omega, show 106 * (r - d) + 5 + w = (106 * r + 5 + w) - 106 * d by omega, show 106 * (r - d) + 10 + w = (106 * r + 10 + w) - 106 * d by omega, hs _ (by omega) (by omega), hs _ (by omega) (by omega), hs _ (by omega) (by omega)]
    exact ⟨b1, b2, b3⟩
  · rw [show 106 * (r - d) + 15 = (106 * r + 15) - 106 * d by omega, hs _ (by omega) (by omega)]
    exact h2
  · rw [show 106 * (r - d) + 16 + m = (106 * r + 16 + m) - 106 * d by omega, hs _ (by omega) (by omega)]
    exact h3 m y0 y1
theorem LG_fr (hw : P.wa ≤ 5) (hq : 0 ≤ q ∧ q < 20) (h86 : ∀ a i : Int, 86 ≤ a → a ≤ 88 → ¬ i = q → σ' a i = σ a i) (h90 : ∀ a i : Int, 90 ≤ a → a ≤ 109 → ¬ a = 90 + q → σ' a i = σ a i) : ∀ (k : Nat) (nx : Int) (U : aU), 0 ≤ nx ∧ nx < 20 → (k : Int) ≤ fDs nx q → (∀ y : Int, 106 * base ≤ y → y < 106 * (base + k) → σ' 167 (y - 106 * d) = σ 167 y) → LG P σ K base k nx U → LG P σ' K (base - d) k nx U
  | 0, _, _, _, _, _, _ => trivial
  | k + 1, nx, U, hn, hd, hs, h => by
    obtain ⟨h1, h2, h3, h4⟩ := h
    obtain ⟨p1, p2⟩ := fDs_pv hn hq (by omega)
    have pb := fPv_bd hn
    have e1 : σ' 86 (fPv nx) = σ 86 (fPv nx) := h86 _ _ (by decide) (by decide) p1
    have e2 : σ' 87 (fPv nx) = σ 87 (fPv nx) := h86 _ _ (by decide) (by decide) p1
    have e3 : σ' 88 (fPv nx) = σ 88 (fPv nx) := h86 _ _ (by decide) (by decide) p1
    have e4 : σ' (90 + fPv nx) = σ (90 + fPv nx) := funext fun i => h90 _ _ (by omega) (by omega) (by omega)
    have eb : fBk σ' (fPv nx) U = fBk σ (fPv nx) U := fBk_cg e1 e2 e3 e4
    refine ⟨pOk_cg e1 e2 e3 e4 h1, ?_, ?_, ?_⟩
    · rw [eb, show base - d + (k : Int) = base + k - d by omega]
      exact rU_cg h3.2.1.2 hw (fun y y0 y1 => hs y (by omega) (by omega)) h2
    · rw [eb]; exact h3
    · rw [eb]
      exact LG_fr hw hq h86 h90 k _ _ pb (by omega) (fun y y0 y1 => hs y y0 (by omega)) h4
theorem LG_of (hw : P.wa ≤ 5) (h86 : ∀ a i : Int, 86 ≤ a → a ≤ 109 → σ' a i = σ a i) (hs : ∀ y : Int, σ' 167 y = σ 167 y) : ∀ (k : Nat) (nx : Int) (U : aU), 0 ≤ nx ∧ nx < 20 → LG P σ K base k nx U → LG P σ' K base k nx U
  | 0, _, _, _, _ => trivial
  | k + 1, nx, U, hn, h => by
    obtain ⟨h1, h2, h3, h4⟩ := h
    have pb := fPv_bd hn
    have e1 : σ' 86 (fPv nx) = σ 86 (fPv nx) := h86 _ _ (by decide) (by decide)
    have e2 : σ' 87 (fPv nx) = σ 87 (fPv nx) := h86 _ _ (by decide) (by decide)
    have e3 : σ' 88 (fPv nx) = σ 88 (fPv nx) := h86 _ _ (by decide) (by decide)
    have e4 : σ' (90 + fPv nx) = σ (90 + fPv nx) := funext fun i => h86 _ _ (by omega) (by omega)
    have eb : fBk σ' (fPv nx) U = fBk σ (fPv nx) U := fBk_cg e1 e2 e3 e4
    refine ⟨pOk_cg e1 e2 e3 e4 h1, ?_, ?_, ?_⟩
    · rw [eb]
      have h9 := rU_cg (d := 0) (σ' := σ') h3.2.1.2 hw (fun y y0 y1 => by rw [show y - 106 * 0 = y by omega]; exact hs y) h2
      rw [show base + (k : Int) - 0 = base + k by omega] at h9
      exact h9
    · rw [eb]; exact h3
    · rw [eb]; exact LG_of hw h86 hs k _ _ pb h4
/-- a row more -/
theorem LG_push {z : Nat} {nx : Int} (hn : 0 ≤ nx ∧ nx < 20) (hk : pOk P σ nx) (e : eU P U (fBk σ nx V)) (hr : rU P σ (base + z) U) (hu : wU P U K) (h : LG P σ K base z nx U) : LG P σ K base (z + 1) (fNx nx) V := by
  show pOk P σ (fPv (fNx nx)) ∧ rU P σ (base + z) (fBk σ (fPv (fNx nx)) V) ∧ wU P (fBk σ (fPv (fNx nx)) V) K ∧ LG P σ K base z (fPv (fNx nx)) (fBk σ (fPv (fNx nx)) V)
  rw [fPv_nx hn]
  exact ⟨hk, e.ru hr, e.wu hu, LG_cg z _ _ _ e h⟩
end SXM1
