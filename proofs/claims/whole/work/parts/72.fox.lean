/-! FOX, class side (by wip/whole) -/
section SXM4
variable {X : sx_X} {Q : sx_R} {s t p b c kk : Int} {σ σ0 σ' σ1 σ2 : sx_S} {P : aP} {A B : aM} {W V : aW}
def aM.wb (A : aM) (f : Int → Int) : aM := aM.mk A.n A.hr A.sn A.la A.lk A.ce A.wy A.bo A.dp A.cv A.ow f
theorem aTop_wb {f : Int → Int} {e : Int} : aTop (A.wb f) e = aTop A e := rfl
def fAt (P : aP) (y e : Int) : Nat → Int
  | 0 => e
  | k + 1 => if fAt P y e k = -1 then -1 else fBes P.w P.h (fAt P y e k) y
theorem fAt_s {y e i : Int} (h : 0 ≤ i) (hn : ¬ fAt P y e i.toNat = -1) : fAt P y e (i + 1).toNat = fBes P.w P.h (fAt P y e i.toNat) y := by
  rw [toNat_s h]; exact if_neg hn
theorem fAt_bd {y e : Int} (he : 0 ≤ e ∧ e < P.w * P.h) : ∀ k : Nat, fAt P y e k = -1 ∨ (0 ≤ fAt P y e k ∧ fAt P y e k < P.w * P.h)
  | 0 => Or.inr he
  | k + 1 => by
    show (if fAt P y e k = -1 then -1 else fBes P.w P.h (fAt P y e k) y) = -1 ∨ (0 ≤ (if fAt P y e k = -1 then -1 else fBes P.w P.h (fAt P y e k) y) ∧ (if fAt P y e k = -1 then -1 else fBes P.w P.h (fAt P y e k) y) < P.w * P.h)
    by_cases e9 : fAt P y e k = -1
    · rw [if_pos e9]; exact Or.inl rfl
    · rw [if_neg e9]
      by_cases e8 : fBes P.w P.h (fAt P y e k) y = -1
      · exact Or.inl e8
      · exact Or.inr (fBes_b e8)
/-- a fox reads there a mark that is not blurred -/
abbrev pHit (A : aM) (f : Int → Int) (a : Int) : Prop := ¬ a = -1 ∧ ¬ aTop A a = -1 ∧ f (aTop A a) = 0
def fBlr (P : aP) (A : aM) (y e : Int) : Nat → (Int → Int) × Int
  | 0 => (A.bl, 0)
  | k + 1 => if pHit A (fBlr P A y e k).1 (fAt P y e k) then (fU (fBlr P A y e k).1 (aTop A (fAt P y e k)) 1, (fBlr P A y e k).2 + 1) else fBlr P A y e k
theorem fBlr_t {y e i : Int} (h : 0 ≤ i) (hn : pHit A (fBlr P A y e i.toNat).1 (fAt P y e i.toNat)) : fBlr P A y e (i + 1).toNat = (fU (fBlr P A y e i.toNat).1 (aTop A (fAt P y e i.toNat)) 1, (fBlr P A y e i.toNat).2 + 1) := by
  rw [toNat_s h]; exact if_pos hn
theorem fBlr_f {y e i : Int} (h : 0 ≤ i) (hn : ¬ pHit A (fBlr P A y e i.toNat).1 (fAt P y e i.toNat)) : fBlr P A y e (i + 1).toNat = fBlr P A y e i.toNat := by
  rw [toNat_s h]; exact if_neg hn
theorem fBlr_end {y e : Int} {k : Nat} (h : fAt P y e k = -1) : ∀ d : Nat, fAt P y e (k + d) = -1 ∧ fBlr P A y e (k + d) = fBlr P A y e k
  | 0 => ⟨h, rfl⟩
  | d + 1 => by
    obtain ⟨h1, h2⟩ := fBlr_end h d
    exact ⟨if_pos h1, (if_neg (fun z => z.1 h1)).trans h2⟩
theorem fBlr_to {y e i x : Int} (h0 : 0 ≤ i) (hi : i ≤ x) (h : i = x ∨ fAt P y e i.toNat = -1) : fBlr P A y e i.toNat = fBlr P A y e x.toNat := by
  rcases h with h | h
  · rw [h]
  · have h9 := (fBlr_end (A := A) h (x.toNat - i.toNat)).2
    rw [show i.toNat + (x.toNat - i.toNat) = x.toNat by omega] at h9
    exact h9.symm
theorem fBlr_bd {y e : Int} : ∀ k : Nat, 0 ≤ (fBlr P A y e k).2 ∧ (fBlr P A y e k).2 ≤ k
  | 0 => by show 0 ≤ (0 : Int) ∧ (0 : Int) ≤ ((0 : Nat) : Int); omega
  | k + 1 => by
    have h := fBlr_bd (y := y) (e := e) k
    show 0 ≤ (if pHit A (fBlr P A y e k).1 (fAt P y e k) then (fU (fBlr P A y e k).1 (aTop A (fAt P y e k)) 1, (fBlr P A y e k).2 + 1) else fBlr P A y e k).2 ∧ (if pHit A (fBlr P A y e k).1 (fAt P y e k) then (fU (fBlr P A y e k).1 (aTop A (fAt P y e k)) 1, (fBlr P A y e k).2 + 1) else fBlr P A y e k).2 ≤ _
    by_cases q : pHit A (fBlr P A y e k).1 (fAt P y e k)
    · rw [if_pos q]; show 0 ≤ (fBlr P A y e k).2 + 1 ∧ (fBlr P A y e k).2 + 1 ≤ _; omega
    · rw [if_neg q]; omega
theorem fBlr_01 (wm : wM P A c) {y e : Int} : ∀ (k : Nat) (m : Int), 0 ≤ m → m < A.n → (fBlr P A y e k).1 m = 0 ∨ (fBlr P A y e k).1 m = 1
  | 0, m, h0, h1 => wm.bl m h0 h1
  | k + 1, m, h0, h1 => by
    have h := fBlr_01 wm (y := y) (e := e) k m h0 h1
    show (if pHit A (fBlr P A y e k).1 (fAt P y e k) then (fU (fBlr P A y e k).1 (aTop A (fAt P y e k)) 1, (fBlr P A y e k).2 + 1) else fBlr P A y e k).1 m = 0 ∨ (if pHit A (fBlr P A y e k).1 (fAt P y e k) then (fU (fBlr P A y e k).1 (aTop A (fAt P y e k)) 1, (fBlr P A y e k).2 + 1) else fBlr P A y e k).1 m = 1
    by_cases q : pHit A (fBlr P A y e k).1 (fAt P y e k)
    · rw [if_pos q]
      show fU (fBlr P A y e k).1 (aTop A (fAt P y e k)) 1 m = 0 ∨ fU (fBlr P A y e k).1 (aTop A (fAt P y e k)) 1 m = 1
      by_cases e9 : m = aTop A (fAt P y e k)
      · rw [e9, fU_s]; exact Or.inr rfl
      · rw [fU_n e9]; exact h
    · rw [if_neg q]; exact h
theorem wM.wb (wm : wM P A c) {y e : Int} (k : Nat) : wM P (A.wb (fBlr P A y e k).1) c := wM.mk wm.n wm.hr wm.sn wm.la wm.lk wm.ce wm.wy wm.bo wm.dp wm.cv wm.ow (fBlr_01 wm k)
theorem fFx_z {row f : Int → Int} {m : Int} (h : f m = 0) : ∀ k : Nat, fFx row k f m = 0
  | 0 => h
  | k + 1 => by
    show (if m = row (k : Int) then 0 else fFx row k f m) = 0
    rw [fFx_z h k]; split <;> rfl
theorem fFx_row {row row' f : Int → Int} : ∀ k : Nat, (∀ j : Int, 0 ≤ j → j < k → row' j = row j) → ∀ m : Int, fFx row' k f m = fFx row k f m
  | 0, _, _ => rfl
  | k + 1, h, m => by
    show (if m = row' (k : Int) then 0 else fFx row' k f m) = (if m = row (k : Int) then 0 else fFx row k f m)
    rw [h k (by omega) (by omega), fFx_row k (fun j y0 y1 => h j y0 (by omega)) m]
/-- a mark more in the row -/
theorem fFx_s {row row' f g : Int → Int} {i v : Int} (h0 : 0 ≤ i) (hr : ∀ j : Int, 0 ≤ j → j < i → row' j = row j) (hv : row' i = v) (hf : f v = 0) (h : ∀ m : Int, fFx row i.toNat f m = g m) (m : Int) : fFx row' (i + 1).toNat (fU f v 1) m = g m := by
  rw [toNat_s h0]
  show (if m = row' (i.toNat : Int) then 0 else fFx row' i.toNat (fU f v 1) m) = g m
  rw [Int.toNat_of_nonneg h0, hv]
  by_cases e : m = v
  · rw [if_pos e, ← h m, e, fFx_z hf]
  · rw [if_neg e, fFx_cg (g := f) (fU_n e), fFx_row _ (fun j y0 y1 => hr j y0 (by omega)), h m]
theorem pt89 (hT : PT σ) {q : Int} (hq : 0 ≤ q ∧ q < 20) : σ 89 q = 90 + q := by
  rcases (show q = 0 ∨ q = 1 ∨ q = 2 ∨ q = 3 ∨ q = 4 ∨ q = 5 ∨ q = 6 ∨ q = 7 ∨ q = 8 ∨ q = 9 ∨ q = 10 ∨ q = 11 ∨ q = 12 ∨ q = 13 ∨ q = 14 ∨ q = 15 ∨ q = 16 ∨ q = 17 ∨ q = 18 ∨ q = 19 by omega) with e | e | e | e | e | e | e | e | e | e | e | e | e | e | e | e | e | e | e | e
  all_goals subst e
  · exact pt_89_0 hT
  · exact pt_89_1 hT
  · exact pt_89_2 hT
  · exact pt_89_3 hT
  · exact pt_89_4 hT
  · exact pt_89_5 hT
  · exact pt_89_6 hT
  · exact pt_89_7 hT
  · exact pt_89_8 hT
  · exact pt_89_9 hT
  · exact pt_89_10 hT
  · exact pt_89_11 hT
  · exact pt_89_12 hT
  · exact pt_89_13 hT
  · exact pt_89_14 hT
  · exact pt_89_15 hT
  · exact pt_89_16 hT
  · exact pt_89_17 hT
  · exact pt_89_18 hT
  · exact pt_89_19 hT
theorem lk90 {q : Int} (hq : 0 ≤ q ∧ q < 20) : sx_lk shM (90 + q) = (1, 8) := by
  rcases (show q = 0 ∨ q = 1 ∨ q = 2 ∨ q = 3 ∨ q = 4 ∨ q = 5 ∨ q = 6 ∨ q = 7 ∨ q = 8 ∨ q = 9 ∨ q = 10 ∨ q = 11 ∨ q = 12 ∨ q = 13 ∨ q = 14 ∨ q = 15 ∨ q = 16 ∨ q = 17 ∨ q = 18 ∨ q = 19 by omega) with e | e | e | e | e | e | e | e | e | e | e | e | e | e | e | e | e | e | e | e <;> subst e <;> rfl
abbrev FFL (q a i : Int) : Prop := a = 54 ∨ a = 52 ∨ a = 90 + q ∨ (86 ≤ a ∧ a ≤ 88 ∧ i = q) ∨ (a = 85 ∧ (i = 0 ∨ i = 1)) ∨ a = 38 ∨ a = 39 ∨ (a = 37 ∧ i = 2) ∨ (a = 40 ∧ (i = 7 ∨ i = 8 ∨ i = 10)) ∨ a = 49 ∨ a = 50
theorem fr.cfl {q : Int} (h : fr (FC 40) σ σ') : fr (FFL q) σ σ' := h.mono (fun a i z => by unfold FC at z; unfold FFL; omega)
theorem fr.lfl {q : Int} (h : fr (FL q) σ σ') : fr (FFL q) σ σ' := h.mono (fun a i z => by unfold FL at z; unfold FFL; omega)
theorem cS_bl1 {f : Int → Int} {m : Int} (n0 : σ (40 + 4) 0 = A.n) (g : cS 40 σ (A.wb f)) (hb : ∀ j : Int, 0 ≤ j → j < A.n → σ (40 + 12) j = f j) (hr : σ 40 7 = A.hr) (sn : σ 40 8 = A.sn) (la : σ 40 10 = A.la) (r5 : ∀ j : Int, 0 ≤ j → j < A.n → σ (40 + 5) j = A.lk j) (r6 : ∀ j : Int, 0 ≤ j → j < A.n → σ (40 + 6) j = A.ce j) (r7 : ∀ j : Int, 0 ≤ j → j < A.n → σ (40 + 7) j = A.wy j) (r8 : ∀ j : Int, 0 ≤ j → j < A.n → σ (40 + 8) j = A.bo j) (r9 : ∀ j : Int, 0 ≤ j → j < A.n → σ (40 + 9) j = A.dp j) (r10 : ∀ j : Int, 0 ≤ j → j < A.n → σ (40 + 10) j = A.cv j) (r11 : ∀ j : Int, 0 ≤ j → j < A.n → σ (40 + 11) j = A.ow j) : cS 40 (sx_up σ (40 + 12) m 1) (A.wb (fU f m 1)) := by
  refine cS.mk ((up_a (by decide)).trans n0) ((up_a (by decide)).trans hr) ((up_a (by decide)).trans sn) ((up_a (by decide)).trans la) (fun j y0 y1 => (up_a (by decide)).trans (r5 j y0 y1)) (fun j y0 y1 => (up_a (by decide)).trans (r6 j y0 y1)) (fun j y0 y1 => (up_a (by decide)).trans (r7 j y0 y1)) (fun j y0 y1 => (up_a (by decide)).trans (r8 j y0 y1)) (fun j y0 y1 => (up_a (by decide)).trans (r9 j y0 y1)) (fun j y0 y1 => (up_a (by decide)).trans (r10 j y0 y1)) (fun j y0 y1 => (up_a (by decide)).trans (r11 j y0 y1)) (fun j y0 y1 => ?_)
  show sx_up σ (40 + 12) m 1 (40 + 12) j = fU f m 1 j
  by_cases e9 : j = m
  · subst e9; rw [up_s, fU_s]
  · rw [up_i e9, fU_n e9]; exact hb j y0 y1
theorem GC.bl1 {f : Int → Int} (g : GC 40 p P (A.wb f) σ) (hp : isP p) {m : Int} : GC 40 p P (A.wb (fU f m 1)) (sx_up σ (40 + 12) m 1) :=
  g.upd (k := 12) (Or.inl rfl) hp (PT_up g.pt (lkS12 (Or.inl rfl)) (by decide)) (fun a i z => up_a z) (by decide) (cS_bl1 g.cs.n g.cs g.cs.bl g.cs.hr g.cs.sn g.cs.la g.cs.lk g.cs.ce g.cs.wy g.cs.bo g.cs.dp g.cs.cv g.cs.ow)
theorem GC.rw90 {q i v : Int} (hq : 0 ≤ q ∧ q < 20) (g : GC 40 p P A σ) (hp : isP p) : GC 40 p P A (sx_up σ (90 + q) i v) := g.of (Or.inl rfl) hp (PT_up g.pt (lk90 hq) (by decide)) (fun a i z1 z2 => up_a (by omega))
set_option maxRecDepth 20000 in
theorem c_Lrow (hT : PT σ) {nx : Int} (ex : σ 85 1 = nx) (hx : 0 ≤ nx ∧ nx < 20) (h : Q (some (.inr (.inr (90 + nx)))) shM σ) : sx_Run X 27 [.inr (.inr 85)] shM σ Q := by
  have a5 := pt_85_5 hT
  have e9 := pt89 hT hx
  refine sx_rule0 (own := 3) (cd := kX3_foxRow) (nL := 1) (by decide +kernel) (by decide +kernel) kX3_foxRow_ok (by decide +kernel) (Nat.le_of_ble_eq_true rfl) 40 ?_
  conv => whnf
  refine ⟨(by first | assumption | rfl), ?_⟩
  try simp (disch := omega) only [Int.cast_ofNat_Int, up_s, up_a, up_i, mp_a, mp_ge]
  try simp only [a5]
  try simp only [ex]
  try simp only [e9]
  conv => whnf
  refine ⟨(by first | assumption | rfl), ?_⟩
  try simp (disch := omega) only [Int.cast_ofNat_Int, up_s, up_a, up_i, mp_a, mp_ge]
  try simp only [a5]
  try simp only [ex]
  try simp only [e9]
  conv => whnf
  refine ⟨sx_ixI (by first | assumption | rfl) (by omega) (by omega), ?_⟩
  try simp (disch := omega) only [Int.cast_ofNat_Int, up_s, up_a, up_i, mp_a, mp_ge]
  try simp only [a5]
  try simp only [ex]
  try simp only [e9]
  conv => whnf
  exact h
abbrev FFX (q a i : Int) : Prop := a = 54 ∨ a = 52 ∨ a = 90 + q ∨ a = 38 ∨ a = 39 ∨ (a = 37 ∧ i = 2) ∨ (a = 40 ∧ (i = 7 ∨ i = 8 ∨ i = 10)) ∨ a = 49 ∨ a = 50
theorem fr.cfx {q : Int} (h : fr (FC 40) σ σ') : fr (FFX q) σ σ' := h.mono (fun a i z => by unfold FC at z; unfold FFX; omega)
theorem fr.xfl {q : Int} (h : fr (FFX q) σ σ') : fr (FFL q) σ σ' := h.mono (fun a i z => by unfold FFX at z; unfold FFL; omega)
set_option maxRecDepth 20000 in
theorem c_fox (hp : isP p) (e2 : σ 0 2 = p) (wp : wP P) (wm : wM P A c) (g0 : GC 40 p P A σ) {z nx : Int} (ez : σ 85 0 = z) (ex : σ 85 1 = nx) (hz : 0 ≤ z ∧ z ≤ 20) (hx : 0 ≤ nx ∧ nx < 20) {e y x : Int} (h0 : ¬ (0 ≤ e ∧ e < P.w * P.h ∧ 0 ≤ y ∧ y ≤ 3 ∧ 1 ≤ x ∧ x ≤ 8) → Q (some (.inl (-1))) shM σ) (h1 : (0 ≤ e ∧ e < P.w * P.h ∧ 0 ≤ y ∧ y ≤ 3 ∧ 1 ≤ x ∧ x ≤ 8) → (fBlr P A y e x.toNat).2 = 0 → ∀ σ', fr (FFL nx) σ σ' → GC 40 p P A σ' → σ' 85 0 = σ 85 0 → σ' 85 1 = σ 85 1 → (∀ a i : Int, 86 ≤ a ∧ a ≤ 88 → σ' a i = σ a i) → Q (some (.inl 0)) shM σ') (h2 : (0 ≤ e ∧ e < P.w * P.h ∧ 0 ≤ y ∧ y ≤ 3 ∧ 1 ≤ x ∧ x ≤ 8) → 1 ≤ (fBlr P A y e x.toNat).2 → ∀ σ', fr (FFL nx) σ σ' → GC 40 p P (A.wb (fBlr P A y e x.toNat).1) σ' → σ' 86 nx = 3 → σ' 88 nx = (fBlr P A y e x.toNat).2 → (∀ m : Int, fFx (σ' (90 + nx)) (fBlr P A y e x.toNat).2.toNat (fBlr P A y e x.toNat).1 m = A.bl m) → (∀ j : Int, 0 ≤ j → j < (fBlr P A y e x.toNat).2 → 0 ≤ σ' (90 + nx) j ∧ σ' (90 + nx) j < A.n) → σ' 85 0 = fM20 (z + 1) → σ' 85 1 = fNx nx → Q (some (.inl (fBlr P A y e x.toNat).2)) shM σ') : sx_Run X 134 [.inr (.inr 0), .inl e, .inl y, .inl x] shM σ Q := by
  have a2 := e2
  have a6 := pt_0_6 g0.pt
  have hs : isS 40 := Or.inl rfl
  have v4 := wp.wh
  have wn := wm.n
  have q0 := lkP0 hp
  have k0 := lkS0 hs
  refine sx_rule2 (own := 11) (cd := kX11_fox) (nL := 9) (by decide +kernel) (by decide +kernel) kX11_fox_ok (by decide +kernel) (Nat.le_of_ble_eq_true rfl) [57] 40 (fun n t L st _ σ' => (t = 57 ∧ ∃ u v i : Int, ∃ w8 : Option sx_V, st = [] ∧ L = [some (.inr (.inr (0))), some (.inl (e)), some (.inl (y)), some (.inl (x)), some (.inr (.inr (90 + nx))), some (.inl (v)), some (.inl (u)), some (.inl (i)), w8] ∧ (fr (FFX nx) σ σ' ∧ GC 40 p P (A.wb (fBlr P A y e i.toNat).1) σ' ∧ σ' 0 2 = p ∧ (∀ e : Int, 0 ≤ e → e < 48 → σ' (40 + 14) e = aTop A e) ∧ u = fAt P y e i.toNat ∧ v = (fBlr P A y e i.toNat).2 ∧ (∀ m : Int, fFx (σ' (90 + nx)) v.toNat (fBlr P A y e i.toNat).1 m = A.bl m) ∧ (∀ j : Int, 0 ≤ j → j < v → 0 ≤ σ' (90 + nx) j ∧ σ' (90 + nx) j < A.n) ∧ 0 ≤ i ∧ i ≤ x ∧ (0 ≤ e ∧ e < P.w * P.h ∧ 0 ≤ y ∧ y ≤ 3 ∧ 1 ≤ x ∧ x ≤ 8)) ∧ n = (x - i).toNat)) ?_ ?_
  · skip
    conv => whnf
    refine ⟨(by first | assumption | rfl), ?_⟩
    try simp (disch := omega) only [Int.cast_ofNat_Int, up_s, up_a, up_i, mp_a, mp_ge]
    try simp only [ep5]
    try simp only [ep2]
    try simp only [a2]
    try simp only [a6]
    try simp only [a10]
    try simp only [s11]
    try simp only [s5]
    try simp only [m8]
    try simp only [er]
    try simp only [eb]
    try simp only [lkr]
    conv => whnf
    refine ⟨Nat.le_of_ble_eq_true rfl, Nat.le_of_ble_eq_true rfl, (by first | assumption | rfl), ?_⟩
    refine c_Phascell hp (g0.cp.pd wp) (fun y1 y2 => ?_) (fun y0 => ?_)
    · rw [g0.cp.w, g0.cp.h] at y2
      conv => whnf
      refine ⟨fun g => ?_, fun g => ?_⟩
      · exact absurd g (by simp [sx_cc])
      · skip
        conv => whnf
        refine ⟨Nat.le_of_ble_eq_true rfl, Nat.le_of_ble_eq_true rfl, ?_⟩
        refine c_way (fun y3 => ?_) (fun y0 => ?_)
        · skip
          conv => whnf
          refine ⟨fun g => ?_, fun g => ?_⟩
          · exact absurd g (by simp [sx_cc])
          · skip
            conv => whnf
            refine ⟨fun g => ?_, fun g => ?_⟩
            · simp only [sx_cc, Classical.not_not] at g
              conv => whnf
              refine ⟨fun q9 => by first | (simp at q9; done) | omega, ?_⟩
              exact h0 (by omega)
            · simp only [sx_cc, Classical.not_not] at g
              conv => whnf
              refine ⟨fun g => ?_, fun g => ?_⟩
              · simp only [sx_cc, Classical.not_not] at g
                conv => whnf
                refine ⟨(by first | assumption | rfl), ?_⟩
                try simp (disch := omega) only [Int.cast_ofNat_Int, up_s, up_a, up_i, mp_a, mp_ge]
                try simp only [ep5]
                try simp only [ep2]
                try simp only [a2]
                try simp only [a6]
                try simp only [a10]
                try simp only [s11]
                try simp only [s5]
                try simp only [m8]
                try simp only [er]
                try simp only [eb]
                try simp only [lkr]
                conv => whnf
                refine ⟨Nat.le_of_ble_eq_true rfl, Nat.le_of_ble_eq_true rfl, (by first | assumption | rfl), ?_⟩
                refine a_Sreadall hs hp wp wm g0 ?_
                intro σ1 hf1 hr1 g1
                have a10 := pt_0_10 g1.pt
                conv => whnf
                refine ⟨(by first | assumption | rfl), ?_⟩
                try simp (disch := omega) only [Int.cast_ofNat_Int, up_s, up_a, up_i, mp_a, mp_ge]
                try simp only [ep5]
                try simp only [ep2]
                try simp only [a2]
                try simp only [a6]
                try simp only [a10]
                try simp only [s11]
                try simp only [s5]
                try simp only [m8]
                try simp only [er]
                try simp only [eb]
                try simp only [lkr]
                conv => whnf
                refine ⟨Nat.le_of_ble_eq_true rfl, Nat.le_of_ble_eq_true rfl, (by first | assumption | rfl), ?_⟩
                refine c_Lrow g1.pt ((hf1 _ _ (by decide)).trans ex) hx ?_
                conv => whnf
                refine ⟨_, ⟨rfl, _, _, _, _, rfl, rfl, ?_, rfl⟩⟩
                exact ⟨hf1.cfx, g1, (hf1 _ _ (by decide)).trans e2, hr1, rfl, rfl, fun m => rfl, fun j y0 y1 => by omega, by omega, by omega, by omega⟩
              · simp only [sx_cc, Classical.not_not] at g
                conv => whnf
                refine ⟨fun q9 => by first | (simp at q9; done) | omega, ?_⟩
                exact h0 (by omega)
        · skip
          conv => whnf
          refine ⟨fun g => ?_, fun g => ?_⟩
          · skip
            conv => whnf
            refine ⟨fun q9 => by first | (simp at q9; done) | omega, ?_⟩
            exact h0 (by omega)
          · exact absurd g (by simp [sx_cc])
    · rw [g0.cp.w, g0.cp.h] at y0
      conv => whnf
      refine ⟨fun g => ?_, fun g => ?_⟩
      · skip
        conv => whnf
        refine ⟨fun q9 => by first | (simp at q9; done) | omega, ?_⟩
        exact h0 (by omega)
      · exact absurd g (by simp [sx_cc])
  · intro n t L st σ' hk
    obtain ⟨rfl, u, v, i, w8, rfl, rfl, hc, rfl⟩ := hk
    obtain ⟨hfi, gi, ep2, hrd, hu, hv, hfx, hrw, hi0, hi1, hq⟩ := hc
    have a6 := pt_0_6 gi.pt
    have a10 := pt_0_10 gi.pt
    have s11 := ptS_11 gi.pt hs
    have s5 := ptS_5 gi.pt hs
    have m8 := ptM_8 gi.pt hs
    have hub := fAt_bd (P := P) (y := y) (e := e) ⟨by omega, by omega⟩ i.toNat
    rw [← hu] at hub
    have hvb := fBlr_bd (P := P) (A := A) (y := y) (e := e) i.toNat
    rw [← hv] at hvb
    have htb := aTop_bd wm u
    have lkr := lk90 hx
    have k14 := lkS14 hs
    have k12 := lkS12 hs
    have k0 := lkS0 hs
    have k4 := lkS4 hs
    have q0 := lkP0 hp
    conv => whnf
    refine ⟨fun g => ?_, fun g => ?_⟩
    · simp only [sx_cc, Classical.not_not] at g
      conv => whnf
      refine ⟨fun g => ?_, fun g => ?_⟩
      · simp only [sx_cc, Classical.not_not] at g
        conv => whnf
        refine ⟨fun q9 => by first | (simp at q9; done) | omega, ?_⟩
        have et := fBlr_to (A := A) hi0 hi1 (P := P) (y := y) (e := e) (by omega)
        rw [et] at hv hfx gi
        have hz0 : v = 0 := by omega
        have ebl : (fBlr P A y e x.toNat).1 = A.bl := funext (fun m => by have h9 := hfx m; rw [hz0] at h9; exact h9)
        rw [ebl] at gi
        rw [hz0]
        exact h1 hq (by omega) _ hfi.xfl gi (hfi _ _ (by unfold FFX; omega)) (hfi _ _ (by unfold FFX; omega)) (fun a i z9 => hfi a i (by unfold FFX; omega))
      · simp only [sx_cc, Classical.not_not] at g
        conv => whnf
        refine ⟨(by first | assumption | rfl), ?_⟩
        try simp (disch := omega) only [Int.cast_ofNat_Int, up_s, up_a, up_i, mp_a, mp_ge]
        try simp only [ep5]
        try simp only [ep2]
        try simp only [a2]
        try simp only [a6]
        try simp only [a10]
        try simp only [s11]
        try simp only [s5]
        try simp only [m8]
        try simp only [er]
        try simp only [eb]
        try simp only [lkr]
        conv => whnf
        refine ⟨Nat.le_of_ble_eq_true rfl, Nat.le_of_ble_eq_true rfl, (by first | assumption | rfl), ?_⟩
        refine c_Lnotef (w := 0) gi.pt (z := z) (nx := nx) ((hfi _ _ (by unfold FFX; omega)).trans ez) ((hfi _ _ (by unfold FFX; omega)).trans ex) hz hx ?_
        intro σ3 hf3 hT3 n1 n2 n3 n4 n5
        conv => whnf
        refine ⟨fun q9 => by first | (simp at q9; done) | omega, ?_⟩
        have et := fBlr_to (A := A) hi0 hi1 (P := P) (y := y) (e := e) (by omega)
        rw [et] at hv hfx gi
        rw [hv] at n3 hrw hfx ⊢
        have e90 : σ3 (90 + nx) = σ' (90 + nx) := funext (fun j => hf3 (90 + nx) j (by unfold FL; omega))
        exact h2 hq (by omega) _ (hfi.xfl.trans hf3.lfl) (gi.fl hp hT3 hf3) n1 n3 (by rw [e90]; exact hfx) (by rw [e90]; exact hrw) n4 n5
    · simp only [sx_cc, Classical.not_not] at g
      conv => whnf
      refine ⟨fun g => ?_, fun g => ?_⟩
      · simp only [sx_cc, Classical.not_not] at g
        conv => whnf
        refine ⟨fun g => ?_, fun g => ?_⟩
        · simp only [sx_cc, Classical.not_not] at g
          conv => whnf
          refine ⟨fun q9 => by first | (simp at q9; done) | omega, ?_⟩
          have et := fBlr_to (A := A) hi0 hi1 (P := P) (y := y) (e := e) (by omega)
          rw [et] at hv hfx gi
          have hz0 : v = 0 := by omega
          have ebl : (fBlr P A y e x.toNat).1 = A.bl := funext (fun m => by have h9 := hfx m; rw [hz0] at h9; exact h9)
          rw [ebl] at gi
          rw [hz0]
          exact h1 hq (by omega) _ hfi.xfl gi (hfi _ _ (by unfold FFX; omega)) (hfi _ _ (by unfold FFX; omega)) (fun a i z9 => hfi a i (by unfold FFX; omega))
        · simp only [sx_cc, Classical.not_not] at g
          conv => whnf
          refine ⟨(by first | assumption | rfl), ?_⟩
          try simp (disch := omega) only [Int.cast_ofNat_Int, up_s, up_a, up_i, mp_a, mp_ge]
          try simp only [ep5]
          try simp only [ep2]
          try simp only [a2]
          try simp only [a6]
          try simp only [a10]
          try simp only [s11]
          try simp only [s5]
          try simp only [m8]
          try simp only [er]
          try simp only [eb]
          try simp only [lkr]
          conv => whnf
          refine ⟨Nat.le_of_ble_eq_true rfl, Nat.le_of_ble_eq_true rfl, (by first | assumption | rfl), ?_⟩
          refine c_Lnotef (w := 0) gi.pt (z := z) (nx := nx) ((hfi _ _ (by unfold FFX; omega)).trans ez) ((hfi _ _ (by unfold FFX; omega)).trans ex) hz hx ?_
          intro σ3 hf3 hT3 n1 n2 n3 n4 n5
          conv => whnf
          refine ⟨fun q9 => by first | (simp at q9; done) | omega, ?_⟩
          have et := fBlr_to (A := A) hi0 hi1 (P := P) (y := y) (e := e) (by omega)
          rw [et] at hv hfx gi
          rw [hv] at n3 hrw hfx ⊢
          have e90 : σ3 (90 + nx) = σ' (90 + nx) := funext (fun j => hf3 (90 + nx) j (by unfold FL; omega))
          exact h2 hq (by omega) _ (hfi.xfl.trans hf3.lfl) (gi.fl hp hT3 hf3) n1 n3 (by rw [e90]; exact hfx) (by rw [e90]; exact hrw) n4 n5
      · simp only [sx_cc, Classical.not_not] at g
        have er := hrd u (by omega) (by omega)
        conv => whnf
        refine ⟨(by first | assumption | rfl), ?_⟩
        try simp (disch := omega) only [Int.cast_ofNat_Int, up_s, up_a, up_i, mp_a, mp_ge]
        try simp only [ep5]
        try simp only [ep2]
        try simp only [a2]
        try simp only [a6]
        try simp only [a10]
        try simp only [s11]
        try simp only [s5]
        try simp only [m8]
        try simp only [er]
        try simp only [eb]
        try simp only [lkr]
        conv => whnf
        refine ⟨(by first | assumption | rfl), ?_⟩
        try simp (disch := omega) only [Int.cast_ofNat_Int, up_s, up_a, up_i, mp_a, mp_ge]
        try simp only [ep5]
        try simp only [ep2]
        try simp only [a2]
        try simp only [a6]
        try simp only [a10]
        try simp only [s11]
        try simp only [s5]
        try simp only [m8]
        try simp only [er]
        try simp only [eb]
        try simp only [lkr]
        conv => whnf
        refine ⟨sx_ixI (by first | assumption | rfl) (by omega) (by omega), ?_⟩
        try simp (disch := omega) only [Int.cast_ofNat_Int, up_s, up_a, up_i, mp_a, mp_ge]
        try simp only [ep5]
        try simp only [ep2]
        try simp only [a2]
        try simp only [a6]
        try simp only [a10]
        try simp only [s11]
        try simp only [s5]
        try simp only [m8]
        try simp only [er]
        try simp only [eb]
        try simp only [lkr]
        conv => whnf
        refine ⟨fun g => ?_, fun g => ?_⟩
        · simp only [sx_cc, Classical.not_not] at g
          have hno : ¬ pHit A (fBlr P A y e i.toNat).1 (fAt P y e i.toNat) := by rw [← hu]; exact fun z9 => (by omega)
          conv => whnf
          refine ⟨(by first | assumption | rfl), ?_⟩
          try simp (disch := omega) only [Int.cast_ofNat_Int, up_s, up_a, up_i, mp_a, mp_ge]
          try simp only [ep5]
          try simp only [ep2]
          try simp only [a2]
          try simp only [a6]
          try simp only [a10]
          try simp only [s11]
          try simp only [s5]
          try simp only [m8]
          try simp only [er]
          try simp only [eb]
          try simp only [lkr]
          conv => whnf
          refine ⟨Nat.le_of_ble_eq_true rfl, Nat.le_of_ble_eq_true rfl, (by first | assumption | rfl), ?_⟩
          refine c_Pbeside hp (gi.cp.pd wp) (c := u) (by omega) (by rw [gi.cp.w, gi.cp.h]; omega) ?_
          rw [gi.cp.w, gi.cp.h]
          conv => whnf
          refine ⟨⟨by omega, by omega⟩, ?_⟩
          conv => whnf
          refine ⟨_, ?_, ⟨rfl, _, _, _, _, rfl, rfl, ?_, rfl⟩⟩
          · omega
          · have e9 := fBlr_f hi0 hno
            exact ⟨hfi, by rw [e9]; exact gi, ep2, hrd, by rw [fAt_s hi0 (by omega), ← hu], by rw [e9]; exact hv, by rw [e9]; exact hfx, hrw, by omega, by omega, hq⟩
        · simp only [sx_cc, Classical.not_not] at g
          have eb : σ' (40 + 12) (aTop A u) = (fBlr P A y e i.toNat).1 (aTop A u) := gi.cs.bl (aTop A u) (by omega) (by show aTop A u < A.n; omega)
          have hb01 := fBlr_01 wm (y := y) (e := e) i.toNat (aTop A u) (by omega) (by omega)
          conv => whnf
          refine ⟨(by first | assumption | rfl), ?_⟩
          try simp (disch := omega) only [Int.cast_ofNat_Int, up_s, up_a, up_i, mp_a, mp_ge]
          try simp only [ep5]
          try simp only [ep2]
          try simp only [a2]
          try simp only [a6]
          try simp only [a10]
          try simp only [s11]
          try simp only [s5]
          try simp only [m8]
          try simp only [er]
          try simp only [eb]
          try simp only [lkr]
          conv => whnf
          refine ⟨(by first | assumption | rfl), ?_⟩
          try simp (disch := omega) only [Int.cast_ofNat_Int, up_s, up_a, up_i, mp_a, mp_ge]
          try simp only [ep5]
          try simp only [ep2]
          try simp only [a2]
          try simp only [a6]
          try simp only [a10]
          try simp only [s11]
          try simp only [s5]
          try simp only [m8]
          try simp only [er]
          try simp only [eb]
          try simp only [lkr]
          conv => whnf
          refine ⟨(by first | assumption | rfl), ?_⟩
          try simp (disch := omega) only [Int.cast_ofNat_Int, up_s, up_a, up_i, mp_a, mp_ge]
          try simp only [ep5]
          try simp only [ep2]
          try simp only [a2]
          try simp only [a6]
          try simp only [a10]
          try simp only [s11]
          try simp only [s5]
          try simp only [m8]
          try simp only [er]
          try simp only [eb]
          try simp only [lkr]
          conv => whnf
          refine ⟨sx_ixI (by first | assumption | rfl) (by omega) (by omega), ?_⟩
          try simp (disch := omega) only [Int.cast_ofNat_Int, up_s, up_a, up_i, mp_a, mp_ge]
          try simp only [ep5]
          try simp only [ep2]
          try simp only [a2]
          try simp only [a6]
          try simp only [a10]
          try simp only [s11]
          try simp only [s5]
          try simp only [m8]
          try simp only [er]
          try simp only [eb]
          try simp only [lkr]
          conv => whnf
          refine ⟨fun g => ?_, fun g => ?_⟩
          · simp only [sx_cc, Classical.not_not] at g
            have hno : ¬ pHit A (fBlr P A y e i.toNat).1 (fAt P y e i.toNat) := by rw [← hu]; exact fun z9 => (by omega)
            conv => whnf
            refine ⟨(by first | assumption | rfl), ?_⟩
            try simp (disch := omega) only [Int.cast_ofNat_Int, up_s, up_a, up_i, mp_a, mp_ge]
            try simp only [ep5]
            try simp only [ep2]
            try simp only [a2]
            try simp only [a6]
            try simp only [a10]
            try simp only [s11]
            try simp only [s5]
            try simp only [m8]
            try simp only [er]
            try simp only [eb]
            try simp only [lkr]
            conv => whnf
            refine ⟨Nat.le_of_ble_eq_true rfl, Nat.le_of_ble_eq_true rfl, (by first | assumption | rfl), ?_⟩
            refine c_Pbeside hp (gi.cp.pd wp) (c := u) (by omega) (by rw [gi.cp.w, gi.cp.h]; omega) ?_
            rw [gi.cp.w, gi.cp.h]
            conv => whnf
            refine ⟨⟨by omega, by omega⟩, ?_⟩
            conv => whnf
            refine ⟨_, ?_, ⟨rfl, _, _, _, _, rfl, rfl, ?_, rfl⟩⟩
            · omega
            · have e9 := fBlr_f hi0 hno
              exact ⟨hfi, by rw [e9]; exact gi, ep2, hrd, by rw [fAt_s hi0 (by omega), ← hu], by rw [e9]; exact hv, by rw [e9]; exact hfx, hrw, by omega, by omega, hq⟩
          · simp only [sx_cc, Classical.not_not] at g
            have hhit : pHit A (fBlr P A y e i.toNat).1 (fAt P y e i.toNat) := by rw [← hu]; exact ⟨by omega, by omega, by omega⟩
            conv => whnf
            refine ⟨by first | decide | (simp only [lkr]; decide), ?_⟩
            try simp (disch := omega) only [Int.cast_ofNat_Int, up_s, up_a, up_i, mp_a, mp_ge]
            try simp only [ep5]
            try simp only [ep2]
            try simp only [a2]
            try simp only [a6]
            try simp only [a10]
            try simp only [s11]
            try simp only [s5]
            try simp only [m8]
            try simp only [er]
            try simp only [eb]
            try simp only [lkr]
            conv => whnf
            refine ⟨fun g => ?_, fun g => ?_⟩
            · simp only [sx_cc, Classical.not_not] at g
              omega
            · simp only [sx_cc, Classical.not_not] at g
              conv => whnf
              refine ⟨(by first | assumption | rfl), ?_⟩
              try simp (disch := omega) only [Int.cast_ofNat_Int, up_s, up_a, up_i, mp_a, mp_ge]
              try simp only [ep5]
              try simp only [ep2]
              try simp only [a2]
              try simp only [a6]
              try simp only [a10]
              try simp only [s11]
              try simp only [s5]
              try simp only [m8]
              try simp only [er]
              try simp only [eb]
              try simp only [lkr]
              conv => whnf
              refine ⟨(by first | assumption | rfl), ?_⟩
              try simp (disch := omega) only [Int.cast_ofNat_Int, up_s, up_a, up_i, mp_a, mp_ge]
              try simp only [ep5]
              try simp only [ep2]
              try simp only [a2]
              try simp only [a6]
              try simp only [a10]
              try simp only [s11]
              try simp only [s5]
              try simp only [m8]
              try simp only [er]
              try simp only [eb]
              try simp only [lkr]
              conv => whnf
              refine ⟨(by first | assumption | rfl), ?_⟩
              try simp (disch := omega) only [Int.cast_ofNat_Int, up_s, up_a, up_i, mp_a, mp_ge]
              try simp only [ep5]
              try simp only [ep2]
              try simp only [a2]
              try simp only [a6]
              try simp only [a10]
              try simp only [s11]
              try simp only [s5]
              try simp only [m8]
              try simp only [er]
              try simp only [eb]
              try simp only [lkr]
              conv => whnf
              refine ⟨sx_ixI (by first | assumption | rfl) (by omega) (by omega), ?_⟩
              conv => whnf
              refine ⟨sx_ixI (by first | assumption | rfl) (by omega) (by omega), ?_⟩
              generalize e5 : sx_up (sx_up σ' (40 + 12) _ 1) (90 + nx) _ _ = σ5
              have g5 := (gi.bl1 hp (m := aTop A u)).rw90 hx hp (i := v) (v := aTop A u)
              rw [e5] at g5
              have ep5 : σ5 0 2 = p := by rw [← e5, up_a (by omega), up_a (by decide)]; exact ep2
              conv => whnf
              refine ⟨⟨by omega, by omega⟩, ?_⟩
              conv => whnf
              refine ⟨(by first | assumption | rfl), ?_⟩
              try simp (disch := omega) only [Int.cast_ofNat_Int, up_s, up_a, up_i, mp_a, mp_ge]
              try simp only [ep5]
              try simp only [ep2]
              try simp only [a2]
              try simp only [a6]
              try simp only [a10]
              try simp only [s11]
              try simp only [s5]
              try simp only [m8]
              try simp only [er]
              try simp only [eb]
              try simp only [lkr]
              conv => whnf
              refine ⟨Nat.le_of_ble_eq_true rfl, Nat.le_of_ble_eq_true rfl, (by first | assumption | rfl), ?_⟩
              refine c_Pbeside hp (g5.cp.pd wp) (c := u) (by omega) (by rw [g5.cp.w, g5.cp.h]; omega) ?_
              rw [g5.cp.w, g5.cp.h]
              conv => whnf
              refine ⟨⟨by omega, by omega⟩, ?_⟩
              conv => whnf
              refine ⟨_, ?_, ⟨rfl, _, _, _, _, rfl, rfl, ?_, rfl⟩⟩
              · omega
              · have e9 := fBlr_t hi0 hhit
                rw [← hu] at e9
                refine ⟨hfi.trans (fun a j z9 => by unfold FFX at z9; rw [← e5, up_a (by omega), up_a (by omega)]), ?_, ep5, fun e1 y0 y1 => ?_, by rw [fAt_s hi0 (by omega), ← hu], by rw [e9, hv], ?_, fun j y0 y1 => ?_, by omega, by omega, hq⟩
                · rw [e9]; exact g5
                · rw [← e5, up_a (by omega), up_a (by decide)]; exact hrd e1 y0 y1
                · rw [e9]
                  refine fFx_s (by omega) (fun j y0 y1 => ?_) (by rw [← e5, up_s]) (by show (fBlr P A y e i.toNat).1 (aTop A u) = 0; omega) hfx
                  rw [← e5, up_i (by omega), up_a (by omega)]
                · rw [← e5]
                  by_cases e8 : j = v
                  · subst e8; rw [up_s]; omega
                  · rw [up_i e8, up_a (by omega)]; exact hrw j y0 (by omega)
end SXM4
