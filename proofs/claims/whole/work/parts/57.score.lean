/-! THE SCORE over the abstract snow (by wip/whole) -/
section SXL4
variable {X : sx_X} {Q : sx_R} {s p b c : Int} {σ σ0 σ' : sx_S} {P : aP} {A : aM}
theorem eqD.fr (h : eqD σ σ') : fr (FC s) σ σ' := fun a i z => h a i (fun e => z (by unfold FC; omega)) (fun e => z (by unfold FC; omega)) (fun e => z (by unfold FC; omega))
theorem eqR.fr (h : eqR σ σ') : fr (FR b) σ σ' := fun a i z => h a i (fun e => z (by unfold FR; omega)) (fun e => z (by unfold FR; omega)) (fun e => z (by unfold FR; omega))
theorem GC.eqD (g : GC s p P A σ) (hs : isS s) (hp : isP p) (h : eqD σ σ') (hsc : SCC σ') : GC s p P A σ' := by
  have h1 := hs.ge
  have h2 : p + 20 < 38 := by rcases hp with h9 | h9 <;> omega
  exact GC.mk (h.pt g.pt) ((h s 1 (by omega) (by omega) (by omega)).trans g.ep) (g.cp.of (fun a i z1 z2 => h a i (by omega) (by omega) (by omega))) (g.cs.of (fun a i z1 z2 => h a i (by omega) (by omega) (by omega))) hsc
theorem GR.eqR (g : GR b P A σ) (h : eqR σ σ') (hsc : SCK σ') : GR b P A σ' :=
  GR.mk (h.pt g.pt) (g.rp.of (fun a i z1 z2 => h a i (by omega) (by omega) (by omega)) (fun i z1 z2 => h _ i (by decide) (by decide) (by omega))) (g.rs.of (fun a i z1 z2 => h a i (by omega) (by omega) (by omega)) (h _ _ (by decide) (by decide) (by decide))) hsc
def aTop (A : aM) (c : Int) : Int := fTop A.ce A.dp A.cv c A.n.toNat
theorem aTop_bd (wm : wM P A c) (e : Int) : -1 ≤ aTop A e ∧ aTop A e < A.n := by
  have h1 := fTop_lt A.ce A.dp A.cv e A.n.toNat
  have h2 := wm.n
  unfold aTop
  omega
theorem cTop (g : cS s σ A) (e : Int) : fTop (σ (s + 6)) (σ (s + 9)) (σ (s + 10)) e (σ (s + 4) 0).toNat = aTop A e := by
  rw [g.n]
  exact fTop_cg (fun i h0 h1 => ⟨g.ce i h0 (by omega), g.dp i h0 (by omega), g.cv i h0 (by omega)⟩)
theorem rTop (g : rS b σ A) (e : Int) : fTop (fun j => σ 147 (90 * b + j)) (fun j => σ 150 (90 * b + j)) (fun j => σ 151 (90 * b + j)) e (σ 154 b).toNat = aTop A e := by
  rw [g.n]
  exact fTop_cg (fun i h0 h1 => ⟨g.ce i h0 (by omega), g.dp i h0 (by omega), g.cv i h0 (by omega)⟩)
theorem a_Rread (hb : b = 0 ∨ b = 1) (wm : wM P A c) (g : GR b P A σ) {e : Int} (h : Q (some (.inl (aTop A e))) shM σ) : sx_Run X 233 [.inr (.inr 124), .inl b, .inl e] shM σ Q := by
  refine c_Rread g.pt hb (by rw [g.rs.n]; exact wm.n) ?_
  rw [rTop g.rs]
  exact h
def aRm (A : aM) : Int := fCnt (fun c => decide (-1 < aTop A c)) 48
theorem a_Sreadall (hs : isS s) (hp : isP p) (wp : wP P) (wm : wM P A c) (g : GC s p P A σ) (h : ∀ σ', fr (FC s) σ σ' → (∀ e : Int, 0 ≤ e → e < 48 → σ' (s + 14) e = aTop A e) → GC s p P A σ' → Q (some (.inl (aRm A))) shM σ') : sx_Run X 92 [.inr (.inr s)] shM σ Q := by
  have hsz := hs.ge
  have v4 := wp.wh
  have hpz : p + 20 < 38 := by rcases hp with h9 | h9 <;> omega
  refine c_Sreadall g.pt hs (by rw [g.cs.n]; exact wm.n) (fun i h0 h1 => ?_) ?_
  · rw [g.cs.n] at h1
    have := wm.ce i h0 h1
    rw [g.cs.ce i h0 h1]
    omega
  have ec : fRs (σ (s + 6)) (σ (s + 9)) (σ (s + 10)) (σ (s + 4) 0).toNat (-1) = aRm A := by
    unfold fRs aRm
    exact fCnt_cg (fun i _ _ => by rw [cTop g.cs])
  rw [ec]
  generalize e : sx_mp _ (s + 14) _ _ = σ'
  have hf : fr (FC s) σ σ' := fun a i z => by
    unfold FC at z
    rw [← e]
    exact mp_a (by omega)
  refine h σ' hf (fun e1 h0 h1 => ?_) (GC.mk (hf.pt hs g.pt) ((hf s 1 (by unfold FC; omega)).trans g.ep) (g.cp.fr hs hp hf) (g.cs.of (fun a i z1 z2 => by rw [← e, mp_a (by omega)])) (g.sc.of (fun a i z1 z2 => by rw [← e, mp_a (by omega)])))
  rw [← e, mp_in h0 h1]
  unfold fRd
  rw [cTop g.cs]
  have := aTop_bd wm e1
  split <;> omega
theorem a_Slawof (hs : isS s) (hp : isP p) (wp : wP P) (wm : wM P A c) (g : GC s p P A σ) {k m : Int} (hk : 0 ≤ k ∧ k < 3) (hm : 0 ≤ m ∧ m < A.n) (h : ∀ σ', eqD σ σ' → GC s p P A σ' → (∀ x, P.lw k (aNm P A m) = some x → pB12 x) → Q (some (.inr (.inl (fLv (P.lw k (aNm P A m)))))) shM σ') : sx_Run X 80 [.inr (.inr s), .inl k, .inl m] shM σ Q := by
  have wn := wm.n
  have v4 := wp.wh
  have v5 := wp.wa
  have u1 := wm.lk m hm.1 hm.2
  have u2 := wm.ce m hm.1 hm.2
  have u3 := wm.bo m hm.1 hm.2
  have u4 := wm.hr
  refine c_Slawof g.pt hs hp g.ep (g.cp.pd wp) g.sc (o := P.lw k (aNm P A m)) hk ⟨hm.1, by omega⟩ (by rw [g.cs.lk m hm.1 hm.2]; omega) (by rw [g.cs.ce m hm.1 hm.2]; omega) (by rw [g.cs.lk m hm.1 hm.2]; exact g.cp.hb _ u1.1 (by omega)) (by rw [g.cs.hr, g.cs.bo m hm.1 hm.2]; omega) (fun j _ _ => ?_) ?_ (fun σ' e1 e2 e3 => h σ' e1 (g.eqD hs hp e1 e2) e3)
  · rw [cNm wp wm g.cp g.cs hm.1 hm.2]
    exact aNm_b wp wm hm.1 hm.2 j
  · rw [cNm wp wm g.cp g.cs hm.1 hm.2]
    exact g.cp.lw k _ hk.1 hk.2 (fun j _ _ => aNm_b wp wm hm.1 hm.2 j)
theorem a_Rlaymark (hb : b = 0 ∨ b = 1) (wp : wP P) (wm : wM P A c) (g : GR b P A σ) {m : Int} (hm : 0 ≤ m ∧ m < A.n) (h : ∀ σ', eqR σ σ' → GR b P A σ' → (∀ j : Int, 0 ≤ j → j < 7 → σ' 144 j = aNm P A m j) → Q none shM σ') : sx_Run X 230 [.inr (.inr 124), .inl b, .inl m] shM σ Q := by
  have wn := wm.n
  have v4 := wp.wh
  have v5 := wp.wa
  have u1 := wm.lk m hm.1 hm.2
  have u2 := wm.ce m hm.1 hm.2
  have u3 := wm.bo m hm.1 hm.2
  have u4 := wm.hr
  refine c_Rlaymark g.pt (g.rp.rd wp) hb ⟨hm.1, by omega⟩ (by rw [g.rs.lk m hm.1 hm.2]; omega) (by rw [g.rs.ce m hm.1 hm.2]; omega) (by rw [g.rs.lk m hm.1 hm.2]; exact g.rp.hb _ u1.1 (by omega)) (by rw [g.rs.hr, g.rs.bo m hm.1 hm.2]; omega) ?_
  rw [rNm wp wm g.rp g.rs hm.1 hm.2]
  generalize e : sx_mp _ 144 _ _ = σ'
  have hq : eqR σ σ' := fun a i z1 z2 z3 => by rw [← e, mp_a z1]
  exact h σ' hq (g.eqR hq (by rw [← e]; exact SCK_mp g.sc _)) (fun j y0 y1 => by rw [← e, mp_in y0 y1])
theorem a_Rbound (g : GR b P A σ) {k kr df lo hi : Int} {nm : Int → Int} (hk : 0 ≤ k ∧ k < 3) (hkr : kr = fLk k) (hlh : 0 ≤ lo ∧ lo ≤ hi ∧ hi ≤ 99) (hnm : ∀ j : Int, 0 ≤ j → j < 7 → σ 144 j = nm j) (hnb : ∀ j : Int, 0 ≤ j → j < 7 → pB12 (nm j)) (h : ∀ σ', eqR σ σ' → GR b P A σ' → Q (some (.inl (fBl (P.lw k nm) df lo hi))) shM σ') : sx_Run X 232 [.inr (.inr 124), .inl kr, .inl df, .inl lo, .inl hi] shM σ Q := by
  have hk6 : 0 ≤ kr ∧ kr < 6 := by rw [hkr]; unfold fLk; split <;> omega
  have hl1 := g.rp.l1 k hk.1 hk.2
  have hl2 := g.rp.l2 k nm hk.1 hk.2
  rw [← hkr] at hl1 hl2
  refine c_Rboundlaw g.pt g.sc hk6 hlh (fun z => (hl1 z).1) (fun z => (hl1 z).2) (fun j y0 y1 => by rw [hnm j y0 y1]; exact hnb j y0 y1) (fun z => ?_) (fun z σ' v heq hsc hv => ?_)
  · have h9 := h σ (eqR_rfl σ) g
    rw [g.rp.l0 k nm hk.1 hk.2 (by rw [← hkr]; exact z)] at h9
    exact h9
  · have e9 : eqR σ σ' := fun a i z1 z2 z3 => heq a i z2 z3
    have h9 := h σ' e9 (g.eqR e9 hsc)
    have hb := hl1 z
    rw [hv, fLaw_nm (by omega) (fun x y0 y1 y2 => hnm _ ((hb.2 x y0 y1).1.2.2.2.1 y2).1 ((hb.2 x y0 y1).1.2.2.2.1 y2).2), ← hl2 z]
    exact h9
/-- what a cell scores for a farm -/
def fScv (P : aP) (A : aM) (f c : Int) : Int := if P.gr c = f ∧ ¬ aTop A c = -1 ∧ A.bl (aTop A c) = 0 ∧ ¬ P.fo (A.lk (aTop A c)) = f then fBl (P.lw 1 (aNm P A (aTop A c))) 1 0 99 else 0
def fSum (f : Int → Int) : Nat → Int
  | 0 => 0
  | n + 1 => fSum f n + f (n : Int)
theorem fSum_s {f : Int → Int} {i : Int} (h : 0 ≤ i) : fSum f (i + 1).toNat = fSum f i.toNat + f i := by
  rw [toNat_s h]
  show _ + f (i.toNat : Int) = _
  rw [Int.toNat_of_nonneg h]
theorem fSum_bd {f : Int → Int} {k : Int} (hf : ∀ i : Int, 0 ≤ f i ∧ f i ≤ k) : ∀ n : Nat, 0 ≤ fSum f n ∧ fSum f n ≤ k * n
  | 0 => by show 0 ≤ (0 : Int) ∧ (0 : Int) ≤ k * ((0 : Nat) : Int); omega
  | n + 1 => by
    have h1 := fSum_bd hf n
    have h2 := hf (n : Int)
    show 0 ≤ fSum f n + f n ∧ fSum f n + f n ≤ k * ((n + 1 : Nat) : Int)
    have h3 : k * ((n + 1 : Nat) : Int) = k * (n : Int) + k := by rw [show ((n + 1 : Nat) : Int) = (n : Int) + 1 by omega, Int.mul_add, Int.mul_one]
    omega
theorem fScv_bd (f c : Int) : 0 ≤ fScv P A f c ∧ fScv P A f c ≤ 99 := by
  unfold fScv
  split
  · exact fBl_bd (by decide) (by decide)
  · decide
def fSco (P : aP) (A : aM) (f : Int) : Int := fSum (fScv P A f) (P.w * P.h).toNat
theorem fSco_bd (wp : wP P) (f : Int) : 0 ≤ fSco P A f ∧ fSco P A f ≤ 4752 := by
  have h1 := fSum_bd (fScv_bd (P := P) (A := A) f) (P.w * P.h).toNat
  have v4 := wp.wh
  unfold fSco
  omega
set_option maxRecDepth 20000 in
theorem a_Sscore (hs : isS s) (hp : isP p) (wp : wP P) (wm : wM P A c) (g0 : GC s p P A σ) {f : Int} (h : ∀ σ', fr (FC s) σ σ' → GC s p P A σ' → Q (some (.inl (fSco P A f))) shM σ') : sx_Run X 93 [.inr (.inr s), .inl f] shM σ Q := by
  have k0 := lkS0 hs
  have k4 := lkS4 hs
  have k5 := lkS5 hs
  have k12 := lkS12 hs
  have k14 := lkS14 hs
  have q0 := lkP0 hp
  have q2 := lkP2 hp
  have q5 := lkP5 hp
  have hsz := hs.ge
  have v4 := wp.wh
  have v5 := wp.wa
  have wn := wm.n
  refine sx_rule2 (own := 9) (cd := kX9_scoreOf) (nL := 5) (by decide +kernel) (by decide +kernel) kX9_scoreOf_ok (by decide +kernel) (Nat.le_of_ble_eq_true rfl) [9] 40 (fun n t L st _ σ' => (t = 9 ∧ ∃ e v : Int, ∃ w4 : Option sx_V, st = [] ∧ L = [some (.inr (.inr (s))), some (.inl (f)), some (.inl (v)), some (.inl (e)), w4] ∧ (fr (FC s) σ σ' ∧ GC s p P A σ' ∧ (∀ e : Int, 0 ≤ e → e < 48 → σ' (s + 14) e = aTop A e) ∧ 0 ≤ e ∧ e ≤ P.w * P.h ∧ v = fSum (fScv P A f) e.toNat) ∧ n = (P.w * P.h - e).toNat)) ?_ ?_
  · skip
    conv => whnf
    refine ⟨Nat.le_of_ble_eq_true rfl, Nat.le_of_ble_eq_true rfl, (by first | assumption | rfl), ?_⟩
    refine a_Sreadall hs hp wp wm g0 ?_
    intro σ1 hf1 hrd1 g1
    conv => whnf
    refine ⟨_, ⟨rfl, _, _, _, rfl, rfl, ?_, rfl⟩⟩
    exact ⟨hf1, g1, hrd1, by omega, by omega, rfl⟩
  · intro n t L st σ' hk
    obtain ⟨rfl, e, v, w4, rfl, rfl, hc, rfl⟩ := hk
    obtain ⟨hfi, gi, hrd, hi0, hi1, hsum⟩ := hc
    have hT' := gi.pt
    have s1 := gi.ep
    have s5 := ptS_5 hT' hs
    have s11 := ptS_11 hT' hs
    have m8 := ptM_8 hT' hs
    have m1 := ptM_1 hT' hs
    have t3 := ptP_3 hT' hp
    have t8 := ptP_8 hT' hp
    have htb := aTop_bd wm e
    have hbd := fSum_bd (fScv_bd (P := P) (A := A) f) e.toNat
    rw [← hsum] at hbd
    have hvb := fScv_bd (P := P) (A := A) f e
    conv => whnf
    refine ⟨(by first | assumption | rfl), ?_⟩
    try simp (disch := omega) only [Int.cast_ofNat_Int, up_s, up_a, up_i, mp_a, mp_ge, s1, s5, s11, m8, m1, t3, t8]
    try simp only [er]
    try simp only [eg]
    try simp only [eb]
    try simp only [el]
    try simp only [ef]
    conv => whnf
    refine ⟨Nat.le_of_ble_eq_true rfl, Nat.le_of_ble_eq_true rfl, (by first | assumption | rfl), ?_⟩
    refine c_Pcells hp (gi.cp.pd wp) ?_
    rw [gi.cp.w, gi.cp.h]
    conv => whnf
    refine ⟨fun g => ?_, fun g => ?_⟩
    · simp only [sx_cc, Classical.not_not] at g
      conv => whnf
      refine ⟨fun q9 => by first | (simp at q9; done) | omega, ?_⟩
      rw [hsum, show e = P.w * P.h by omega]
      exact h _ hfi gi
    · simp only [sx_cc, Classical.not_not] at g
      have er := hrd e hi0 (by omega)
      have eg := gi.cp.gr e hi0 (by omega)
      conv => whnf
      refine ⟨(by first | assumption | rfl), ?_⟩
      try simp (disch := omega) only [Int.cast_ofNat_Int, up_s, up_a, up_i, mp_a, mp_ge, s1, s5, s11, m8, m1, t3, t8]
      try simp only [er]
      try simp only [eg]
      try simp only [eb]
      try simp only [el]
      try simp only [ef]
      conv => whnf
      refine ⟨sx_ixI (by first | assumption | rfl) (by first | omega | (have := wm.lk (aTop A e) (by omega) (by omega); have e9 := gi.cs.lk (aTop A e) (by omega) (by omega); omega)) (by first | omega | (have := wm.lk (aTop A e) (by omega) (by omega); have e9 := gi.cs.lk (aTop A e) (by omega) (by omega); omega)), ?_⟩
      try simp (disch := omega) only [Int.cast_ofNat_Int, up_s, up_a, up_i, mp_a, mp_ge, s1, s5, s11, m8, m1, t3, t8]
      try simp only [er]
      try simp only [eg]
      try simp only [eb]
      try simp only [el]
      try simp only [ef]
      conv => whnf
      refine ⟨(by first | assumption | rfl), ?_⟩
      try simp (disch := omega) only [Int.cast_ofNat_Int, up_s, up_a, up_i, mp_a, mp_ge, s1, s5, s11, m8, m1, t3, t8]
      try simp only [er]
      try simp only [eg]
      try simp only [eb]
      try simp only [el]
      try simp only [ef]
      conv => whnf
      refine ⟨(by first | assumption | rfl), ?_⟩
      try simp (disch := omega) only [Int.cast_ofNat_Int, up_s, up_a, up_i, mp_a, mp_ge, s1, s5, s11, m8, m1, t3, t8]
      try simp only [er]
      try simp only [eg]
      try simp only [eb]
      try simp only [el]
      try simp only [ef]
      conv => whnf
      refine ⟨sx_ixI (by first | assumption | rfl) (by first | omega | (have := wm.lk (aTop A e) (by omega) (by omega); have e9 := gi.cs.lk (aTop A e) (by omega) (by omega); omega)) (by first | omega | (have := wm.lk (aTop A e) (by omega) (by omega); have e9 := gi.cs.lk (aTop A e) (by omega) (by omega); omega)), ?_⟩
      try simp (disch := omega) only [Int.cast_ofNat_Int, up_s, up_a, up_i, mp_a, mp_ge, s1, s5, s11, m8, m1, t3, t8]
      try simp only [er]
      try simp only [eg]
      try simp only [eb]
      try simp only [el]
      try simp only [ef]
      conv => whnf
      refine ⟨fun g => ?_, fun g => ?_⟩
      · simp only [sx_cc, Classical.not_not] at g
        have hno : ¬ (P.gr e = f ∧ ¬ aTop A e = -1 ∧ A.bl (aTop A e) = 0 ∧ ¬ P.fo (A.lk (aTop A e)) = f) := fun z => g z.1
        conv => whnf
        refine ⟨⟨by omega, by omega⟩, ?_⟩
        conv => whnf
        refine ⟨_, ?_, ⟨rfl, _, _, _, rfl, rfl, ?_, rfl⟩⟩
        · omega
        · first | exact ⟨hfi.trans he2.fr, g2, fun y y0 y1 => by rw [he2 _ _ (by omega) (by omega) (by omega)]; exact hrd y y0 y1, by omega, by omega, by rw [fSum_s hi0, hsum]; congr 1; exact (if_pos ⟨hn0, hn1, hn2, hn3⟩).symm⟩ | exact ⟨hfi, gi, hrd, by omega, by omega, by rw [fSum_s hi0, hsum, show fScv P A f e = 0 from if_neg hno]; omega⟩
      · simp only [sx_cc, Classical.not_not] at g
        have hn0 : P.gr e = f := g
        conv => whnf
        refine ⟨fun g => ?_, fun g => ?_⟩
        · simp only [sx_cc, Classical.not_not] at g
          have hno : ¬ (P.gr e = f ∧ ¬ aTop A e = -1 ∧ A.bl (aTop A e) = 0 ∧ ¬ P.fo (A.lk (aTop A e)) = f) := fun z => z.2.1 g
          conv => whnf
          refine ⟨⟨by omega, by omega⟩, ?_⟩
          conv => whnf
          refine ⟨_, ?_, ⟨rfl, _, _, _, rfl, rfl, ?_, rfl⟩⟩
          · omega
          · first | exact ⟨hfi.trans he2.fr, g2, fun y y0 y1 => by rw [he2 _ _ (by omega) (by omega) (by omega)]; exact hrd y y0 y1, by omega, by omega, by rw [fSum_s hi0, hsum]; congr 1; exact (if_pos ⟨hn0, hn1, hn2, hn3⟩).symm⟩ | exact ⟨hfi, gi, hrd, by omega, by omega, by rw [fSum_s hi0, hsum, show fScv P A f e = 0 from if_neg hno]; omega⟩
        · simp only [sx_cc, Classical.not_not] at g
          have hn1 : ¬ aTop A e = -1 := g
          have eb := gi.cs.bl (aTop A e) (by omega) (by omega)
          have el := gi.cs.lk (aTop A e) (by omega) (by omega)
          have ef := gi.cp.fo _ (wm.lk (aTop A e) (by omega) (by omega)).1 (wm.lk (aTop A e) (by omega) (by omega)).2
          conv => whnf
          refine ⟨(by first | assumption | rfl), ?_⟩
          try simp (disch := omega) only [Int.cast_ofNat_Int, up_s, up_a, up_i, mp_a, mp_ge, s1, s5, s11, m8, m1, t3, t8]
          try simp only [er]
          try simp only [eg]
          try simp only [eb]
          try simp only [el]
          try simp only [ef]
          conv => whnf
          refine ⟨(by first | assumption | rfl), ?_⟩
          try simp (disch := omega) only [Int.cast_ofNat_Int, up_s, up_a, up_i, mp_a, mp_ge, s1, s5, s11, m8, m1, t3, t8]
          try simp only [er]
          try simp only [eg]
          try simp only [eb]
          try simp only [el]
          try simp only [ef]
          conv => whnf
          refine ⟨sx_ixI (by first | assumption | rfl) (by first | omega | (have := wm.lk (aTop A e) (by omega) (by omega); have e9 := gi.cs.lk (aTop A e) (by omega) (by omega); omega)) (by first | omega | (have := wm.lk (aTop A e) (by omega) (by omega); have e9 := gi.cs.lk (aTop A e) (by omega) (by omega); omega)), ?_⟩
          try simp (disch := omega) only [Int.cast_ofNat_Int, up_s, up_a, up_i, mp_a, mp_ge, s1, s5, s11, m8, m1, t3, t8]
          try simp only [er]
          try simp only [eg]
          try simp only [eb]
          try simp only [el]
          try simp only [ef]
          conv => whnf
          refine ⟨fun g => ?_, fun g => ?_⟩
          · simp only [sx_cc, Classical.not_not] at g
            have hno : ¬ (P.gr e = f ∧ ¬ aTop A e = -1 ∧ A.bl (aTop A e) = 0 ∧ ¬ P.fo (A.lk (aTop A e)) = f) := fun z => g z.2.2.1
            conv => whnf
            refine ⟨⟨by omega, by omega⟩, ?_⟩
            conv => whnf
            refine ⟨_, ?_, ⟨rfl, _, _, _, rfl, rfl, ?_, rfl⟩⟩
            · omega
            · first | exact ⟨hfi.trans he2.fr, g2, fun y y0 y1 => by rw [he2 _ _ (by omega) (by omega) (by omega)]; exact hrd y y0 y1, by omega, by omega, by rw [fSum_s hi0, hsum]; congr 1; exact (if_pos ⟨hn0, hn1, hn2, hn3⟩).symm⟩ | exact ⟨hfi, gi, hrd, by omega, by omega, by rw [fSum_s hi0, hsum, show fScv P A f e = 0 from if_neg hno]; omega⟩
          · simp only [sx_cc, Classical.not_not] at g
            have hn2 : A.bl (aTop A e) = 0 := g
            conv => whnf
            refine ⟨(by first | assumption | rfl), ?_⟩
            try simp (disch := omega) only [Int.cast_ofNat_Int, up_s, up_a, up_i, mp_a, mp_ge, s1, s5, s11, m8, m1, t3, t8]
            try simp only [er]
            try simp only [eg]
            try simp only [eb]
            try simp only [el]
            try simp only [ef]
            conv => whnf
            refine ⟨(by first | assumption | rfl), ?_⟩
            try simp (disch := omega) only [Int.cast_ofNat_Int, up_s, up_a, up_i, mp_a, mp_ge, s1, s5, s11, m8, m1, t3, t8]
            try simp only [er]
            try simp only [eg]
            try simp only [eb]
            try simp only [el]
            try simp only [ef]
            conv => whnf
            refine ⟨(by first | assumption | rfl), ?_⟩
            try simp (disch := omega) only [Int.cast_ofNat_Int, up_s, up_a, up_i, mp_a, mp_ge, s1, s5, s11, m8, m1, t3, t8]
            try simp only [er]
            try simp only [eg]
            try simp only [eb]
            try simp only [el]
            try simp only [ef]
            conv => whnf
            refine ⟨(by first | assumption | rfl), ?_⟩
            try simp (disch := omega) only [Int.cast_ofNat_Int, up_s, up_a, up_i, mp_a, mp_ge, s1, s5, s11, m8, m1, t3, t8]
            try simp only [er]
            try simp only [eg]
            try simp only [eb]
            try simp only [el]
            try simp only [ef]
            conv => whnf
            refine ⟨sx_ixI (by first | assumption | rfl) (by first | omega | (have := wm.lk (aTop A e) (by omega) (by omega); have e9 := gi.cs.lk (aTop A e) (by omega) (by omega); omega)) (by first | omega | (have := wm.lk (aTop A e) (by omega) (by omega); have e9 := gi.cs.lk (aTop A e) (by omega) (by omega); omega)), ?_⟩
            try simp (disch := omega) only [Int.cast_ofNat_Int, up_s, up_a, up_i, mp_a, mp_ge, s1, s5, s11, m8, m1, t3, t8]
            try simp only [er]
            try simp only [eg]
            try simp only [eb]
            try simp only [el]
            try simp only [ef]
            conv => whnf
            refine ⟨sx_ixI (by first | assumption | rfl) (by first | omega | (have := wm.lk (aTop A e) (by omega) (by omega); have e9 := gi.cs.lk (aTop A e) (by omega) (by omega); omega)) (by first | omega | (have := wm.lk (aTop A e) (by omega) (by omega); have e9 := gi.cs.lk (aTop A e) (by omega) (by omega); omega)), ?_⟩
            try simp (disch := omega) only [Int.cast_ofNat_Int, up_s, up_a, up_i, mp_a, mp_ge, s1, s5, s11, m8, m1, t3, t8]
            try simp only [er]
            try simp only [eg]
            try simp only [eb]
            try simp only [el]
            try simp only [ef]
            conv => whnf
            refine ⟨fun g => ?_, fun g => ?_⟩
            · simp only [sx_cc, Classical.not_not] at g
              have hno : ¬ (P.gr e = f ∧ ¬ aTop A e = -1 ∧ A.bl (aTop A e) = 0 ∧ ¬ P.fo (A.lk (aTop A e)) = f) := fun z => z.2.2.2 g
              conv => whnf
              refine ⟨⟨by omega, by omega⟩, ?_⟩
              conv => whnf
              refine ⟨_, ?_, ⟨rfl, _, _, _, rfl, rfl, ?_, rfl⟩⟩
              · omega
              · first | exact ⟨hfi.trans he2.fr, g2, fun y y0 y1 => by rw [he2 _ _ (by omega) (by omega) (by omega)]; exact hrd y y0 y1, by omega, by omega, by rw [fSum_s hi0, hsum]; congr 1; exact (if_pos ⟨hn0, hn1, hn2, hn3⟩).symm⟩ | exact ⟨hfi, gi, hrd, by omega, by omega, by rw [fSum_s hi0, hsum, show fScv P A f e = 0 from if_neg hno]; omega⟩
            · simp only [sx_cc, Classical.not_not] at g
              have hn3 : ¬ P.fo (A.lk (aTop A e)) = f := g
              conv => whnf
              refine ⟨Nat.le_of_ble_eq_true rfl, Nat.le_of_ble_eq_true rfl, (by first | assumption | rfl), ?_⟩
              refine a_Slawof hs hp wp wm gi ⟨by decide, by decide⟩ ⟨by omega, by omega⟩ ?_
              intro σ2 he2 g2 hb2
              conv => whnf
              refine ⟨Nat.le_of_ble_eq_true rfl, Nat.le_of_ble_eq_true rfl, ?_⟩
              refine c_Sbounded2 hb2 ⟨by decide, by decide⟩ ?_
              have hv2 := fBl_bd (o := P.lw 1 (aNm P A (aTop A e))) (lo := 0) (df := 1) (by decide) (by decide)
              conv => whnf
              refine ⟨⟨by omega, by omega⟩, ?_⟩
              conv => whnf
              refine ⟨⟨by omega, by omega⟩, ?_⟩
              conv => whnf
              refine ⟨_, ?_, ⟨rfl, _, _, _, rfl, rfl, ?_, rfl⟩⟩
              · omega
              · first | exact ⟨hfi.trans he2.fr, g2, fun y y0 y1 => by rw [he2 _ _ (by omega) (by omega) (by omega)]; exact hrd y y0 y1, by omega, by omega, by rw [fSum_s hi0, hsum]; congr 1; exact (if_pos ⟨hn0, hn1, hn2, hn3⟩).symm⟩ | exact ⟨hfi, gi, hrd, by omega, by omega, by rw [fSum_s hi0, hsum, show fScv P A f e = 0 from if_neg hno]; omega⟩
set_option maxRecDepth 20000 in
theorem a_Rscore (hb : b = 0 ∨ b = 1) (wp : wP P) (wm : wM P A c) (g0 : GR b P A σ) {f : Int} (h : ∀ σ', eqR σ σ' → GR b P A σ' → Q (some (.inl (fSco P A f))) shM σ') : sx_Run X 234 [.inr (.inr 124), .inl b, .inl f] shM σ Q := by
  have v4 := wp.wh
  have v5 := wp.wa
  have wn := wm.n
  refine sx_rule2 (own := 12) (cd := kX12_scoreOf) (nL := 6) (by decide +kernel) (by decide +kernel) kX12_scoreOf_ok (by decide +kernel) (Nat.le_of_ble_eq_true rfl) [5] 40 (fun n t L st _ σ' => (t = 5 ∧ ∃ e v : Int, ∃ w5 : Option sx_V, st = [] ∧ L = [some (.inr (.inr (124))), some (.inl (b)), some (.inl (f)), some (.inl (v)), some (.inl (e)), w5] ∧ (eqR σ σ' ∧ GR b P A σ' ∧ 0 ≤ e ∧ e ≤ P.w * P.h ∧ v = fSum (fScv P A f) e.toNat) ∧ n = (P.w * P.h - e).toNat)) ?_ ?_
  · skip
    conv => whnf
    refine ⟨_, ⟨rfl, _, _, _, rfl, rfl, ?_, rfl⟩⟩
    exact ⟨eqR_rfl σ, g0, by omega, by omega, rfl⟩
  · intro n t L st σ' hk
    obtain ⟨rfl, e, v, w5, rfl, rfl, hc, rfl⟩ := hk
    obtain ⟨hfi, gi, hi0, hi1, hsum⟩ := hc
    have hT' := gi.pt
    have r31 := pt_124_31 hT'
    have r34 := pt_124_34 hT'
    have r57 := pt_124_57 hT'
    have r64 := pt_124_64 hT'
    have htb := aTop_bd wm e
    have hbd := fSum_bd (fScv_bd (P := P) (A := A) f) e.toNat
    rw [← hsum] at hbd
    conv => whnf
    refine ⟨Nat.le_of_ble_eq_true rfl, Nat.le_of_ble_eq_true rfl, (by first | assumption | rfl), ?_⟩
    refine c_Rcells (gi.rp.rd wp) ?_
    rw [gi.rp.w, gi.rp.h]
    conv => whnf
    refine ⟨fun g => ?_, fun g => ?_⟩
    · simp only [sx_cc, Classical.not_not] at g
      conv => whnf
      refine ⟨fun q9 => by first | (simp at q9; done) | omega, ?_⟩
      rw [hsum, show e = P.w * P.h by omega]
      exact h _ hfi gi
    · simp only [sx_cc, Classical.not_not] at g
      have eg := gi.rp.gr e hi0 (by omega)
      conv => whnf
      refine ⟨(by first | assumption | rfl), ?_⟩
      try simp (disch := omega) only [Int.cast_ofNat_Int, up_s, up_a, up_i, mp_a, mp_ge, r31, r34, r57, r64]
      try simp only [eb]
      try simp only [el]
      try simp only [ef]
      try simp only [eg]
      conv => whnf
      refine ⟨sx_ixI (by first | assumption | rfl) (by omega) (by omega), ?_⟩
      try simp (disch := omega) only [Int.cast_ofNat_Int, up_s, up_a, up_i, mp_a, mp_ge, r31, r34, r57, r64]
      try simp only [eb]
      try simp only [el]
      try simp only [ef]
      try simp only [eg]
      conv => whnf
      refine ⟨fun g => ?_, fun g => ?_⟩
      · simp only [sx_cc, Classical.not_not] at g
        have hno : ¬ (P.gr e = f ∧ ¬ aTop A e = -1 ∧ A.bl (aTop A e) = 0 ∧ ¬ P.fo (A.lk (aTop A e)) = f) := fun z => g z.1
        conv => whnf
        refine ⟨fun g => ?_, fun g => ?_⟩
        · skip
          conv => whnf
          refine ⟨⟨by omega, by omega⟩, ?_⟩
          conv => whnf
          refine ⟨_, ?_, ⟨rfl, _, _, _, rfl, rfl, ?_, rfl⟩⟩
          · omega
          · first | exact ⟨(hfi.trans he1).trans he2, g2, by omega, by omega, by rw [fSum_s hi0, hsum]; congr 1; exact (if_pos ⟨hn0, hn1, hn2, hn3⟩).symm⟩ | exact ⟨hfi, gi, by omega, by omega, by rw [fSum_s hi0, hsum, show fScv P A f e = 0 from if_neg hno]; omega⟩
        · exact absurd g (by simp [sx_cc])
      · simp only [sx_cc, Classical.not_not] at g
        have hn0 : P.gr e = f := g
        conv => whnf
        refine ⟨Nat.le_of_ble_eq_true rfl, Nat.le_of_ble_eq_true rfl, (by first | assumption | rfl), ?_⟩
        refine a_Rread hb wm gi ?_
        conv => whnf
        refine ⟨fun g => ?_, fun g => ?_⟩
        · simp only [sx_cc, Classical.not_not] at g
          have hno : ¬ (P.gr e = f ∧ ¬ aTop A e = -1 ∧ A.bl (aTop A e) = 0 ∧ ¬ P.fo (A.lk (aTop A e)) = f) := fun z => z.2.1 (by omega)
          conv => whnf
          refine ⟨⟨by omega, by omega⟩, ?_⟩
          conv => whnf
          refine ⟨_, ?_, ⟨rfl, _, _, _, rfl, rfl, ?_, rfl⟩⟩
          · omega
          · first | exact ⟨(hfi.trans he1).trans he2, g2, by omega, by omega, by rw [fSum_s hi0, hsum]; congr 1; exact (if_pos ⟨hn0, hn1, hn2, hn3⟩).symm⟩ | exact ⟨hfi, gi, by omega, by omega, by rw [fSum_s hi0, hsum, show fScv P A f e = 0 from if_neg hno]; omega⟩
        · simp only [sx_cc, Classical.not_not] at g
          have hn1 : ¬ aTop A e = -1 := by omega
          have eb := gi.rs.bl (aTop A e) (by omega) (by omega)
          have el := gi.rs.lk (aTop A e) (by omega) (by omega)
          have ul := wm.lk (aTop A e) (by omega) (by omega)
          have ef := gi.rp.fo _ ul.1 ul.2
          conv => whnf
          refine ⟨(by first | assumption | rfl), ?_⟩
          try simp (disch := omega) only [Int.cast_ofNat_Int, up_s, up_a, up_i, mp_a, mp_ge, r31, r34, r57, r64]
          try simp only [eb]
          try simp only [el]
          try simp only [ef]
          try simp only [eg]
          conv => whnf
          refine ⟨⟨by omega, by omega⟩, ?_⟩
          conv => whnf
          refine ⟨⟨by omega, by omega⟩, ?_⟩
          conv => whnf
          refine ⟨by decide, ?_⟩
          conv => whnf
          refine ⟨sx_ixI (by first | assumption | rfl) (by omega) (by omega), ?_⟩
          try simp (disch := omega) only [Int.cast_ofNat_Int, up_s, up_a, up_i, mp_a, mp_ge, r31, r34, r57, r64]
          try simp only [eb]
          try simp only [el]
          try simp only [ef]
          try simp only [eg]
          conv => whnf
          refine ⟨fun g => ?_, fun g => ?_⟩
          · simp only [sx_cc, Classical.not_not] at g
            have hno : ¬ (P.gr e = f ∧ ¬ aTop A e = -1 ∧ A.bl (aTop A e) = 0 ∧ ¬ P.fo (A.lk (aTop A e)) = f) := fun z => g z.2.2.1
            conv => whnf
            refine ⟨⟨by omega, by omega⟩, ?_⟩
            conv => whnf
            refine ⟨_, ?_, ⟨rfl, _, _, _, rfl, rfl, ?_, rfl⟩⟩
            · omega
            · first | exact ⟨(hfi.trans he1).trans he2, g2, by omega, by omega, by rw [fSum_s hi0, hsum]; congr 1; exact (if_pos ⟨hn0, hn1, hn2, hn3⟩).symm⟩ | exact ⟨hfi, gi, by omega, by omega, by rw [fSum_s hi0, hsum, show fScv P A f e = 0 from if_neg hno]; omega⟩
          · simp only [sx_cc, Classical.not_not] at g
            have hn2 : A.bl (aTop A e) = 0 := g
            conv => whnf
            refine ⟨(by first | assumption | rfl), ?_⟩
            try simp (disch := omega) only [Int.cast_ofNat_Int, up_s, up_a, up_i, mp_a, mp_ge, r31, r34, r57, r64]
            try simp only [eb]
            try simp only [el]
            try simp only [ef]
            try simp only [eg]
            conv => whnf
            refine ⟨(by first | assumption | rfl), ?_⟩
            try simp (disch := omega) only [Int.cast_ofNat_Int, up_s, up_a, up_i, mp_a, mp_ge, r31, r34, r57, r64]
            try simp only [eb]
            try simp only [el]
            try simp only [ef]
            try simp only [eg]
            conv => whnf
            refine ⟨⟨by omega, by omega⟩, ?_⟩
            conv => whnf
            refine ⟨⟨by omega, by omega⟩, ?_⟩
            conv => whnf
            refine ⟨sx_ixI (by first | assumption | rfl) (by omega) (by omega), ?_⟩
            try simp (disch := omega) only [Int.cast_ofNat_Int, up_s, up_a, up_i, mp_a, mp_ge, r31, r34, r57, r64]
            try simp only [eb]
            try simp only [el]
            try simp only [ef]
            try simp only [eg]
            conv => whnf
            refine ⟨sx_ixI (by first | assumption | rfl) (by omega) (by omega), ?_⟩
            try simp (disch := omega) only [Int.cast_ofNat_Int, up_s, up_a, up_i, mp_a, mp_ge, r31, r34, r57, r64]
            try simp only [eb]
            try simp only [el]
            try simp only [ef]
            try simp only [eg]
            conv => whnf
            refine ⟨fun g => ?_, fun g => ?_⟩
            · simp only [sx_cc, Classical.not_not] at g
              have hn3 : ¬ P.fo (A.lk (aTop A e)) = f := (by omega)
              conv => whnf
              refine ⟨Nat.le_of_ble_eq_true rfl, Nat.le_of_ble_eq_true rfl, (by first | assumption | rfl), ?_⟩
              refine a_Rlaymark hb wp wm gi ⟨by omega, by omega⟩ ?_
              intro σ1 he1 g1 hnm1
              conv => whnf
              refine ⟨Nat.le_of_ble_eq_true rfl, Nat.le_of_ble_eq_true rfl, (by first | assumption | rfl), ?_⟩
              refine a_Rbound (k := 1) g1 ⟨by decide, by decide⟩ (by decide) ⟨by decide, by decide, by decide⟩ hnm1 (fun j _ _ => aNm_b wp wm (by omega) (by omega) j) ?_
              intro σ2 he2 g2
              have hv2 := fBl_bd (o := P.lw 1 (aNm P A (aTop A e))) (lo := 0) (df := 1) (by decide) (by decide)
              conv => whnf
              refine ⟨⟨by omega, by omega⟩, ?_⟩
              conv => whnf
              refine ⟨⟨by omega, by omega⟩, ?_⟩
              conv => whnf
              refine ⟨_, ?_, ⟨rfl, _, _, _, rfl, rfl, ?_, rfl⟩⟩
              · omega
              · first | exact ⟨(hfi.trans he1).trans he2, g2, by omega, by omega, by rw [fSum_s hi0, hsum]; congr 1; exact (if_pos ⟨hn0, hn1, hn2, hn3⟩).symm⟩ | exact ⟨hfi, gi, by omega, by omega, by rw [fSum_s hi0, hsum, show fScv P A f e = 0 from if_neg hno]; omega⟩
            · simp only [sx_cc, Classical.not_not] at g
              have hno : ¬ (P.gr e = f ∧ ¬ aTop A e = -1 ∧ A.bl (aTop A e) = 0 ∧ ¬ P.fo (A.lk (aTop A e)) = f) := fun z => z.2.2.2 (by omega)
              conv => whnf
              refine ⟨⟨by omega, by omega⟩, ?_⟩
              conv => whnf
              refine ⟨_, ?_, ⟨rfl, _, _, _, rfl, rfl, ?_, rfl⟩⟩
              · omega
              · first | exact ⟨(hfi.trans he1).trans he2, g2, by omega, by omega, by rw [fSum_s hi0, hsum]; congr 1; exact (if_pos ⟨hn0, hn1, hn2, hn3⟩).symm⟩ | exact ⟨hfi, gi, by omega, by omega, by rw [fSum_s hi0, hsum, show fScv P A f e = 0 from if_neg hno]; omega⟩
end SXL4
