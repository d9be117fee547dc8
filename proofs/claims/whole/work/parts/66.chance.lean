/-! CHANCE over the abstract snow (by wip/whole) -/
section SXL13
variable {X : sx_X} {Q : sx_R} {s t p b c kk : Int} {σ σ0 σ' σ1 σ2 : sx_S} {P : aP} {A B : aM} {W : aW}
def aM.wl (A : aM) (l : Int) : aM := aM.mk A.n A.hr A.sn l A.lk A.ce A.wy A.bo A.dp A.cv A.ow A.bl
theorem wM.wl (wm : wM P A c) {l : Int} (hl : 0 ≤ l ∧ l ≤ 2147483647) : wM P (A.wl l) c := wM.mk wm.n wm.hr wm.sn hl wm.lk wm.ce wm.wy wm.bo wm.dp wm.cv wm.ow wm.bl
def fNts (P : aP) : Nat → aM → aM
  | 0, A => A
  | k + 1, A => fNs P (fNts P k A)
theorem fNts_s {i : Int} (h : 0 ≤ i) : fNts P (i + 1).toNat A = fNs P (fNts P i.toNat A) := by
  rw [show (i + 1).toNat = i.toNat + 1 by omega]; rfl
theorem fNts_hr : ∀ k : Nat, (fNts P k A).hr = A.hr + k
  | 0 => by show A.hr = A.hr + ((0 : Nat) : Int); omega
  | k + 1 => by
    show (fNs P (fNts P k A)).hr = _
    rw [fNs_hr, fNts_hr k]; omega
theorem wM.nts (wm : wM P A c) : ∀ k : Nat, A.hr + k ≤ 9999 → wM P (fNts P k A) (c + 9 * k)
  | 0, _ => wm.up (by omega)
  | k + 1, h => ((wM.nts wm k (by omega)).ns (by rw [fNts_hr k]; omega)).up (by omega)
def aLs (P : aP) (A : aM) (k : Nat) (sd : Int) : Nat → Int
  | 0 => sd
  | d + 1 => (fNts P k (A.wl (aLs P A k sd d))).la
def aCb (P : aP) (A : aM) (k : Nat) (sd : Int) (d : Nat) : aM := fNts P k (A.wl (aLs P A k sd d))
theorem aLs_s {k : Nat} {sd i : Int} (h : 0 ≤ i) : aLs P A k sd (i + 1).toNat = (aCb P A k sd i.toNat).la := by
  rw [toNat_s h]; rfl
theorem aLs_bd (wm : wM P A c) {k : Nat} {sd : Int} (hs : 0 ≤ sd ∧ sd ≤ 2147483647) (hk : A.hr + k ≤ 9999) : ∀ d : Nat, 0 ≤ aLs P A k sd d ∧ aLs P A k sd d ≤ 2147483647
  | 0 => hs
  | d + 1 => ((wm.wl (aLs_bd wm hs hk d)).nts k hk).la
def fChb (P : aP) (A : aM) (k : Nat) (sd f bd : Int) : Int → Bool := fun d => decide (bd ≤ fSco P (aCb P A k sd d.toNat) f)
abbrev pCh (P : aP) (A : aM) (sd x f bd : Int) : Prop := 0 ≤ sd ∧ 1 ≤ x ∧ x ≤ 9 ∧ 0 ≤ f ∧ f < P.fa ∧ 0 ≤ bd ∧ bd ≤ 9999 ∧ A.hr + x ≤ 9999
theorem GC.wl (g : GC 70 p P A σ) (hp : isP p) {l : Int} : GC 70 p P (A.wl l) (sx_up σ 70 10 l) := by
  have h2 : p + 20 < 38 := by rcases hp with h9 | h9 <;> omega
  refine GC.mk (PT_fd (k := 10) g.pt (lkS0 (Or.inr (Or.inr rfl))) (by decide)) ((up_i (by decide)).trans g.ep) (g.cp.of (fun a i z1 z2 => up_a (by omega))) ?_ (g.sc.of (fun a i z1 z2 => up_a (by omega)))
  refine cS.mk ((up_a (by decide)).trans g.cs.n) ((up_i (by decide)).trans g.cs.hr) ((up_i (by decide)).trans g.cs.sn) up_s (fun m y0 y1 => (up_a (by decide)).trans (g.cs.lk m y0 y1)) (fun m y0 y1 => (up_a (by decide)).trans (g.cs.ce m y0 y1)) (fun m y0 y1 => (up_a (by decide)).trans (g.cs.wy m y0 y1)) (fun m y0 y1 => (up_a (by decide)).trans (g.cs.bo m y0 y1)) (fun m y0 y1 => (up_a (by decide)).trans (g.cs.dp m y0 y1)) (fun m y0 y1 => (up_a (by decide)).trans (g.cs.cv m y0 y1)) (fun m y0 y1 => (up_a (by decide)).trans (g.cs.ow m y0 y1)) (fun m y0 y1 => (up_a (by decide)).trans (g.cs.bl m y0 y1))
theorem cWz (h : fr FZ σ σ') (hW : cW P 40 σ W) : cW P 40 σ' W := hW.of (fun a i z => h _ _ (by unfold FZ; omega))
abbrev FZS (a i : Int) : Prop := (146 ≤ a ∧ a ≤ 153 ∧ 90 ≤ i) ∨ (154 ≤ a ∧ a ≤ 156 ∧ i = 1) ∨ a = 144 ∨ a = 145 ∨ (a = 124 ∧ (i = 56 ∨ i = 73))
theorem fr.ys (h : fr FY σ σ') : fr FZS σ σ' := h.mono (fun a i z => by unfold FY at z; unfold FZS; omega)
theorem fr.rs (h : fr (FR 1) σ σ') : fr FZS σ σ' := h.mono (fun a i z => by unfold FR at z; unfold FZS; omega)
theorem eqR_s (h : eqR σ σ') : fr FZS σ σ' := fun a i z => h a i (fun e => z (by unfold FZS; omega)) (fun e => z (by unfold FZS; omega)) (fun e => z (by unfold FZS; omega))
theorem rS.wl (g : rS 0 σ A) (wn : A.n ≤ 90) (h : fr FZS σ σ') {l : Int} (e : σ' 124 73 = l) : rS 0 σ' (A.wl l) :=
  rS.mk ((h _ _ (by decide)).trans g.n) ((h _ _ (by decide)).trans g.hr) ((h _ _ (by decide)).trans g.sn) e (fun m y0 y1 => (h _ _ (by have y2 : m < A.n := y1; unfold FZS; omega)).trans (g.lk m y0 y1)) (fun m y0 y1 => (h _ _ (by have y2 : m < A.n := y1; unfold FZS; omega)).trans (g.ce m y0 y1)) (fun m y0 y1 => (h _ _ (by have y2 : m < A.n := y1; unfold FZS; omega)).trans (g.wy m y0 y1)) (fun m y0 y1 => (h _ _ (by have y2 : m < A.n := y1; unfold FZS; omega)).trans (g.bo m y0 y1)) (fun m y0 y1 => (h _ _ (by have y2 : m < A.n := y1; unfold FZS; omega)).trans (g.dp m y0 y1)) (fun m y0 y1 => (h _ _ (by have y2 : m < A.n := y1; unfold FZS; omega)).trans (g.cv m y0 y1)) (fun m y0 y1 => (h _ _ (by have y2 : m < A.n := y1; unfold FZS; omega)).trans (g.ow m y0 y1)) (fun m y0 y1 => (h _ _ (by have y2 : m < A.n := y1; unfold FZS; omega)).trans (g.bl m y0 y1))
theorem rP_zs (g : rP σ P) (h : fr FZS σ σ') : rP σ' P := g.of (fun a i z1 z2 => h _ _ (by unfold FZS; omega)) (fun i z1 z2 => h _ _ (by unfold FZS; omega))
set_option maxRecDepth 20000 in
theorem c_chance (hp : isP p) (e2 : σ 0 2 = p) (wp : wP P) (wm : wM P A c) (hc : c ≤ 800000) (g0 : GC 40 p P A σ) (hW : cW P 40 σ W) {sd x f bd : Int} (hsd : sd ≤ 2147483647) (h0 : ¬ pCh P A sd x f bd → Q (some (.inl (-1))) shM σ) (h1 : pCh P A sd x f bd → ∀ σ', fr FZ σ σ' → GC 40 p P A σ' → cW P 40 σ' W → Q (some (.inl (fCnt (fChb P A x.toNat sd f bd) 10))) shM σ') : sx_Run X 164 [.inr (.inr 0), .inl sd, .inl x, .inl f, .inl bd] shM σ Q := by
  have hs4 : isS 40 := Or.inl rfl
  have hs7 : isS 70 := Or.inr (Or.inr rfl)
  have whr := wm.hr
  have k0 := lkS0 hs7
  have a6 := pt_0_6 g0.pt
  have q0 := lkP0 hp
  refine sx_rule2 (own := 11) (cd := kX11_chance) (nL := 10) (by decide +kernel) (by decide +kernel) kX11_chance_ok (by decide +kernel) (Nat.le_of_ble_eq_true rfl) [64, 94] 40 (fun n t L st _ σ' => (t = 64 ∧ ∃ v l d : Int, ∃ w9 : Option sx_V, st = [] ∧ L = [some (.inr (.inr (0))), some (.inl (sd)), some (.inl (x)), some (.inl (f)), some (.inl (bd)), some (.inl (v)), some (.inr (.inl (l))), none, some (.inl (d)), w9] ∧ (fr FZ σ σ' ∧ GC 40 p P A σ' ∧ cW P 40 σ' W ∧ pCh P A sd x f bd ∧ 0 ≤ d ∧ d ≤ 10 ∧ v = fCnt (fChb P A x.toNat sd f bd) d.toNat ∧ l = aLs P A x.toNat sd d.toNat) ∧ n = ((10 - d) * 100 + 50).toNat) ∨ (t = 94 ∧ ∃ v l d i : Int, st = [] ∧ L = [some (.inr (.inr (0))), some (.inl (sd)), some (.inl (x)), some (.inl (f)), some (.inl (bd)), some (.inl (v)), some (.inr (.inl (l))), none, some (.inl (d)), some (.inl (i))] ∧ (fr FZ σ σ' ∧ GC 40 p P A σ' ∧ cW P 40 σ' W ∧ GC 70 p P (fNts P i.toNat (A.wl l)) σ' ∧ pCh P A sd x f bd ∧ 0 ≤ d ∧ d < 10 ∧ v = fCnt (fChb P A x.toNat sd f bd) d.toNat ∧ l = aLs P A x.toNat sd d.toNat ∧ 0 ≤ i ∧ i ≤ x) ∧ n = ((10 - d) * 100 + (x - i)).toNat)) ?_ ?_
  · skip
    conv => whnf
    refine ⟨fun g => ?_, fun g => ?_⟩
    · simp only [sx_cc, Classical.not_not] at g
      conv => whnf
      refine ⟨fun q9 => by first | (simp at q9; done) | omega, ?_⟩
      exact h0 (by unfold pCh; omega)
    · simp only [sx_cc, Classical.not_not] at g
      conv => whnf
      refine ⟨fun g => ?_, fun g => ?_⟩
      · simp only [sx_cc, Classical.not_not] at g
        conv => whnf
        refine ⟨fun q9 => by first | (simp at q9; done) | omega, ?_⟩
        exact h0 (by unfold pCh; omega)
      · simp only [sx_cc, Classical.not_not] at g
        conv => whnf
        refine ⟨fun g => ?_, fun g => ?_⟩
        · simp only [sx_cc, Classical.not_not] at g
          conv => whnf
          refine ⟨fun q9 => by first | (simp at q9; done) | omega, ?_⟩
          exact h0 (by unfold pCh; omega)
        · simp only [sx_cc, Classical.not_not] at g
          conv => whnf
          refine ⟨(by first | assumption | rfl), ?_⟩
          try simp (disch := omega) only [Int.cast_ofNat_Int, up_s, up_a, up_i, mp_a, mp_ge]
          try simp only [e2]
          try simp only [a6]
          try simp only [a8]
          try simp only [ela]
          conv => whnf
          refine ⟨Nat.le_of_ble_eq_true rfl, Nat.le_of_ble_eq_true rfl, (by first | assumption | rfl), ?_⟩
          refine c_Phasfarm hp (fun y1 y2 => ?_) (fun y0 => ?_)
          · rw [g0.cp.fa] at y2
            conv => whnf
            refine ⟨fun g => ?_, fun g => ?_⟩
            · exact absurd g (by simp [sx_cc])
            · skip
              conv => whnf
              refine ⟨fun g => ?_, fun g => ?_⟩
              · simp only [sx_cc, Classical.not_not] at g
                conv => whnf
                refine ⟨fun q9 => by first | (simp at q9; done) | omega, ?_⟩
                exact h0 (by unfold pCh; omega)
              · simp only [sx_cc, Classical.not_not] at g
                conv => whnf
                refine ⟨fun g => ?_, fun g => ?_⟩
                · simp only [sx_cc, Classical.not_not] at g
                  conv => whnf
                  refine ⟨(by first | assumption | rfl), ?_⟩
                  try simp (disch := omega) only [Int.cast_ofNat_Int, up_s, up_a, up_i, mp_a, mp_ge]
                  try simp only [e2]
                  try simp only [a6]
                  try simp only [a8]
                  try simp only [ela]
                  conv => whnf
                  refine ⟨Nat.le_of_ble_eq_true rfl, Nat.le_of_ble_eq_true rfl, (by first | assumption | rfl), ?_⟩
                  refine c_Shours hs4 (by rw [g0.cs.hr]; exact wm.hr) (fun y1 => ?_) (fun y1 => ?_)
                  · rw [g0.cs.hr] at y1
                    conv => whnf
                    refine ⟨fun g => ?_, fun g => ?_⟩
                    · skip
                      conv => whnf
                      refine ⟨_, Or.inl ⟨rfl, _, _, _, _, rfl, rfl, ?_, rfl⟩⟩
                      exact ⟨fr.rfl, g0, hW, ⟨by omega, by omega, by omega, by omega, by omega, by omega, by omega, by omega⟩, by omega, by omega, rfl, rfl⟩
                    · exact absurd g (by simp [sx_cc])
                  · rw [g0.cs.hr] at y1
                    conv => whnf
                    refine ⟨fun g => ?_, fun g => ?_⟩
                    · exact absurd g (by simp [sx_cc])
                    · skip
                      conv => whnf
                      refine ⟨fun q9 => by first | (simp at q9; done) | omega, ?_⟩
                      exact h0 (by unfold pCh; omega)
                · simp only [sx_cc, Classical.not_not] at g
                  conv => whnf
                  refine ⟨fun q9 => by first | (simp at q9; done) | omega, ?_⟩
                  exact h0 (by unfold pCh; omega)
          · rw [g0.cp.fa] at y0
            conv => whnf
            refine ⟨fun g => ?_, fun g => ?_⟩
            · skip
              conv => whnf
              refine ⟨fun q9 => by first | (simp at q9; done) | omega, ?_⟩
              exact h0 (by unfold pCh; omega)
            · exact absurd g (by simp [sx_cc])
  · intro n t L st σ' hk
    rcases hk with hk | hk
    · obtain ⟨rfl, v, l, d, w9, rfl, rfl, hc, rfl⟩ := hk
      obtain ⟨hfi, gi, wi, hq, hd0, hd1, hcn, hla⟩ := hc
      have a6 := pt_0_6 gi.pt
      have a8 := pt_0_8 gi.pt
      have hlb := aLs_bd wm (k := x.toNat) (sd := sd) ⟨by omega, hsd⟩ (by omega) d.toNat
      rw [← hla] at hlb
      have hcb := fCnt_le (fChb P A x.toNat sd f bd) d.toNat
      rw [← hcn] at hcb
      conv => whnf
      refine ⟨fun g => ?_, fun g => ?_⟩
      · simp only [sx_cc, Classical.not_not] at g
        conv => whnf
        refine ⟨fun q9 => by first | (simp at q9; done) | omega, ?_⟩
        rw [hcn, show d = 10 by omega]
        exact h1 hq _ hfi gi wi
      · simp only [sx_cc, Classical.not_not] at g
        conv => whnf
        refine ⟨(by first | assumption | rfl), ?_⟩
        try simp (disch := omega) only [Int.cast_ofNat_Int, up_s, up_a, up_i, mp_a, mp_ge]
        try simp only [e2]
        try simp only [a6]
        try simp only [a8]
        try simp only [ela]
        conv => whnf
        refine ⟨(by first | assumption | rfl), ?_⟩
        try simp (disch := omega) only [Int.cast_ofNat_Int, up_s, up_a, up_i, mp_a, mp_ge]
        try simp only [e2]
        try simp only [a6]
        try simp only [a8]
        try simp only [ela]
        conv => whnf
        refine ⟨Nat.le_of_ble_eq_true rfl, Nat.le_of_ble_eq_true rfl, (by first | assumption | rfl), ?_⟩
        refine a_Stake hs7 hs4 hp (by decide) wp wm gi wi ?_
        intro σ1 hf1 g1 w1
        have a8 := pt_0_8 g1.pt
        conv => whnf
        refine ⟨(by first | assumption | rfl), ?_⟩
        try simp (disch := omega) only [Int.cast_ofNat_Int, up_s, up_a, up_i, mp_a, mp_ge]
        try simp only [e2]
        try simp only [a6]
        try simp only [a8]
        try simp only [ela]
        conv => whnf
        refine ⟨(by first | assumption | rfl), ?_⟩
        try simp (disch := omega) only [Int.cast_ofNat_Int, up_s, up_a, up_i, mp_a, mp_ge]
        try simp only [e2]
        try simp only [a6]
        try simp only [a8]
        try simp only [ela]
        conv => whnf
        refine ⟨_, ?_, Or.inr (⟨rfl, _, _, _, _, rfl, rfl, ?_, rfl⟩)⟩
        · omega
        · have hz1 : fr FZ σ' (sx_up σ1 70 10 l) := hf1.xz.trans (fun a i z => up_a (by unfold FZ at z; omega))
          exact ⟨hfi.trans hz1, gi.z hp hz1 (g1.wl hp), cWz hz1 wi, g1.wl hp, hq, by omega, by omega, hcn, hla, by omega, by omega⟩
    · obtain ⟨rfl, v, l, d, i, rfl, rfl, hc, rfl⟩ := hk
      obtain ⟨hfi, gi, wi, gt, hq, hd0, hd1, hcn, hla, hi0, hi1⟩ := hc
      have a6 := pt_0_6 gi.pt
      have a8 := pt_0_8 gi.pt
      have hlb := aLs_bd wm (k := x.toNat) (sd := sd) ⟨by omega, hsd⟩ (by omega) d.toNat
      rw [← hla] at hlb
      have hcb := fCnt_le (fChb P A x.toNat sd f bd) d.toNat
      rw [← hcn] at hcb
      have wl := wm.wl hlb
      have wi9 := wl.nts i.toNat (by show A.hr + (i.toNat : Int) ≤ 9999; omega)
      have ela := gt.cs.la
      conv => whnf
      refine ⟨fun g => ?_, fun g => ?_⟩
      · simp only [sx_cc, Classical.not_not] at g
        conv => whnf
        refine ⟨(by first | assumption | rfl), ?_⟩
        try simp (disch := omega) only [Int.cast_ofNat_Int, up_s, up_a, up_i, mp_a, mp_ge]
        try simp only [e2]
        try simp only [a6]
        try simp only [a8]
        try simp only [ela]
        conv => whnf
        refine ⟨(by first | assumption | rfl), ?_⟩
        try simp (disch := omega) only [Int.cast_ofNat_Int, up_s, up_a, up_i, mp_a, mp_ge]
        try simp only [e2]
        try simp only [a6]
        try simp only [a8]
        try simp only [ela]
        conv => whnf
        refine ⟨(by first | assumption | rfl), ?_⟩
        try simp (disch := omega) only [Int.cast_ofNat_Int, up_s, up_a, up_i, mp_a, mp_ge]
        try simp only [e2]
        try simp only [a6]
        try simp only [a8]
        try simp only [ela]
        conv => whnf
        refine ⟨Nat.le_of_ble_eq_true rfl, Nat.le_of_ble_eq_true rfl, (by first | assumption | rfl), ?_⟩
        have ei : i = x := by omega
        subst ei
        refine a_Sscore (f := f) hs7 hp wp wi9 gt ?_
        intro σ2 hf2 g2
        conv => whnf
        refine ⟨fun g => ?_, fun g => ?_⟩
        · simp only [sx_cc, Classical.not_not] at g
          conv => whnf
          refine ⟨⟨by omega, by omega⟩, ?_⟩
          conv => whnf
          refine ⟨_, ?_, Or.inl ⟨rfl, _, _, _, _, rfl, rfl, ?_, rfl⟩⟩
          · omega
          · have el : aCb P A i.toNat sd d.toNat = fNts P i.toNat (A.wl l) := by rw [hla]; rfl
            first | exact ⟨hfi.trans hf2.cz, gi.z hp hf2.cz g2, cWz hf2.cz wi, hq, by omega, by omega, fCnt_t hd0 (decide_eq_true (by rw [el]; omega)) hcn, by rw [aLs_s hd0, el]⟩ | exact ⟨hfi.trans hf2.cz, gi.z hp hf2.cz g2, cWz hf2.cz wi, hq, by omega, by omega, fCnt_f hd0 (decide_eq_false (by rw [el]; omega)) hcn, by rw [aLs_s hd0, el]⟩
        · simp only [sx_cc, Classical.not_not] at g
          conv => whnf
          refine ⟨⟨by omega, by omega⟩, ?_⟩
          conv => whnf
          refine ⟨⟨by omega, by omega⟩, ?_⟩
          conv => whnf
          refine ⟨_, ?_, Or.inl ⟨rfl, _, _, _, _, rfl, rfl, ?_, rfl⟩⟩
          · omega
          · have el : aCb P A i.toNat sd d.toNat = fNts P i.toNat (A.wl l) := by rw [hla]; rfl
            first | exact ⟨hfi.trans hf2.cz, gi.z hp hf2.cz g2, cWz hf2.cz wi, hq, by omega, by omega, fCnt_t hd0 (decide_eq_true (by rw [el]; omega)) hcn, by rw [aLs_s hd0, el]⟩ | exact ⟨hfi.trans hf2.cz, gi.z hp hf2.cz g2, cWz hf2.cz wi, hq, by omega, by omega, fCnt_f hd0 (decide_eq_false (by rw [el]; omega)) hcn, by rw [aLs_s hd0, el]⟩
      · simp only [sx_cc, Classical.not_not] at g
        conv => whnf
        refine ⟨(by first | assumption | rfl), ?_⟩
        try simp (disch := omega) only [Int.cast_ofNat_Int, up_s, up_a, up_i, mp_a, mp_ge]
        try simp only [e2]
        try simp only [a6]
        try simp only [a8]
        try simp only [ela]
        conv => whnf
        refine ⟨Nat.le_of_ble_eq_true rfl, Nat.le_of_ble_eq_true rfl, (by first | assumption | rfl), ?_⟩
        refine a_Snight hs7 hp wp wi9 (by omega) gt ?_
        intro σ2 hf2 g2
        conv => whnf
        refine ⟨⟨by omega, by omega⟩, ?_⟩
        conv => whnf
        refine ⟨_, ?_, Or.inr (⟨rfl, _, _, _, _, rfl, rfl, ?_, rfl⟩)⟩
        · omega
        · exact ⟨hfi.trans hf2.cz, gi.z hp hf2.cz g2, cWz hf2.cz wi, by rw [fNts_s hi0]; exact g2, hq, by omega, by omega, hcn, hla, by omega, by omega⟩
set_option maxRecDepth 20000 in
theorem r_chance (e0 : σ0 = sx_up σ 124 2 0) (wp : wP P) (wm : wM P A c) (hc : c ≤ 800000) (g0 : GR 0 P A σ0) {sd x f bd : Int} (hsd : sd ≤ 2147483647) (h0 : ¬ pCh P A sd x f bd → Q (some (.inl (-1))) shM σ0) (h1 : pCh P A sd x f bd → ∀ σ', fr FZR σ0 σ' → GR 0 P A σ' → Q (some (.inl (fCnt (fChb P A x.toNat sd f bd) 10))) shM σ') : sx_Run X 298 [.inr (.inr 124), .inl sd, .inl x, .inl f, .inl bd] shM σ Q := by
  have hb1 : (1 : Int) = 0 ∨ (1 : Int) = 1 := Or.inr rfl
  have whr := wm.hr
  have r67 := pt_124_67 g0.pt
  have ehr := g0.rs.hr
  have ela := g0.rs.la
  refine sx_rule2 (own := 12) (cd := kX12_chance) (nL := 10) (by decide +kernel) (by decide +kernel) kX12_chance_ok (by decide +kernel) (Nat.le_of_ble_eq_true rfl) [73, 87] 40 (fun n t L st _ σ' => (t = 73 ∧ ∃ v d : Int, ∃ w9 : Option sx_V, st = [] ∧ L = [some (.inr (.inr (124))), some (.inl (sd)), some (.inl (x)), some (.inl (f)), some (.inl (bd)), some (.inr (.inl (A.la))), none, some (.inl (v)), some (.inl (d)), w9] ∧ (fr FZS σ0 σ' ∧ GR 0 P (A.wl (aLs P A x.toNat sd d.toNat)) σ' ∧ pCh P A sd x f bd ∧ 0 ≤ d ∧ d ≤ 10 ∧ v = fCnt (fChb P A x.toNat sd f bd) d.toNat) ∧ n = ((10 - d) * 100 + 50).toNat) ∨ (t = 87 ∧ ∃ v d i : Int, st = [] ∧ L = [some (.inr (.inr (124))), some (.inl (sd)), some (.inl (x)), some (.inl (f)), some (.inl (bd)), some (.inr (.inl (A.la))), none, some (.inl (v)), some (.inl (d)), some (.inl (i))] ∧ (fr FZS σ0 σ' ∧ (∀ q : Int, σ' 124 73 = q → GR 0 P (A.wl q) σ') ∧ GR 1 P (fNts P i.toNat (A.wl (aLs P A x.toNat sd d.toNat))) σ' ∧ pCh P A sd x f bd ∧ 0 ≤ d ∧ d < 10 ∧ v = fCnt (fChb P A x.toNat sd f bd) d.toNat ∧ 0 ≤ i ∧ i ≤ x) ∧ n = ((10 - d) * 100 + (x - i)).toNat)) ?_ ?_
  · skip
    conv => whnf
    refine ⟨(by first | assumption | rfl), ?_⟩
    try simp (disch := omega) only [Int.cast_ofNat_Int, up_s, up_a, up_i, mp_a, mp_ge]
    try simp only [r67]
    try simp only [ehr]
    try simp only [ela]
    rw [← e0]
    conv => whnf
    refine ⟨fun g => ?_, fun g => ?_⟩
    · simp only [sx_cc, Classical.not_not] at g
      conv => whnf
      refine ⟨fun q9 => by first | (simp at q9; done) | omega, ?_⟩
      exact h0 (by unfold pCh; omega)
    · simp only [sx_cc, Classical.not_not] at g
      conv => whnf
      refine ⟨Nat.le_of_ble_eq_true rfl, Nat.le_of_ble_eq_true rfl, ?_⟩
      refine c_Rin (fun y3 y4 => ?_) (fun y0 => ?_)
      · skip
        conv => whnf
        refine ⟨fun g => ?_, fun g => ?_⟩
        · exact absurd g (by simp [sx_cc])
        · skip
          conv => whnf
          refine ⟨Nat.le_of_ble_eq_true rfl, Nat.le_of_ble_eq_true rfl, (by first | assumption | rfl), ?_⟩
          refine c_Risfarm (fun y1 y2 => ?_) (fun y0 => ?_)
          · rw [g0.rp.fa] at y2
            conv => whnf
            refine ⟨fun g => ?_, fun g => ?_⟩
            · exact absurd g (by simp [sx_cc])
            · skip
              conv => whnf
              refine ⟨Nat.le_of_ble_eq_true rfl, Nat.le_of_ble_eq_true rfl, ?_⟩
              refine c_Rin (fun y3 y4 => ?_) (fun y0 => ?_)
              · skip
                conv => whnf
                refine ⟨fun g => ?_, fun g => ?_⟩
                · exact absurd g (by simp [sx_cc])
                · skip
                  conv => whnf
                  refine ⟨(by first | assumption | rfl), ?_⟩
                  try simp (disch := omega) only [Int.cast_ofNat_Int, up_s, up_a, up_i, mp_a, mp_ge]
                  try simp only [r67]
                  try simp only [ehr]
                  try simp only [ela]
                  conv => whnf
                  refine ⟨sx_ixI (by first | assumption | rfl) (by omega) (by omega), ?_⟩
                  try simp (disch := omega) only [Int.cast_ofNat_Int, up_s, up_a, up_i, mp_a, mp_ge]
                  try simp only [r67]
                  try simp only [ehr]
                  try simp only [ela]
                  conv => whnf
                  refine ⟨⟨by omega, by omega⟩, ?_⟩
                  conv => whnf
                  refine ⟨fun g => ?_, fun g => ?_⟩
                  · simp only [sx_cc, Classical.not_not] at g
                    conv => whnf
                    refine ⟨(by first | assumption | rfl), ?_⟩
                    try simp (disch := omega) only [Int.cast_ofNat_Int, up_s, up_a, up_i, mp_a, mp_ge]
                    try simp only [r67]
                    try simp only [ehr]
                    try simp only [ela]
                    conv => whnf
                    refine ⟨(by first | assumption | rfl), ?_⟩
                    try simp (disch := omega) only [Int.cast_ofNat_Int, up_s, up_a, up_i, mp_a, mp_ge]
                    try simp only [r67]
                    try simp only [ehr]
                    try simp only [ela]
                    conv => whnf
                    refine ⟨_, Or.inl ⟨rfl, _, _, _, rfl, rfl, ?_, rfl⟩⟩
                    have hf6 : fr FZS σ0 (sx_up σ0 124 73 sd) := fun a i z => up_n (by unfold FZS at z; omega)
                    exact ⟨hf6, GR.mk (PT.up g0.pt (by decide +kernel)) (rP_zs g0.rp hf6) (rS.wl g0.rs wm.n.2 hf6 up_s) (g0.sc.of (fun i => up_a (by decide)) (up_i (by decide))), ⟨by omega, by omega, by omega, by omega, by omega, by omega, by omega, by omega⟩, by omega, by omega, rfl⟩
                  · simp only [sx_cc, Classical.not_not] at g
                    conv => whnf
                    refine ⟨fun q9 => by first | (simp at q9; done) | omega, ?_⟩
                    exact h0 (by unfold pCh; omega)
              · skip
                conv => whnf
                refine ⟨fun g => ?_, fun g => ?_⟩
                · skip
                  conv => whnf
                  refine ⟨fun q9 => by first | (simp at q9; done) | omega, ?_⟩
                  exact h0 (by unfold pCh; omega)
                · exact absurd g (by simp [sx_cc])
          · rw [g0.rp.fa] at y0
            conv => whnf
            refine ⟨fun g => ?_, fun g => ?_⟩
            · skip
              conv => whnf
              refine ⟨fun q9 => by first | (simp at q9; done) | omega, ?_⟩
              exact h0 (by unfold pCh; omega)
            · exact absurd g (by simp [sx_cc])
      · skip
        conv => whnf
        refine ⟨fun g => ?_, fun g => ?_⟩
        · skip
          conv => whnf
          refine ⟨fun q9 => by first | (simp at q9; done) | omega, ?_⟩
          exact h0 (by unfold pCh; omega)
        · exact absurd g (by simp [sx_cc])
  · intro n t L st σ' hk
    rcases hk with hk | hk
    · obtain ⟨rfl, v, d, w9, rfl, rfl, hc, rfl⟩ := hk
      obtain ⟨hfi, gi, hq, hd0, hd1, hcn⟩ := hc
      obtain ⟨l, hla⟩ : ∃ l, l = aLs P A x.toNat sd d.toNat := ⟨_, rfl⟩
      rw [← hla] at gi
      have hlb := aLs_bd wm (k := x.toNat) (sd := sd) ⟨by omega, hsd⟩ (by omega) d.toNat
      rw [← hla] at hlb
      have hcb := fCnt_le (fChb P A x.toNat sd f bd) d.toNat
      rw [← hcn] at hcb
      conv => whnf
      refine ⟨fun g => ?_, fun g => ?_⟩
      · simp only [sx_cc, Classical.not_not] at g
        conv => whnf
        refine ⟨(by first | assumption | rfl), ?_⟩
        try simp (disch := omega) only [Int.cast_ofNat_Int, up_s, up_a, up_i, mp_a, mp_ge]
        try simp only [r67]
        try simp only [ehr]
        try simp only [ela]
        conv => whnf
        refine ⟨fun q9 => by first | (simp at q9; done) | omega, ?_⟩
        generalize e5 : sx_up σ' 124 73 A.la = σ5
        have hf5 : fr FZR σ0 σ5 := fun a i z => by
          rw [← e5]
          by_cases e9 : a = 124 ∧ i = 73
          · rw [e9.1, e9.2, up_s]; exact g0.rs.la.symm
          · rw [up_n e9]; exact hfi a i (by unfold FZR at z; unfold FZS; omega)
        have hf6 : fr FZS σ' σ5 := fun a i z => by rw [← e5, up_n (by unfold FZS at z; omega)]
        have T5 : PT σ5 := by rw [← e5]; exact PT.up gi.pt (by decide +kernel)
        rw [hcn, show d = 10 by omega]
        exact h1 hq _ hf5 (GR.mk T5 (rP_zs gi.rp hf6) (rS.wl gi.rs wm.n.2 hf6 (by rw [← e5, up_s]; rfl)) (gi.sc.of (fun i => by rw [← e5, up_a (by decide)]) (by rw [← e5, up_i (by decide)])))
      · simp only [sx_cc, Classical.not_not] at g
        conv => whnf
        refine ⟨Nat.le_of_ble_eq_true rfl, Nat.le_of_ble_eq_true rfl, (by first | assumption | rfl), ?_⟩
        refine a_Rtried (wm.wl hlb) gi ?_
        intro σ1 hf1 g1 t1
        conv => whnf
        refine ⟨_, ?_, Or.inr (⟨rfl, _, _, _, rfl, rfl, ?_, rfl⟩)⟩
        · omega
        · exact ⟨hfi.trans hf1.ys, fun q9 e9 => by have h9 := rS.wl g1.rs wm.n.2 fr.rfl e9; exact GR.mk g1.pt g1.rp h9 g1.sc, by rw [← hla]; exact t1, hq, by omega, by omega, hcn, by omega, by omega⟩
    · obtain ⟨rfl, v, d, i, rfl, rfl, hc, rfl⟩ := hk
      obtain ⟨hfi, gi, gt, hq, hd0, hd1, hcn, hi0, hi1⟩ := hc
      obtain ⟨l, hla⟩ : ∃ l, l = aLs P A x.toNat sd d.toNat := ⟨_, rfl⟩
      rw [← hla] at gt
      have hlb := aLs_bd wm (k := x.toNat) (sd := sd) ⟨by omega, hsd⟩ (by omega) d.toNat
      rw [← hla] at hlb
      have hcb := fCnt_le (fChb P A x.toNat sd f bd) d.toNat
      rw [← hcn] at hcb
      have wl := wm.wl hlb
      have wi9 := wl.nts i.toNat (by show A.hr + (i.toNat : Int) ≤ 9999; omega)
      conv => whnf
      refine ⟨fun g => ?_, fun g => ?_⟩
      · simp only [sx_cc, Classical.not_not] at g
        conv => whnf
        refine ⟨Nat.le_of_ble_eq_true rfl, Nat.le_of_ble_eq_true rfl, (by first | assumption | rfl), ?_⟩
        have ei : i = x := by omega
        subst ei
        refine a_Rscore (f := f) hb1 wp wi9 gt ?_
        intro σ2 hf2 g2
        conv => whnf
        refine ⟨fun g => ?_, fun g => ?_⟩
        · simp only [sx_cc, Classical.not_not] at g
          conv => whnf
          refine ⟨⟨by omega, by omega⟩, ?_⟩
          conv => whnf
          refine ⟨⟨by omega, by omega⟩, ?_⟩
          conv => whnf
          refine ⟨_, ?_, Or.inl ⟨rfl, _, _, _, rfl, rfl, ?_, rfl⟩⟩
          · omega
          · have el : aCb P A i.toNat sd d.toNat = fNts P i.toNat (A.wl l) := by rw [hla]; rfl
            have g9 := gi _ rfl
            have g8 : GR 0 P (A.wl (fNts P i.toNat (A.wl l)).la) σ2 := GR.mk g2.pt g2.rp (rS.wl g9.rs wm.n.2 (eqR_s hf2) g2.rs.la) g2.sc
            first | exact ⟨hfi.trans (eqR_s hf2), by rw [aLs_s hd0, el]; exact g8, hq, by omega, by omega, fCnt_t hd0 (decide_eq_true (by rw [el]; omega)) hcn⟩ | exact ⟨hfi.trans (eqR_s hf2), by rw [aLs_s hd0, el]; exact g8, hq, by omega, by omega, (Int.add_zero v).trans (fCnt_f hd0 (decide_eq_false (by rw [el]; omega)) hcn)⟩
        · simp only [sx_cc, Classical.not_not] at g
          conv => whnf
          refine ⟨⟨by omega, by omega⟩, ?_⟩
          conv => whnf
          refine ⟨⟨by omega, by omega⟩, ?_⟩
          conv => whnf
          refine ⟨_, ?_, Or.inl ⟨rfl, _, _, _, rfl, rfl, ?_, rfl⟩⟩
          · omega
          · have el : aCb P A i.toNat sd d.toNat = fNts P i.toNat (A.wl l) := by rw [hla]; rfl
            have g9 := gi _ rfl
            have g8 : GR 0 P (A.wl (fNts P i.toNat (A.wl l)).la) σ2 := GR.mk g2.pt g2.rp (rS.wl g9.rs wm.n.2 (eqR_s hf2) g2.rs.la) g2.sc
            first | exact ⟨hfi.trans (eqR_s hf2), by rw [aLs_s hd0, el]; exact g8, hq, by omega, by omega, fCnt_t hd0 (decide_eq_true (by rw [el]; omega)) hcn⟩ | exact ⟨hfi.trans (eqR_s hf2), by rw [aLs_s hd0, el]; exact g8, hq, by omega, by omega, (Int.add_zero v).trans (fCnt_f hd0 (decide_eq_false (by rw [el]; omega)) hcn)⟩
      · simp only [sx_cc, Classical.not_not] at g
        conv => whnf
        refine ⟨Nat.le_of_ble_eq_true rfl, Nat.le_of_ble_eq_true rfl, (by first | assumption | rfl), ?_⟩
        refine a_Rnight hb1 wp wi9 (by omega) gt ?_
        intro σ2 hf2 g2
        conv => whnf
        refine ⟨⟨by omega, by omega⟩, ?_⟩
        conv => whnf
        refine ⟨_, ?_, Or.inr (⟨rfl, _, _, _, rfl, rfl, ?_, rfl⟩)⟩
        · omega
        · exact ⟨hfi.trans hf2.rs, fun q9 e9 => by have g9 := gi _ rfl; exact GR.mk g2.pt g2.rp (rS.wl g9.rs wm.n.2 hf2.rs e9) g2.sc, by rw [← hla, fNts_s hi0]; exact g2, hq, by omega, by omega, hcn, by omega, by omega⟩
end SXL13
