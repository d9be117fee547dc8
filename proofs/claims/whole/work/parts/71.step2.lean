/-! STEP, BOOTS, class side (by wip/whole) -/
section SXM3
variable {X : sx_X} {Q : sx_R} {s t p b c kk : Int} {σ σ0 σ' σ1 σ2 : sx_S} {P : aP} {A B : aM} {W V : aW}
abbrev FNL (q a i : Int) : Prop := a = 38 ∨ a = 39 ∨ (a = 37 ∧ i = 2) ∨ (41 ≤ a ∧ a ≤ 43) ∨ (a = 44 ∧ i = 0) ∨ (45 ≤ a ∧ a ≤ 52) ∨ (86 ≤ a ∧ a ≤ 88 ∧ i = q) ∨ (a = 85 ∧ (i = 0 ∨ i = 1)) ∨ a = 54
theorem fr.nl {q : Int} (h : fr FN σ σ') : fr (FNL q) σ σ' := h.mono (fun a i z => by unfold FN at z; unfold FNL; omega)
theorem fr.ll {q : Int} (h : fr (FL q) σ σ') : fr (FNL q) σ σ' := h.mono (fun a i z => by unfold FL at z; unfold FNL; omega)
theorem GC.fl {q : Int} (g : GC 40 p P A σ) (hp : isP p) (hT : PT σ') (h : fr (FL q) σ σ') : GC 40 p P A σ' := g.of (Or.inl rfl) hp hT (fun a i z1 z2 => h _ _ (by unfold FL; omega))
theorem cW_fl {q : Int} (h : fr (FL q) σ σ') (g : cW P 40 σ W) : cW P 40 σ' W := g.of (fun a i z => h _ _ (by unfold FL; omega))
theorem fBes_b (h : ¬ fBes P.w P.h b c = -1) : 0 ≤ fBes P.w P.h b c ∧ fBes P.w P.h b c < P.w * P.h := by
  have h1 := fBes_bd P.w P.h b c
  have h2 : 0 ≤ fBes P.w P.h b c := by omega
  have h3 := h1.2.2
  rw [if_pos h2] at h3
  exact ⟨h2, h3⟩
abbrev pStp (P : aP) (A : aM) (W : aW) (w y : Int) : Prop := ¬ fBes P.w P.h (W.at1 w) y = -1 ∧ ¬ (pLv P W w (fBes P.w P.h (W.at1 w) y) ∧ 90 ≤ A.n)
def sA0 (P : aP) (A : aM) (W : aW) (w e y : Int) : aM := if pLv P W w e then sA P A W w e y else A
set_option maxRecDepth 20000 in
theorem c_step (hp : isP p) (e2 : σ 0 2 = p) (wp : wP P) (wm : wM P A c) (ww : wW P W kk) (hk : kk ≤ 1000) (g0 : GC 40 p P A σ) (hW : cW P 40 σ W) {z nx : Int} (ez : σ 85 0 = z) (ex : σ 85 1 = nx) (hz : 0 ≤ z ∧ z ≤ 20) (hx : 0 ≤ nx ∧ nx < 20) {w y : Int} (h0 : ¬ (0 ≤ w ∧ w < P.wa ∧ 0 ≤ y ∧ y ≤ 3) → Q (some (.inl (-1))) shM σ) (h1 : (0 ≤ w ∧ w < P.wa ∧ 0 ≤ y ∧ y ≤ 3) → ¬ pStp P A W w y → Q (some (.inl (-2))) shM σ) (h2 : (0 ≤ w ∧ w < P.wa ∧ 0 ≤ y ∧ y ≤ 3) → pStp P A W w y → ∀ σ', fr (FNL nx) σ σ' → GC 40 p P (sA0 P A W w (fBes P.w P.h (W.at1 w) y) y) σ' → cW P 40 σ' (sW W w (fBes P.w P.h (W.at1 w) y)) → σ' 86 nx = (if pLv P W w (fBes P.w P.h (W.at1 w) y) then 1 else 0) → σ' 87 nx = w → σ' 88 nx = W.at1 w → σ' 85 0 = fM20 (z + 1) → σ' 85 1 = fNx nx → Q (some (.inl (fBes P.w P.h (W.at1 w) y))) shM σ') : sx_Run X 132 [.inr (.inr 0), .inl w, .inl y] shM σ Q := by
  have a2 := e2
  have a6 := pt_0_6 g0.pt
  have a10 := pt_0_10 g0.pt
  have hs : isS 40 := Or.inl rfl
  have s2 := ptS_2 g0.pt hs
  have s5 := ptS_5 g0.pt hs
  have k0 := lkS0 hs
  have k1 := lkS1 hs
  have k4 := lkS4 hs
  have q0 := lkP0 hp
  have v5 := wp.wa
  have v4 := wp.wh
  have wn := wm.n
  have en := g0.cs.n
  refine sx_rule0 (own := 11) (cd := kX11_step) (nL := 6) (by decide +kernel) (by decide +kernel) kX11_step_ok (by decide +kernel) (Nat.le_of_ble_eq_true rfl) 40 ?_
  conv => whnf
  refine ⟨(by first | assumption | rfl), ?_⟩
  try simp (disch := omega) only [Int.cast_ofNat_Int, up_s, up_a, up_i, mp_a, mp_ge]
  try simp only [a2]
  try simp only [a6]
  try simp only [a10]
  try simp only [s2]
  try simp only [s5]
  try simp only [ea]
  try simp only [en]
  conv => whnf
  refine ⟨Nat.le_of_ble_eq_true rfl, Nat.le_of_ble_eq_true rfl, (by first | assumption | rfl), ?_⟩
  refine c_Phaswalker hp (fun y1 y2 => ?_) (fun y0 => ?_)
  · rw [g0.cp.wa] at y2
    have hw : 0 ≤ w ∧ w < P.wa := ⟨y1, y2⟩
    have ea := hW.at1 w y1 y2
    have wa1 := ww.at1 w y1 y2
    have est := hW.st w y1 y2
    have wst := ww.st w y1 y2
    have ega := g0.cp.ga w y1 y2
    have wga := wp.ga w y1 y2
    conv => whnf
    refine ⟨fun g => ?_, fun g => ?_⟩
    · exact absurd g (by simp [sx_cc])
    · skip
      conv => whnf
      refine ⟨Nat.le_of_ble_eq_true rfl, Nat.le_of_ble_eq_true rfl, ?_⟩
      refine c_way (fun y3 => ?_) (fun y0 => ?_)
      · skip
        conv => whnf
        refine ⟨fun g => ?_, fun g => ?_⟩
        · skip
          conv => whnf
          refine ⟨(by first | assumption | rfl), ?_⟩
          try simp (disch := omega) only [Int.cast_ofNat_Int, up_s, up_a, up_i, mp_a, mp_ge]
          try simp only [a2]
          try simp only [a6]
          try simp only [a10]
          try simp only [s2]
          try simp only [s5]
          try simp only [ea]
          try simp only [en]
          conv => whnf
          refine ⟨(by first | assumption | rfl), ?_⟩
          try simp (disch := omega) only [Int.cast_ofNat_Int, up_s, up_a, up_i, mp_a, mp_ge]
          try simp only [a2]
          try simp only [a6]
          try simp only [a10]
          try simp only [s2]
          try simp only [s5]
          try simp only [ea]
          try simp only [en]
          conv => whnf
          refine ⟨sx_ixI (by first | assumption | rfl) (by omega) (by omega), ?_⟩
          try simp (disch := omega) only [Int.cast_ofNat_Int, up_s, up_a, up_i, mp_a, mp_ge]
          try simp only [a2]
          try simp only [a6]
          try simp only [a10]
          try simp only [s2]
          try simp only [s5]
          try simp only [ea]
          try simp only [en]
          conv => whnf
          refine ⟨(by first | assumption | rfl), ?_⟩
          try simp (disch := omega) only [Int.cast_ofNat_Int, up_s, up_a, up_i, mp_a, mp_ge]
          try simp only [a2]
          try simp only [a6]
          try simp only [a10]
          try simp only [s2]
          try simp only [s5]
          try simp only [ea]
          try simp only [en]
          conv => whnf
          refine ⟨Nat.le_of_ble_eq_true rfl, Nat.le_of_ble_eq_true rfl, (by first | assumption | rfl), ?_⟩
          refine c_Pbeside hp (g0.cp.pd wp) wa1.1 (by rw [g0.cp.w, g0.cp.h]; exact wa1.2) ?_
          rw [g0.cp.w, g0.cp.h]
          conv => whnf
          refine ⟨fun g => ?_, fun g => ?_⟩
          · simp only [sx_cc, Classical.not_not] at g
            conv => whnf
            refine ⟨fun q9 => by first | (simp at q9; done) | omega, ?_⟩
            exact h1 ⟨by omega, by omega, by omega, by omega⟩ (fun z9 => by first | exact z9.1 (by assumption) | exact z9.2 ⟨hl, by omega⟩)
          · simp only [sx_cc, Classical.not_not] at g
            conv => whnf
            refine ⟨(by first | assumption | rfl), ?_⟩
            try simp (disch := omega) only [Int.cast_ofNat_Int, up_s, up_a, up_i, mp_a, mp_ge]
            try simp only [a2]
            try simp only [a6]
            try simp only [a10]
            try simp only [s2]
            try simp only [s5]
            try simp only [ea]
            try simp only [en]
            conv => whnf
            refine ⟨Nat.le_of_ble_eq_true rfl, Nat.le_of_ble_eq_true rfl, (by first | assumption | rfl), ?_⟩
            have hb := fBes_b (P := P) (b := W.at1 w) (c := y) (by assumption)
            have eki := g0.cp.ki _ hb.1 (by omega)
            refine c_Swould g0.pt hs hp g0.ep ⟨hw.1, by omega⟩ ⟨hb.1, by omega⟩ (by rw [est]; omega) (by rw [ega]; omega) (fun z1 => ?_) (fun z0 => ?_)
            · rw [est, ega, eki] at z1
              have hl : pLv P W w (fBes P.w P.h (W.at1 w) y) := ⟨z1.2.1, z1.2.2⟩
              clear z1
              conv => whnf
              refine ⟨fun g => ?_, fun g => ?_⟩
              · exact absurd g (by simp [sx_cc])
              · skip
                conv => whnf
                refine ⟨(by first | assumption | rfl), ?_⟩
                try simp (disch := omega) only [Int.cast_ofNat_Int, up_s, up_a, up_i, mp_a, mp_ge]
                try simp only [a2]
                try simp only [a6]
                try simp only [a10]
                try simp only [s2]
                try simp only [s5]
                try simp only [ea]
                try simp only [en]
                conv => whnf
                refine ⟨(by first | assumption | rfl), ?_⟩
                try simp (disch := omega) only [Int.cast_ofNat_Int, up_s, up_a, up_i, mp_a, mp_ge]
                try simp only [a2]
                try simp only [a6]
                try simp only [a10]
                try simp only [s2]
                try simp only [s5]
                try simp only [ea]
                try simp only [en]
                conv => whnf
                refine ⟨(by first | assumption | rfl), ?_⟩
                try simp (disch := omega) only [Int.cast_ofNat_Int, up_s, up_a, up_i, mp_a, mp_ge]
                try simp only [a2]
                try simp only [a6]
                try simp only [a10]
                try simp only [s2]
                try simp only [s5]
                try simp only [ea]
                try simp only [en]
                conv => whnf
                refine ⟨fun g => ?_, fun g => ?_⟩
                · simp only [sx_cc, Classical.not_not] at g
                  conv => whnf
                  refine ⟨(by first | assumption | rfl), ?_⟩
                  try simp (disch := omega) only [Int.cast_ofNat_Int, up_s, up_a, up_i, mp_a, mp_ge]
                  try simp only [a2]
                  try simp only [a6]
                  try simp only [a10]
                  try simp only [s2]
                  try simp only [s5]
                  try simp only [ea]
                  try simp only [en]
                  conv => whnf
                  refine ⟨Nat.le_of_ble_eq_true rfl, Nat.le_of_ble_eq_true rfl, (by first | assumption | rfl), ?_⟩
                  refine a_Swalk hp wp wm ww hk g0 hW hw hb (fun z9 => by first | omega | exact absurd z9 hl) (fun hl9 σ2 hf2 g2 w2 => ?_) (fun hl9 σ2 hf2 g2 w2 => ?_)
                  · have a10 := pt_0_10 g2.pt
                    have gx : GC 40 p P (sA0 P A W w (fBes P.w P.h (W.at1 w) y) y) σ2 := by unfold sA0; rw [if_pos hl9]; exact g2
                    conv => whnf
                    refine ⟨(by first | assumption | rfl), ?_⟩
                    try simp (disch := omega) only [Int.cast_ofNat_Int, up_s, up_a, up_i, mp_a, mp_ge]
                    try simp only [a2]
                    try simp only [a6]
                    try simp only [a10]
                    try simp only [s2]
                    try simp only [s5]
                    try simp only [ea]
                    try simp only [en]
                    conv => whnf
                    refine ⟨Nat.le_of_ble_eq_true rfl, Nat.le_of_ble_eq_true rfl, (by first | assumption | rfl), ?_⟩
                    refine c_Lnotes g2.pt (z := z) (nx := nx) ((hf2 _ _ (by decide)).trans ez) ((hf2 _ _ (by decide)).trans ex) hz hx (by decide) ?_
                    intro σ3 hf3 hT3 n1 n2 n3 n4 n5
                    conv => whnf
                    refine ⟨fun q9 => by first | (simp at q9; done) | omega, ?_⟩
                    exact h2 ⟨by omega, by omega, by omega, by omega⟩ ⟨by assumption, fun z9 => by first | exact absurd z9.1 hl | omega⟩ _ (hf2.nl.trans hf3.ll) (gx.fl hp hT3 hf3) (cW_fl hf3 w2) (by first | (rw [if_pos hl9]; exact n1) | (rw [if_neg hl9]; exact n1)) n2 n3 n4 n5
                  · have a10 := pt_0_10 g2.pt
                    have gx : GC 40 p P (sA0 P A W w (fBes P.w P.h (W.at1 w) y) y) σ2 := by unfold sA0; rw [if_neg hl9]; exact g2
                    conv => whnf
                    refine ⟨(by first | assumption | rfl), ?_⟩
                    try simp (disch := omega) only [Int.cast_ofNat_Int, up_s, up_a, up_i, mp_a, mp_ge]
                    try simp only [a2]
                    try simp only [a6]
                    try simp only [a10]
                    try simp only [s2]
                    try simp only [s5]
                    try simp only [ea]
                    try simp only [en]
                    conv => whnf
                    refine ⟨Nat.le_of_ble_eq_true rfl, Nat.le_of_ble_eq_true rfl, (by first | assumption | rfl), ?_⟩
                    refine c_Lnotes g2.pt (z := z) (nx := nx) ((hf2 _ _ (by decide)).trans ez) ((hf2 _ _ (by decide)).trans ex) hz hx (by decide) ?_
                    intro σ3 hf3 hT3 n1 n2 n3 n4 n5
                    conv => whnf
                    refine ⟨fun q9 => by first | (simp at q9; done) | omega, ?_⟩
                    exact h2 ⟨by omega, by omega, by omega, by omega⟩ ⟨by assumption, fun z9 => by first | exact absurd z9.1 hl | omega⟩ _ (hf2.nl.trans hf3.ll) (gx.fl hp hT3 hf3) (cW_fl hf3 w2) (by first | (rw [if_pos hl9]; exact n1) | (rw [if_neg hl9]; exact n1)) n2 n3 n4 n5
                · simp only [sx_cc, Classical.not_not] at g
                  conv => whnf
                  refine ⟨fun q9 => by first | (simp at q9; done) | omega, ?_⟩
                  exact h1 ⟨by omega, by omega, by omega, by omega⟩ (fun z9 => by first | exact z9.1 (by assumption) | exact z9.2 ⟨hl, by omega⟩)
            · rw [est, ega, eki] at z0
              have hl : ¬ pLv P W w (fBes P.w P.h (W.at1 w) y) := fun z9 => z0 ⟨by omega, z9.1, z9.2⟩
              clear z0
              conv => whnf
              refine ⟨fun g => ?_, fun g => ?_⟩
              · skip
                conv => whnf
                refine ⟨(by first | assumption | rfl), ?_⟩
                try simp (disch := omega) only [Int.cast_ofNat_Int, up_s, up_a, up_i, mp_a, mp_ge]
                try simp only [a2]
                try simp only [a6]
                try simp only [a10]
                try simp only [s2]
                try simp only [s5]
                try simp only [ea]
                try simp only [en]
                conv => whnf
                refine ⟨Nat.le_of_ble_eq_true rfl, Nat.le_of_ble_eq_true rfl, (by first | assumption | rfl), ?_⟩
                refine a_Swalk hp wp wm ww hk g0 hW hw hb (fun z9 => by first | omega | exact absurd z9 hl) (fun hl9 σ2 hf2 g2 w2 => ?_) (fun hl9 σ2 hf2 g2 w2 => ?_)
                · have a10 := pt_0_10 g2.pt
                  have gx : GC 40 p P (sA0 P A W w (fBes P.w P.h (W.at1 w) y) y) σ2 := by unfold sA0; rw [if_pos hl9]; exact g2
                  conv => whnf
                  refine ⟨(by first | assumption | rfl), ?_⟩
                  try simp (disch := omega) only [Int.cast_ofNat_Int, up_s, up_a, up_i, mp_a, mp_ge]
                  try simp only [a2]
                  try simp only [a6]
                  try simp only [a10]
                  try simp only [s2]
                  try simp only [s5]
                  try simp only [ea]
                  try simp only [en]
                  conv => whnf
                  refine ⟨Nat.le_of_ble_eq_true rfl, Nat.le_of_ble_eq_true rfl, (by first | assumption | rfl), ?_⟩
                  refine c_Lnotes g2.pt (z := z) (nx := nx) ((hf2 _ _ (by decide)).trans ez) ((hf2 _ _ (by decide)).trans ex) hz hx (by decide) ?_
                  intro σ3 hf3 hT3 n1 n2 n3 n4 n5
                  conv => whnf
                  refine ⟨fun q9 => by first | (simp at q9; done) | omega, ?_⟩
                  exact h2 ⟨by omega, by omega, by omega, by omega⟩ ⟨by assumption, fun z9 => by first | exact absurd z9.1 hl | omega⟩ _ (hf2.nl.trans hf3.ll) (gx.fl hp hT3 hf3) (cW_fl hf3 w2) (by first | (rw [if_pos hl9]; exact n1) | (rw [if_neg hl9]; exact n1)) n2 n3 n4 n5
                · have a10 := pt_0_10 g2.pt
                  have gx : GC 40 p P (sA0 P A W w (fBes P.w P.h (W.at1 w) y) y) σ2 := by unfold sA0; rw [if_neg hl9]; exact g2
                  conv => whnf
                  refine ⟨(by first | assumption | rfl), ?_⟩
                  try simp (disch := omega) only [Int.cast_ofNat_Int, up_s, up_a, up_i, mp_a, mp_ge]
                  try simp only [a2]
                  try simp only [a6]
                  try simp only [a10]
                  try simp only [s2]
                  try simp only [s5]
                  try simp only [ea]
                  try simp only [en]
                  conv => whnf
                  refine ⟨Nat.le_of_ble_eq_true rfl, Nat.le_of_ble_eq_true rfl, (by first | assumption | rfl), ?_⟩
                  refine c_Lnotes g2.pt (z := z) (nx := nx) ((hf2 _ _ (by decide)).trans ez) ((hf2 _ _ (by decide)).trans ex) hz hx (by decide) ?_
                  intro σ3 hf3 hT3 n1 n2 n3 n4 n5
                  conv => whnf
                  refine ⟨fun q9 => by first | (simp at q9; done) | omega, ?_⟩
                  exact h2 ⟨by omega, by omega, by omega, by omega⟩ ⟨by assumption, fun z9 => by first | exact absurd z9.1 hl | omega⟩ _ (hf2.nl.trans hf3.ll) (gx.fl hp hT3 hf3) (cW_fl hf3 w2) (by first | (rw [if_pos hl9]; exact n1) | (rw [if_neg hl9]; exact n1)) n2 n3 n4 n5
              · exact absurd g (by simp [sx_cc])
        · exact absurd g (by simp [sx_cc])
      · skip
        conv => whnf
        refine ⟨fun g => ?_, fun g => ?_⟩
        · exact absurd g (by simp [sx_cc])
        · skip
          conv => whnf
          refine ⟨fun q9 => by first | (simp at q9; done) | omega, ?_⟩
          exact h0 (by omega)
  · rw [g0.cp.wa] at y0
    conv => whnf
    refine ⟨fun g => ?_, fun g => ?_⟩
    · skip
      conv => whnf
      refine ⟨fun q9 => by first | (simp at q9; done) | omega, ?_⟩
      exact h0 (by omega)
    · exact absurd g (by simp [sx_cc])
def bW (W : aW) (w v : Int) : aW := aW.mk W.at1 W.st (fU W.bt w v) W.db W.wi
theorem wW.boots (ww : wW P W kk) {w v : Int} (hv : 0 ≤ v ∧ v < P.wa) : wW P (bW W w v) kk := by
  refine wW.mk ww.at1 ww.st (fun u y0 y1 => ?_) ww.db ww.wi
  by_cases e9 : u = w
  · subst e9; show 0 ≤ fU W.bt u v u ∧ fU W.bt u v u < _; rw [fU_s]; exact hv
  · show 0 ≤ fU W.bt w v u ∧ fU W.bt w v u < _; rw [fU_n e9]; exact ww.bt u y0 y1
set_option maxRecDepth 20000 in
theorem c_boots (hp : isP p) (e2 : σ 0 2 = p) (wp : wP P) (g0 : GC 40 p P A σ) (hW : cW P 40 σ W) {z nx : Int} (ez : σ 85 0 = z) (ex : σ 85 1 = nx) (hz : 0 ≤ z ∧ z ≤ 20) (hx : 0 ≤ nx ∧ nx < 20) {w v : Int} (h0 : ¬ (0 ≤ w ∧ w < P.wa ∧ 0 ≤ v ∧ v < P.wa ∧ ¬ W.bt w = v) → Q (some (.inl 0)) shM σ) (h1 : (0 ≤ w ∧ w < P.wa ∧ 0 ≤ v ∧ v < P.wa ∧ ¬ W.bt w = v) → ∀ σ', fr (FNL nx) σ σ' → GC 40 p P A σ' → cW P 40 σ' (bW W w v) → σ' 86 nx = 2 → σ' 87 nx = w → σ' 88 nx = W.bt w → σ' 85 0 = fM20 (z + 1) → σ' 85 1 = fNx nx → Q (some (.inl 1)) shM σ') : sx_Run X 133 [.inr (.inr 0), .inl w, .inl v] shM σ Q := by
  have a2 := e2
  have a6 := pt_0_6 g0.pt
  have a10 := pt_0_10 g0.pt
  have hs : isS 40 := Or.inl rfl
  have s4 := ptS_4 g0.pt hs
  have k0 := lkS0 hs
  have k3 := lkS3 hs
  have q0 := lkP0 hp
  have v5 := wp.wa
  refine sx_rule0 (own := 11) (cd := kX11_boots) (nL := 3) (by decide +kernel) (by decide +kernel) kX11_boots_ok (by decide +kernel) (Nat.le_of_ble_eq_true rfl) 40 ?_
  conv => whnf
  refine ⟨(by first | assumption | rfl), ?_⟩
  try simp (disch := omega) only [Int.cast_ofNat_Int, up_s, up_a, up_i, mp_a, mp_ge]
  try simp only [a2]
  try simp only [a6]
  try simp only [a10]
  try simp only [s4]
  try simp only [eb]
  conv => whnf
  refine ⟨Nat.le_of_ble_eq_true rfl, Nat.le_of_ble_eq_true rfl, (by first | assumption | rfl), ?_⟩
  refine c_Phaswalker hp (fun y1 y2 => ?_) (fun y0 => ?_)
  · rw [g0.cp.wa] at y2
    have eb := hW.bt w y1 y2
    conv => whnf
    refine ⟨fun g => ?_, fun g => ?_⟩
    · exact absurd g (by simp [sx_cc])
    · skip
      conv => whnf
      refine ⟨(by first | assumption | rfl), ?_⟩
      try simp (disch := omega) only [Int.cast_ofNat_Int, up_s, up_a, up_i, mp_a, mp_ge]
      try simp only [a2]
      try simp only [a6]
      try simp only [a10]
      try simp only [s4]
      try simp only [eb]
      conv => whnf
      refine ⟨Nat.le_of_ble_eq_true rfl, Nat.le_of_ble_eq_true rfl, (by first | assumption | rfl), ?_⟩
      refine c_Phaswalker hp (fun y3 y4 => ?_) (fun y0 => ?_)
      · rw [g0.cp.wa] at y4
        conv => whnf
        refine ⟨fun g => ?_, fun g => ?_⟩
        · exact absurd g (by simp [sx_cc])
        · skip
          conv => whnf
          refine ⟨(by first | assumption | rfl), ?_⟩
          try simp (disch := omega) only [Int.cast_ofNat_Int, up_s, up_a, up_i, mp_a, mp_ge]
          try simp only [a2]
          try simp only [a6]
          try simp only [a10]
          try simp only [s4]
          try simp only [eb]
          conv => whnf
          refine ⟨(by first | assumption | rfl), ?_⟩
          try simp (disch := omega) only [Int.cast_ofNat_Int, up_s, up_a, up_i, mp_a, mp_ge]
          try simp only [a2]
          try simp only [a6]
          try simp only [a10]
          try simp only [s4]
          try simp only [eb]
          conv => whnf
          refine ⟨sx_ixI (by first | assumption | rfl) (by omega) (by omega), ?_⟩
          try simp (disch := omega) only [Int.cast_ofNat_Int, up_s, up_a, up_i, mp_a, mp_ge]
          try simp only [a2]
          try simp only [a6]
          try simp only [a10]
          try simp only [s4]
          try simp only [eb]
          conv => whnf
          refine ⟨fun g => ?_, fun g => ?_⟩
          · simp only [sx_cc, Classical.not_not] at g
            conv => whnf
            refine ⟨(by first | assumption | rfl), ?_⟩
            try simp (disch := omega) only [Int.cast_ofNat_Int, up_s, up_a, up_i, mp_a, mp_ge]
            try simp only [a2]
            try simp only [a6]
            try simp only [a10]
            try simp only [s4]
            try simp only [eb]
            conv => whnf
            refine ⟨(by first | assumption | rfl), ?_⟩
            try simp (disch := omega) only [Int.cast_ofNat_Int, up_s, up_a, up_i, mp_a, mp_ge]
            try simp only [a2]
            try simp only [a6]
            try simp only [a10]
            try simp only [s4]
            try simp only [eb]
            conv => whnf
            refine ⟨(by first | assumption | rfl), ?_⟩
            try simp (disch := omega) only [Int.cast_ofNat_Int, up_s, up_a, up_i, mp_a, mp_ge]
            try simp only [a2]
            try simp only [a6]
            try simp only [a10]
            try simp only [s4]
            try simp only [eb]
            conv => whnf
            refine ⟨sx_ixI (by first | assumption | rfl) (by omega) (by omega), ?_⟩
            try simp (disch := omega) only [Int.cast_ofNat_Int, up_s, up_a, up_i, mp_a, mp_ge]
            try simp only [a2]
            try simp only [a6]
            try simp only [a10]
            try simp only [s4]
            try simp only [eb]
            conv => whnf
            refine ⟨Nat.le_of_ble_eq_true rfl, Nat.le_of_ble_eq_true rfl, (by first | assumption | rfl), ?_⟩
            refine c_Lnoteb g0.pt ez ex hz hx ?_
            intro σ3 hf3 hT3 n1 n2 n3 n4 n5
            have a6 := pt_0_6 hT3
            have s4 := ptS_4 hT3 hs
            conv => whnf
            refine ⟨(by first | assumption | rfl), ?_⟩
            try simp (disch := omega) only [Int.cast_ofNat_Int, up_s, up_a, up_i, mp_a, mp_ge]
            try simp only [a2]
            try simp only [a6]
            try simp only [a10]
            try simp only [s4]
            try simp only [eb]
            conv => whnf
            refine ⟨(by first | assumption | rfl), ?_⟩
            try simp (disch := omega) only [Int.cast_ofNat_Int, up_s, up_a, up_i, mp_a, mp_ge]
            try simp only [a2]
            try simp only [a6]
            try simp only [a10]
            try simp only [s4]
            try simp only [eb]
            conv => whnf
            refine ⟨sx_ixI (by first | assumption | rfl) (by omega) (by omega), ?_⟩
            conv => whnf
            refine ⟨fun q9 => by first | (simp at q9; done) | omega, ?_⟩
            generalize e8 : sx_up σ3 (40 + 3) w v = σ8
            have f8 : fr FN σ3 σ8 := fun a i z9 => by unfold FN at z9; rw [← e8, up_a (by omega)]
            have g3 := g0.fl hp hT3 hf3
            have w3 := cW_fl hf3 hW
            exact h1 ⟨by omega, by omega, by omega, by omega, by omega⟩ σ8 (hf3.ll.trans f8.nl) (g3.at3 hp f8 (fun a i z9 => by rw [← e8, up_a (by omega)])) (cW.mk (fun u y0 y1 => by rw [← e8, up_a (by decide)]; exact w3.at1 u y0 y1) (fun u y0 y1 => by rw [← e8, up_a (by decide)]; exact w3.st u y0 y1) (fun u y0 y1 => by
              rw [← e8]
              by_cases e9 : u = w
              · subst e9; rw [up_s]; exact fU_s.symm
              · rw [up_i e9]; exact (w3.bt u y0 y1).trans (fU_n e9).symm) (fun u y0 y1 => by rw [← e8, up_a (by decide)]; exact w3.db u y0 y1) (by rw [← e8, up_a (by decide)]; exact w3.wi)) ((by rw [← e8, up_a (by decide)]; exact n1)) (by rw [← e8, up_a (by decide)]; exact n2) (by rw [← e8, up_a (by decide)]; exact n3) (by rw [← e8, up_a (by decide)]; exact n4) (by rw [← e8, up_a (by decide)]; exact n5)
          · simp only [sx_cc, Classical.not_not] at g
            conv => whnf
            refine ⟨fun q9 => by first | (simp at q9; done) | omega, ?_⟩
            exact h0 (by omega)
      · rw [g0.cp.wa] at y0
        conv => whnf
        refine ⟨fun g => ?_, fun g => ?_⟩
        · skip
          conv => whnf
          refine ⟨fun q9 => by first | (simp at q9; done) | omega, ?_⟩
          exact h0 (by omega)
        · exact absurd g (by simp [sx_cc])
  · rw [g0.cp.wa] at y0
    conv => whnf
    refine ⟨fun g => ?_, fun g => ?_⟩
    · skip
      conv => whnf
      refine ⟨fun q9 => by first | (simp at q9; done) | omega, ?_⟩
      exact h0 (by omega)
    · exact absurd g (by simp [sx_cc])
end SXM3
