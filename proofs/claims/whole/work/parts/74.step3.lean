/-! STEP, BOOTS, FOX, reference side (by wip/whole) -/
section SXM6
variable {X : sx_X} {Q : sx_R} {s t p b c kk : Int} {σ σ0 σ' σ1 σ2 : sx_S} {P : aP} {A B : aM} {W V : aW}
theorem frm_gr (h : fr FM σ σ') (g : GR 0 P A σ) : GR 0 P A σ' := g.of (h.ptm g.pt) (fun a i z1 z2 => h _ _ (by unfold FM; omega)) (fun i z => h _ _ (by unfold FM; omega))
theorem frm_rw (h : fr FM σ σ') (g : rW P σ W) : rW P σ' W := g.of (fun a i z => h _ _ (by unfold FM; omega))
theorem z90 (m : Int) : 90 * (0 : Int) + m = m := by omega
theorem rS_upn (g : rS 0 σ A) {a v : Int} (ha : 146 ≤ a ∧ a ≤ 153) : rS 0 (sx_up σ a A.n v) A :=
  rS.mk ((up_a (by omega)).trans g.n) ((up_a (by omega)).trans g.hr) ((up_a (by omega)).trans g.sn) ((up_a (by omega)).trans g.la) (fun m y0 y1 => (up_i (by omega)).trans (g.lk m y0 y1)) (fun m y0 y1 => (up_i (by omega)).trans (g.ce m y0 y1)) (fun m y0 y1 => (up_i (by omega)).trans (g.wy m y0 y1)) (fun m y0 y1 => (up_i (by omega)).trans (g.bo m y0 y1)) (fun m y0 y1 => (up_i (by omega)).trans (g.dp m y0 y1)) (fun m y0 y1 => (up_i (by omega)).trans (g.cv m y0 y1)) (fun m y0 y1 => (up_i (by omega)).trans (g.ow m y0 y1)) (fun m y0 y1 => (up_i (by omega)).trans (g.bl m y0 y1))
theorem lk146 {a : Int} (ha : 146 ≤ a ∧ a ≤ 153) : ∃ t n : Nat, sx_lk shM a = (t, n) ∧ 1 ≤ t ∧ t ≤ 4 := by
  rcases (show a = 146 ∨ a = 147 ∨ a = 148 ∨ a = 149 ∨ a = 150 ∨ a = 151 ∨ a = 152 ∨ a = 153 by omega) with e | e | e | e | e | e | e | e <;> subst e
  · exact ⟨_, _, lk_146, by decide, by decide⟩
  · exact ⟨_, _, lk_147, by decide, by decide⟩
  · exact ⟨_, _, lk_148, by decide, by decide⟩
  · exact ⟨_, _, lk_149, by decide, by decide⟩
  · exact ⟨_, _, lk_150, by decide, by decide⟩
  · exact ⟨_, _, lk_151, by decide, by decide⟩
  · exact ⟨_, _, lk_152, by decide, by decide⟩
  · exact ⟨_, _, lk_153, by decide, by decide⟩
theorem GR.upn (g : GR 0 P A σ) {a v : Int} (ha : 146 ≤ a ∧ a ≤ 153) : GR 0 P A (sx_up σ a A.n v) := by
  obtain ⟨t, n, h1, h2⟩ := lk146 ha
  exact GR.mk (PT_up g.pt h1 h2) (g.rp.of (fun a i z1 z2 => up_a (by omega)) (fun i z1 z2 => up_a (by omega))) (rS_upn g.rs ha) (g.sc.of (fun i => up_a (by omega)) (up_a (by omega)))
theorem GR.add (g : GR 0 P A σ) {lo ce wa ho de ow : Int} (h46 : σ 146 A.n = lo) (h47 : σ 147 A.n = ce) (h48 : σ 148 A.n = wa) (h49 : σ 149 A.n = ho) (e : sx_up (sx_up (sx_up (sx_up (sx_up σ 150 A.n de) 151 A.n 0) 152 A.n ow) 153 A.n 0) 154 0 (A.n + 1) = σ') : GR 0 P (aM.mk (A.n + 1) A.hr A.sn A.la (fU A.lk A.n lo) (fU A.ce A.n ce) (fU A.wy A.n wa) (fU A.bo A.n ho) (fU A.dp A.n de) (fU A.cv A.n 0) (fU A.ow A.n ow) (fU A.bl A.n 0)) σ' := by
  have hx : ∀ a i : Int, ¬ (150 ≤ a ∧ a ≤ 154) → σ' a i = σ a i := fun a i z => by rw [← e, up_a (by omega), up_a (by omega), up_a (by omega), up_a (by omega), up_a (by omega)]
  have hT : PT σ' := by rw [← e]; exact PT_up (PT_up (PT_up (PT_up (PT_up g.pt lk_150 (by decide)) lk_151 (by decide)) lk_152 (by decide)) lk_153 (by decide)) lk_154 (by decide)
  refine GR.mk hT (g.rp.of (fun a i z1 z2 => hx _ _ (by omega)) (fun i z1 z2 => hx _ _ (by decide))) (rS.mk (by rw [← e, up_s]; rfl) ((hx _ _ (by decide)).trans g.rs.hr) ?_ ((hx _ _ (by decide)).trans g.rs.la) (fun m y0 y1 => ?_) (fun m y0 y1 => ?_) (fun m y0 y1 => ?_) (fun m y0 y1 => ?_) (fun m y0 y1 => ?_) (fun m y0 y1 => ?_) (fun m y0 y1 => ?_) (fun m y0 y1 => ?_)) (g.sc.of (fun i => hx _ _ (by decide)) (hx _ _ (by decide)))
  · rw [← e, up_a (by decide), up_a (by decide), up_a (by decide), up_a (by decide), up_a (by decide)]; exact g.rs.sn
  · rw [z90]
    by_cases e9 : m = A.n
    · subst e9; rw [hx _ _ (by decide), h46]; exact fU_s.symm
    · have h9 := g.rs.lk m y0 (by have y2 : m < A.n + 1 := y1; omega)
      rw [z90] at h9
      rw [hx _ _ (by omega)]; exact h9.trans (fU_n e9).symm
  · rw [z90]
    by_cases e9 : m = A.n
    · subst e9; rw [hx _ _ (by decide), h47]; exact fU_s.symm
    · have h9 := g.rs.ce m y0 (by have y2 : m < A.n + 1 := y1; omega)
      rw [z90] at h9
      rw [hx _ _ (by omega)]; exact h9.trans (fU_n e9).symm
  · rw [z90]
    by_cases e9 : m = A.n
    · subst e9; rw [hx _ _ (by decide), h48]; exact fU_s.symm
    · have h9 := g.rs.wy m y0 (by have y2 : m < A.n + 1 := y1; omega)
      rw [z90] at h9
      rw [hx _ _ (by omega)]; exact h9.trans (fU_n e9).symm
  · rw [z90]
    by_cases e9 : m = A.n
    · subst e9; rw [hx _ _ (by decide), h49]; exact fU_s.symm
    · have h9 := g.rs.bo m y0 (by have y2 : m < A.n + 1 := y1; omega)
      rw [z90] at h9
      rw [hx _ _ (by omega)]; exact h9.trans (fU_n e9).symm
  · rw [z90]
    by_cases e9 : m = A.n
    · subst e9; rw [← e, up_a (by decide), up_a (by decide), up_a (by decide), up_a (by decide), up_s]; exact fU_s.symm
    · have h9 := g.rs.dp m y0 (by have y2 : m < A.n + 1 := y1; omega)
      rw [z90] at h9
      rw [← e, up_n (by omega), up_n (by omega), up_n (by omega), up_n (by omega), up_n (by omega)]; exact h9.trans (fU_n e9).symm
  · rw [z90]
    by_cases e9 : m = A.n
    · subst e9; rw [← e, up_a (by decide), up_a (by decide), up_a (by decide), up_s]; exact fU_s.symm
    · have h9 := g.rs.cv m y0 (by have y2 : m < A.n + 1 := y1; omega)
      rw [z90] at h9
      rw [← e, up_n (by omega), up_n (by omega), up_n (by omega), up_n (by omega), up_n (by omega)]; exact h9.trans (fU_n e9).symm
  · rw [z90]
    by_cases e9 : m = A.n
    · subst e9; rw [← e, up_a (by decide), up_a (by decide), up_s]; exact fU_s.symm
    · have h9 := g.rs.ow m y0 (by have y2 : m < A.n + 1 := y1; omega)
      rw [z90] at h9
      rw [← e, up_n (by omega), up_n (by omega), up_n (by omega), up_n (by omega), up_n (by omega)]; exact h9.trans (fU_n e9).symm
  · rw [z90]
    by_cases e9 : m = A.n
    · subst e9; rw [← e, up_a (by decide), up_s]; exact fU_s.symm
    · have h9 := g.rs.bl m y0 (by have y2 : m < A.n + 1 := y1; omega)
      rw [z90] at h9
      rw [← e, up_n (by omega), up_n (by omega), up_n (by omega), up_n (by omega), up_n (by omega)]; exact h9.trans (fU_n e9).symm
abbrev FS (a i : Int) : Prop := a = 144 ∨ a = 145 ∨ (a = 124 ∧ i = 56) ∨ (146 ≤ a ∧ a ≤ 153 ∧ 0 ≤ i ∧ i < 90) ∨ (a = 154 ∧ i = 0) ∨ (157 ≤ a ∧ a ≤ 159)
theorem GR.st3 (g : GR 0 P A σ) (hT : PT σ') (e : ∀ a i : Int, ¬ (157 ≤ a ∧ a ≤ 159) → σ' a i = σ a i) : GR 0 P A σ' := g.of hT (fun a i z1 z2 => e _ _ (by omega)) (fun i z => e _ _ (by decide))
set_option maxRecDepth 20000 in
theorem r_step (e0 : σ0 = sx_up σ 124 2 0) (wp : wP P) (wm : wM P A c) (ww : wW P W kk) (hk : kk ≤ 1000) (g0 : GR 0 P A σ0) (hW : rW P σ0 W) {z : Int} (ez : σ0 124 83 = z) (hz : 0 ≤ z ∧ z ≤ 20) {w y : Int} (h0 : ¬ (0 ≤ w ∧ w < P.wa ∧ 0 ≤ y ∧ y ≤ 3) → Q (some (.inl (-1))) shM σ0) (h1 : (0 ≤ w ∧ w < P.wa ∧ 0 ≤ y ∧ y ≤ 3) → ¬ pStp P A W w y → Q (some (.inl (-2))) shM σ0) (h2 : (0 ≤ w ∧ w < P.wa ∧ 0 ≤ y ∧ y ≤ 3) → pStp P A W w y → ∀ σm σ', pRm z A.n σ0 σm → fr FS σm σ' → GR 0 P (sA0 P A W w (fBes P.w P.h (W.at1 w) y) y) σ' → rW P σ' (sW W w (fBes P.w P.h (W.at1 w) y)) → Q (some (.inl (fBes P.w P.h (W.at1 w) y))) shM σ') : sx_Run X 240 [.inr (.inr 124), .inl w, .inl y] shM σ Q := by
  have r68 := pt_124_68 g0.pt
  have r69 := pt_124_69 g0.pt
  have r36 := pt_124_36 g0.pt
  have r30 := pt_124_30 g0.pt
  have r65 := pt_124_65 g0.pt
  have en := g0.rs.n
  have v5 := wp.wa
  have v4 := wp.wh
  have wn := wm.n
  have hb0 : (0 : Int) = 0 ∨ (0 : Int) = 1 := Or.inl rfl
  refine sx_rule0 (own := 12) (cd := kX12_step) (nL := 6) (by decide +kernel) (by decide +kernel) kX12_step_ok (by decide +kernel) (Nat.le_of_ble_eq_true rfl) 40 ?_
  conv => whnf
  refine ⟨(by first | assumption | rfl), ?_⟩
  try simp (disch := omega) only [Int.cast_ofNat_Int, up_s, up_a, up_i, mp_a, mp_ge]
  try simp only [r68]
  try simp only [r69]
  try simp only [r36]
  try simp only [r30]
  try simp only [r65]
  try simp only [en]
  try simp only [ea]
  try simp only [est]
  try simp only [ega]
  try simp only [eki]
  try simp only [est9]
  try simp only [d65]
  try simp only [en2]
  try simp only [r57]
  try simp only [r58]
  try simp only [r59]
  try simp only [r60]
  try simp only [r67]
  try simp only [r70]
  try simp only [r35]
  try simp only [ebt]
  try simp only [ehr]
  try simp only [ewe]
  try simp only [r61]
  try simp only [c61]
  try simp only [c62]
  try simp only [c63]
  try simp only [c64]
  try simp only [c65]
  try simp only [en5]
  rw [← e0]
  conv => whnf
  refine ⟨Nat.le_of_ble_eq_true rfl, Nat.le_of_ble_eq_true rfl, (by first | assumption | rfl), ?_⟩
  refine c_Riswalker (fun y1 y2 => ?_) (fun y0 => ?_)
  · rw [g0.rp.wa] at y2
    have hw : 0 ≤ w ∧ w < P.wa := ⟨y1, y2⟩
    have ea := hW.at1 w y1 y2
    have wa1 := ww.at1 w y1 y2
    have est := hW.st w y1 y2
    have wst := ww.st w y1 y2
    have ega := g0.rp.ga w y1 y2
    have wga := wp.ga w y1 y2
    have htm := tm_bd (show 0 ≤ W.st w + 1 by omega) (show 0 < P.ga w by omega)
    conv => whnf
    refine ⟨fun g => ?_, fun g => ?_⟩
    · exact absurd g (by simp [sx_cc])
    · skip
      conv => whnf
      refine ⟨Nat.le_of_ble_eq_true rfl, Nat.le_of_ble_eq_true rfl, ?_⟩
      refine c_Rin (fun y3 y4 => ?_) (fun y0 => ?_)
      · skip
        conv => whnf
        refine ⟨fun g => ?_, fun g => ?_⟩
        · skip
          conv => whnf
          refine ⟨(by first | assumption | rfl), ?_⟩
          try simp (disch := omega) only [Int.cast_ofNat_Int, up_s, up_a, up_i, mp_a, mp_ge]
          try simp only [r68]
          try simp only [r69]
          try simp only [r36]
          try simp only [r30]
          try simp only [r65]
          try simp only [en]
          try simp only [ea]
          try simp only [est]
          try simp only [ega]
          try simp only [eki]
          try simp only [est9]
          try simp only [d65]
          try simp only [en2]
          try simp only [r57]
          try simp only [r58]
          try simp only [r59]
          try simp only [r60]
          try simp only [r67]
          try simp only [r70]
          try simp only [r35]
          try simp only [ebt]
          try simp only [ehr]
          try simp only [ewe]
          try simp only [r61]
          try simp only [c61]
          try simp only [c62]
          try simp only [c63]
          try simp only [c64]
          try simp only [c65]
          try simp only [en5]
          conv => whnf
          refine ⟨sx_ixI (by first | assumption | rfl) (by omega) (by omega), ?_⟩
          try simp (disch := omega) only [Int.cast_ofNat_Int, up_s, up_a, up_i, mp_a, mp_ge]
          try simp only [r68]
          try simp only [r69]
          try simp only [r36]
          try simp only [r30]
          try simp only [r65]
          try simp only [en]
          try simp only [ea]
          try simp only [est]
          try simp only [ega]
          try simp only [eki]
          try simp only [est9]
          try simp only [d65]
          try simp only [en2]
          try simp only [r57]
          try simp only [r58]
          try simp only [r59]
          try simp only [r60]
          try simp only [r67]
          try simp only [r70]
          try simp only [r35]
          try simp only [ebt]
          try simp only [ehr]
          try simp only [ewe]
          try simp only [r61]
          try simp only [c61]
          try simp only [c62]
          try simp only [c63]
          try simp only [c64]
          try simp only [c65]
          try simp only [en5]
          conv => whnf
          refine ⟨Nat.le_of_ble_eq_true rfl, Nat.le_of_ble_eq_true rfl, (by first | assumption | rfl), ?_⟩
          refine c_Rbeside (g0.rp.rd wp) wa1.1 (by rw [g0.rp.w, g0.rp.h]; exact wa1.2) ?_
          rw [g0.rp.w, g0.rp.h]
          conv => whnf
          refine ⟨fun g => ?_, fun g => ?_⟩
          · simp only [sx_cc, Classical.not_not] at g
            have hne : ¬ (fBes P.w P.h (W.at1 w) y) = -1 := (by omega)
            have hb9 := fBes_b hne
            have eki := g0.rp.ki _ hb9.1 (by omega)
            conv => whnf
            refine ⟨(by first | assumption | rfl), ?_⟩
            try simp (disch := omega) only [Int.cast_ofNat_Int, up_s, up_a, up_i, mp_a, mp_ge]
            try simp only [r68]
            try simp only [r69]
            try simp only [r36]
            try simp only [r30]
            try simp only [r65]
            try simp only [en]
            try simp only [ea]
            try simp only [est]
            try simp only [ega]
            try simp only [eki]
            try simp only [est9]
            try simp only [d65]
            try simp only [en2]
            try simp only [r57]
            try simp only [r58]
            try simp only [r59]
            try simp only [r60]
            try simp only [r67]
            try simp only [r70]
            try simp only [r35]
            try simp only [ebt]
            try simp only [ehr]
            try simp only [ewe]
            try simp only [r61]
            try simp only [c61]
            try simp only [c62]
            try simp only [c63]
            try simp only [c64]
            try simp only [c65]
            try simp only [en5]
            conv => whnf
            refine ⟨sx_ixI (by first | assumption | rfl) (by omega) (by omega), ?_⟩
            try simp (disch := omega) only [Int.cast_ofNat_Int, up_s, up_a, up_i, mp_a, mp_ge]
            try simp only [r68]
            try simp only [r69]
            try simp only [r36]
            try simp only [r30]
            try simp only [r65]
            try simp only [en]
            try simp only [ea]
            try simp only [est]
            try simp only [ega]
            try simp only [eki]
            try simp only [est9]
            try simp only [d65]
            try simp only [en2]
            try simp only [r57]
            try simp only [r58]
            try simp only [r59]
            try simp only [r60]
            try simp only [r67]
            try simp only [r70]
            try simp only [r35]
            try simp only [ebt]
            try simp only [ehr]
            try simp only [ewe]
            try simp only [r61]
            try simp only [c61]
            try simp only [c62]
            try simp only [c63]
            try simp only [c64]
            try simp only [c65]
            try simp only [en5]
            conv => whnf
            refine ⟨⟨by omega, by omega⟩, ?_⟩
            conv => whnf
            refine ⟨(by first | assumption | rfl), ?_⟩
            try simp (disch := omega) only [Int.cast_ofNat_Int, up_s, up_a, up_i, mp_a, mp_ge]
            try simp only [r68]
            try simp only [r69]
            try simp only [r36]
            try simp only [r30]
            try simp only [r65]
            try simp only [en]
            try simp only [ea]
            try simp only [est]
            try simp only [ega]
            try simp only [eki]
            try simp only [est9]
            try simp only [d65]
            try simp only [en2]
            try simp only [r57]
            try simp only [r58]
            try simp only [r59]
            try simp only [r60]
            try simp only [r67]
            try simp only [r70]
            try simp only [r35]
            try simp only [ebt]
            try simp only [ehr]
            try simp only [ewe]
            try simp only [r61]
            try simp only [c61]
            try simp only [c62]
            try simp only [c63]
            try simp only [c64]
            try simp only [c65]
            try simp only [en5]
            conv => whnf
            refine ⟨sx_ixI (by first | assumption | rfl) (by omega) (by omega), ?_⟩
            try simp (disch := omega) only [Int.cast_ofNat_Int, up_s, up_a, up_i, mp_a, mp_ge]
            try simp only [r68]
            try simp only [r69]
            try simp only [r36]
            try simp only [r30]
            try simp only [r65]
            try simp only [en]
            try simp only [ea]
            try simp only [est]
            try simp only [ega]
            try simp only [eki]
            try simp only [est9]
            try simp only [d65]
            try simp only [en2]
            try simp only [r57]
            try simp only [r58]
            try simp only [r59]
            try simp only [r60]
            try simp only [r67]
            try simp only [r70]
            try simp only [r35]
            try simp only [ebt]
            try simp only [ehr]
            try simp only [ewe]
            try simp only [r61]
            try simp only [c61]
            try simp only [c62]
            try simp only [c63]
            try simp only [c64]
            try simp only [c65]
            try simp only [en5]
            conv => whnf
            refine ⟨by omega, (show sx_r32 _ from ⟨by omega, by omega⟩), ?_⟩
            conv => whnf
            refine ⟨fun g => ?_, fun g => ?_⟩
            · simp only [sx_cc, Classical.not_not] at g
              have hl : ¬ pLv P W w (fBes P.w P.h (W.at1 w) y) := fun z9 => g z9.1
              conv => whnf
              refine ⟨fun g => ?_, fun g => ?_⟩
              · skip
                conv => whnf
                refine ⟨Nat.le_of_ble_eq_true rfl, Nat.le_of_ble_eq_true rfl, (by first | assumption | rfl), ?_⟩
                refine c_Rrem g0.pt ez hz en wm.n (fun m z0 z1 => by have h9 := g0.rs.bl m z0 z1; rw [z90] at h9; rw [h9]; exact wm.bl m z0 z1) ?_
                intro σm hm
                have gm := frm_gr hm.1 g0
                have wm9 := frm_rw hm.1 hW
                have r68 := pt_124_68 gm.pt
                have r69 := pt_124_69 gm.pt
                have est9 := wm9.st w hw.1 hw.2
                conv => whnf
                refine ⟨(by first | assumption | rfl), ?_⟩
                try simp (disch := omega) only [Int.cast_ofNat_Int, up_s, up_a, up_i, mp_a, mp_ge]
                try simp only [r68]
                try simp only [r69]
                try simp only [r36]
                try simp only [r30]
                try simp only [r65]
                try simp only [en]
                try simp only [ea]
                try simp only [est]
                try simp only [ega]
                try simp only [eki]
                try simp only [est9]
                try simp only [d65]
                try simp only [en2]
                try simp only [r57]
                try simp only [r58]
                try simp only [r59]
                try simp only [r60]
                try simp only [r67]
                try simp only [r70]
                try simp only [r35]
                try simp only [ebt]
                try simp only [ehr]
                try simp only [ewe]
                try simp only [r61]
                try simp only [c61]
                try simp only [c62]
                try simp only [c63]
                try simp only [c64]
                try simp only [c65]
                try simp only [en5]
                conv => whnf
                refine ⟨sx_ixI (by first | assumption | rfl) (by omega) (by omega), ?_⟩
                conv => whnf
                refine ⟨(by first | assumption | rfl), ?_⟩
                try simp (disch := omega) only [Int.cast_ofNat_Int, up_s, up_a, up_i, mp_a, mp_ge]
                try simp only [r68]
                try simp only [r69]
                try simp only [r36]
                try simp only [r30]
                try simp only [r65]
                try simp only [en]
                try simp only [ea]
                try simp only [est]
                try simp only [ega]
                try simp only [eki]
                try simp only [est9]
                try simp only [d65]
                try simp only [en2]
                try simp only [r57]
                try simp only [r58]
                try simp only [r59]
                try simp only [r60]
                try simp only [r67]
                try simp only [r70]
                try simp only [r35]
                try simp only [ebt]
                try simp only [ehr]
                try simp only [ewe]
                try simp only [r61]
                try simp only [c61]
                try simp only [c62]
                try simp only [c63]
                try simp only [c64]
                try simp only [c65]
                try simp only [en5]
                conv => whnf
                refine ⟨sx_ixI (by first | assumption | rfl) (by omega) (by omega), ?_⟩
                try simp (disch := omega) only [Int.cast_ofNat_Int, up_s, up_a, up_i, mp_a, mp_ge]
                try simp only [r68]
                try simp only [r69]
                try simp only [r36]
                try simp only [r30]
                try simp only [r65]
                try simp only [en]
                try simp only [ea]
                try simp only [est]
                try simp only [ega]
                try simp only [eki]
                try simp only [est9]
                try simp only [d65]
                try simp only [en2]
                try simp only [r57]
                try simp only [r58]
                try simp only [r59]
                try simp only [r60]
                try simp only [r67]
                try simp only [r70]
                try simp only [r35]
                try simp only [ebt]
                try simp only [ehr]
                try simp only [ewe]
                try simp only [r61]
                try simp only [c61]
                try simp only [c62]
                try simp only [c63]
                try simp only [c64]
                try simp only [c65]
                try simp only [en5]
                conv => whnf
                refine ⟨⟨by omega, by omega⟩, ?_⟩
                conv => whnf
                refine ⟨sx_ixI (by first | assumption | rfl) (by omega) (by omega), ?_⟩
                generalize e2 : sx_up (sx_up σm 157 w _) 158 w _ = σ2
                have x2 : ∀ a i : Int, ¬ (157 ≤ a ∧ a ≤ 159) → σ2 a i = σm a i := fun a i z9 => by rw [← e2, up_a (by omega), up_a (by omega)]
                have T2 : PT σ2 := by rw [← e2]; exact PT_up (PT_up gm.pt (show sx_lk shM 157 = _ from rfl) (by decide)) (show sx_lk shM 158 = _ from rfl) (by decide)
                have g2 := gm.st3 T2 x2
                have w2 : rW P σ2 (sW W w (fBes P.w P.h (W.at1 w) y)) := rW.mk (fun v y0 y1 => by
                    rw [← e2, up_a (by decide)]
                    by_cases e9 : v = w
                    · subst e9; rw [up_s]; exact fU_s.symm
                    · rw [up_i e9]; exact (wm9.at1 v y0 y1).trans (fU_n e9).symm) (fun v y0 y1 => by
                    rw [← e2]
                    by_cases e9 : v = w
                    · subst e9; rw [up_s]; exact fU_s.symm
                    · rw [up_i e9, up_a (by decide)]; exact (wm9.st v y0 y1).trans (fU_n e9).symm) (fun v y0 y1 => by rw [← e2, up_a (by decide), up_a (by decide)]; exact wm9.bt v y0 y1) (fun v y0 y1 => by rw [← e2, up_a (by decide), up_a (by decide)]; exact wm9.db v y0 y1) (by rw [← e2, up_a (by decide), up_a (by decide)]; exact wm9.wi)
                have d65 := pt_124_65 g2.pt
                have en2 := g2.rs.n
                have f2 : fr FS σm σ2 := fun a i z9 => x2 a i (by unfold FS at z9; omega)
                conv => whnf
                refine ⟨fun g => ?_, fun g => ?_⟩
                · exact absurd g (by simp [sx_cc])
                · skip
                  conv => whnf
                  refine ⟨fun q9 => by first | (simp at q9; done) | omega, ?_⟩
                  exact h2 ⟨by omega, by omega, by omega, by omega⟩ ⟨hne, fun z9 => absurd z9.1 hl⟩ σm _ hm f2 (by unfold sA0; rw [if_neg hl]; exact g2) w2
              · exact absurd g (by simp [sx_cc])
            · simp only [sx_cc, Classical.not_not] at g
              have hl1 : (W.st w + 1).tmod (P.ga w) = 0 := g
              conv => whnf
              refine ⟨(by first | assumption | rfl), ?_⟩
              try simp (disch := omega) only [Int.cast_ofNat_Int, up_s, up_a, up_i, mp_a, mp_ge]
              try simp only [r68]
              try simp only [r69]
              try simp only [r36]
              try simp only [r30]
              try simp only [r65]
              try simp only [en]
              try simp only [ea]
              try simp only [est]
              try simp only [ega]
              try simp only [eki]
              try simp only [est9]
              try simp only [d65]
              try simp only [en2]
              try simp only [r57]
              try simp only [r58]
              try simp only [r59]
              try simp only [r60]
              try simp only [r67]
              try simp only [r70]
              try simp only [r35]
              try simp only [ebt]
              try simp only [ehr]
              try simp only [ewe]
              try simp only [r61]
              try simp only [c61]
              try simp only [c62]
              try simp only [c63]
              try simp only [c64]
              try simp only [c65]
              try simp only [en5]
              conv => whnf
              refine ⟨sx_ixI (by first | assumption | rfl) (by omega) (by omega), ?_⟩
              try simp (disch := omega) only [Int.cast_ofNat_Int, up_s, up_a, up_i, mp_a, mp_ge]
              try simp only [r68]
              try simp only [r69]
              try simp only [r36]
              try simp only [r30]
              try simp only [r65]
              try simp only [en]
              try simp only [ea]
              try simp only [est]
              try simp only [ega]
              try simp only [eki]
              try simp only [est9]
              try simp only [d65]
              try simp only [en2]
              try simp only [r57]
              try simp only [r58]
              try simp only [r59]
              try simp only [r60]
              try simp only [r67]
              try simp only [r70]
              try simp only [r35]
              try simp only [ebt]
              try simp only [ehr]
              try simp only [ewe]
              try simp only [r61]
              try simp only [c61]
              try simp only [c62]
              try simp only [c63]
              try simp only [c64]
              try simp only [c65]
              try simp only [en5]
              conv => whnf
              refine ⟨fun g => ?_, fun g => ?_⟩
              · simp only [sx_cc, Classical.not_not] at g
                have hl : ¬ pLv P W w (fBes P.w P.h (W.at1 w) y) := fun z9 => g z9.2
                conv => whnf
                refine ⟨fun g => ?_, fun g => ?_⟩
                · skip
                  conv => whnf
                  refine ⟨Nat.le_of_ble_eq_true rfl, Nat.le_of_ble_eq_true rfl, (by first | assumption | rfl), ?_⟩
                  refine c_Rrem g0.pt ez hz en wm.n (fun m z0 z1 => by have h9 := g0.rs.bl m z0 z1; rw [z90] at h9; rw [h9]; exact wm.bl m z0 z1) ?_
                  intro σm hm
                  have gm := frm_gr hm.1 g0
                  have wm9 := frm_rw hm.1 hW
                  have r68 := pt_124_68 gm.pt
                  have r69 := pt_124_69 gm.pt
                  have est9 := wm9.st w hw.1 hw.2
                  conv => whnf
                  refine ⟨(by first | assumption | rfl), ?_⟩
                  try simp (disch := omega) only [Int.cast_ofNat_Int, up_s, up_a, up_i, mp_a, mp_ge]
                  try simp only [r68]
                  try simp only [r69]
                  try simp only [r36]
                  try simp only [r30]
                  try simp only [r65]
                  try simp only [en]
                  try simp only [ea]
                  try simp only [est]
                  try simp only [ega]
                  try simp only [eki]
                  try simp only [est9]
                  try simp only [d65]
                  try simp only [en2]
                  try simp only [r57]
                  try simp only [r58]
                  try simp only [r59]
                  try simp only [r60]
                  try simp only [r67]
                  try simp only [r70]
                  try simp only [r35]
                  try simp only [ebt]
                  try simp only [ehr]
                  try simp only [ewe]
                  try simp only [r61]
                  try simp only [c61]
                  try simp only [c62]
                  try simp only [c63]
                  try simp only [c64]
                  try simp only [c65]
                  try simp only [en5]
                  conv => whnf
                  refine ⟨sx_ixI (by first | assumption | rfl) (by omega) (by omega), ?_⟩
                  conv => whnf
                  refine ⟨(by first | assumption | rfl), ?_⟩
                  try simp (disch := omega) only [Int.cast_ofNat_Int, up_s, up_a, up_i, mp_a, mp_ge]
                  try simp only [r68]
                  try simp only [r69]
                  try simp only [r36]
                  try simp only [r30]
                  try simp only [r65]
                  try simp only [en]
                  try simp only [ea]
                  try simp only [est]
                  try simp only [ega]
                  try simp only [eki]
                  try simp only [est9]
                  try simp only [d65]
                  try simp only [en2]
                  try simp only [r57]
                  try simp only [r58]
                  try simp only [r59]
                  try simp only [r60]
                  try simp only [r67]
                  try simp only [r70]
                  try simp only [r35]
                  try simp only [ebt]
                  try simp only [ehr]
                  try simp only [ewe]
                  try simp only [r61]
                  try simp only [c61]
                  try simp only [c62]
                  try simp only [c63]
                  try simp only [c64]
                  try simp only [c65]
                  try simp only [en5]
                  conv => whnf
                  refine ⟨sx_ixI (by first | assumption | rfl) (by omega) (by omega), ?_⟩
                  try simp (disch := omega) only [Int.cast_ofNat_Int, up_s, up_a, up_i, mp_a, mp_ge]
                  try simp only [r68]
                  try simp only [r69]
                  try simp only [r36]
                  try simp only [r30]
                  try simp only [r65]
                  try simp only [en]
                  try simp only [ea]
                  try simp only [est]
                  try simp only [ega]
                  try simp only [eki]
                  try simp only [est9]
                  try simp only [d65]
                  try simp only [en2]
                  try simp only [r57]
                  try simp only [r58]
                  try simp only [r59]
                  try simp only [r60]
                  try simp only [r67]
                  try simp only [r70]
                  try simp only [r35]
                  try simp only [ebt]
                  try simp only [ehr]
                  try simp only [ewe]
                  try simp only [r61]
                  try simp only [c61]
                  try simp only [c62]
                  try simp only [c63]
                  try simp only [c64]
                  try simp only [c65]
                  try simp only [en5]
                  conv => whnf
                  refine ⟨⟨by omega, by omega⟩, ?_⟩
                  conv => whnf
                  refine ⟨sx_ixI (by first | assumption | rfl) (by omega) (by omega), ?_⟩
                  generalize e2 : sx_up (sx_up σm 157 w _) 158 w _ = σ2
                  have x2 : ∀ a i : Int, ¬ (157 ≤ a ∧ a ≤ 159) → σ2 a i = σm a i := fun a i z9 => by rw [← e2, up_a (by omega), up_a (by omega)]
                  have T2 : PT σ2 := by rw [← e2]; exact PT_up (PT_up gm.pt (show sx_lk shM 157 = _ from rfl) (by decide)) (show sx_lk shM 158 = _ from rfl) (by decide)
                  have g2 := gm.st3 T2 x2
                  have w2 : rW P σ2 (sW W w (fBes P.w P.h (W.at1 w) y)) := rW.mk (fun v y0 y1 => by
                      rw [← e2, up_a (by decide)]
                      by_cases e9 : v = w
                      · subst e9; rw [up_s]; exact fU_s.symm
                      · rw [up_i e9]; exact (wm9.at1 v y0 y1).trans (fU_n e9).symm) (fun v y0 y1 => by
                      rw [← e2]
                      by_cases e9 : v = w
                      · subst e9; rw [up_s]; exact fU_s.symm
                      · rw [up_i e9, up_a (by decide)]; exact (wm9.st v y0 y1).trans (fU_n e9).symm) (fun v y0 y1 => by rw [← e2, up_a (by decide), up_a (by decide)]; exact wm9.bt v y0 y1) (fun v y0 y1 => by rw [← e2, up_a (by decide), up_a (by decide)]; exact wm9.db v y0 y1) (by rw [← e2, up_a (by decide), up_a (by decide)]; exact wm9.wi)
                  have d65 := pt_124_65 g2.pt
                  have en2 := g2.rs.n
                  have f2 : fr FS σm σ2 := fun a i z9 => x2 a i (by unfold FS at z9; omega)
                  conv => whnf
                  refine ⟨fun g => ?_, fun g => ?_⟩
                  · exact absurd g (by simp [sx_cc])
                  · skip
                    conv => whnf
                    refine ⟨fun q9 => by first | (simp at q9; done) | omega, ?_⟩
                    exact h2 ⟨by omega, by omega, by omega, by omega⟩ ⟨hne, fun z9 => absurd z9.1 hl⟩ σm _ hm f2 (by unfold sA0; rw [if_neg hl]; exact g2) w2
                · exact absurd g (by simp [sx_cc])
              · simp only [sx_cc, Classical.not_not] at g
                have hl : pLv P W w (fBes P.w P.h (W.at1 w) y) := ⟨hl1, g⟩
                conv => whnf
                refine ⟨fun g => ?_, fun g => ?_⟩
                · exact absurd g (by simp [sx_cc])
                · skip
                  conv => whnf
                  refine ⟨(by first | assumption | rfl), ?_⟩
                  try simp (disch := omega) only [Int.cast_ofNat_Int, up_s, up_a, up_i, mp_a, mp_ge]
                  try simp only [r68]
                  try simp only [r69]
                  try simp only [r36]
                  try simp only [r30]
                  try simp only [r65]
                  try simp only [en]
                  try simp only [ea]
                  try simp only [est]
                  try simp only [ega]
                  try simp only [eki]
                  try simp only [est9]
                  try simp only [d65]
                  try simp only [en2]
                  try simp only [r57]
                  try simp only [r58]
                  try simp only [r59]
                  try simp only [r60]
                  try simp only [r67]
                  try simp only [r70]
                  try simp only [r35]
                  try simp only [ebt]
                  try simp only [ehr]
                  try simp only [ewe]
                  try simp only [r61]
                  try simp only [c61]
                  try simp only [c62]
                  try simp only [c63]
                  try simp only [c64]
                  try simp only [c65]
                  try simp only [en5]
                  conv => whnf
                  refine ⟨sx_ixI (by first | assumption | rfl) (by omega) (by omega), ?_⟩
                  try simp (disch := omega) only [Int.cast_ofNat_Int, up_s, up_a, up_i, mp_a, mp_ge]
                  try simp only [r68]
                  try simp only [r69]
                  try simp only [r36]
                  try simp only [r30]
                  try simp only [r65]
                  try simp only [en]
                  try simp only [ea]
                  try simp only [est]
                  try simp only [ega]
                  try simp only [eki]
                  try simp only [est9]
                  try simp only [d65]
                  try simp only [en2]
                  try simp only [r57]
                  try simp only [r58]
                  try simp only [r59]
                  try simp only [r60]
                  try simp only [r67]
                  try simp only [r70]
                  try simp only [r35]
                  try simp only [ebt]
                  try simp only [ehr]
                  try simp only [ewe]
                  try simp only [r61]
                  try simp only [c61]
                  try simp only [c62]
                  try simp only [c63]
                  try simp only [c64]
                  try simp only [c65]
                  try simp only [en5]
                  conv => whnf
                  refine ⟨fun g => ?_, fun g => ?_⟩
                  · simp only [sx_cc, Classical.not_not] at g
                    conv => whnf
                    refine ⟨Nat.le_of_ble_eq_true rfl, Nat.le_of_ble_eq_true rfl, (by first | assumption | rfl), ?_⟩
                    refine c_Rrem g0.pt ez hz en wm.n (fun m z0 z1 => by have h9 := g0.rs.bl m z0 z1; rw [z90] at h9; rw [h9]; exact wm.bl m z0 z1) ?_
                    intro σm hm
                    have gm := frm_gr hm.1 g0
                    have wm9 := frm_rw hm.1 hW
                    have r68 := pt_124_68 gm.pt
                    have r69 := pt_124_69 gm.pt
                    have est9 := wm9.st w hw.1 hw.2
                    conv => whnf
                    refine ⟨(by first | assumption | rfl), ?_⟩
                    try simp (disch := omega) only [Int.cast_ofNat_Int, up_s, up_a, up_i, mp_a, mp_ge]
                    try simp only [r68]
                    try simp only [r69]
                    try simp only [r36]
                    try simp only [r30]
                    try simp only [r65]
                    try simp only [en]
                    try simp only [ea]
                    try simp only [est]
                    try simp only [ega]
                    try simp only [eki]
                    try simp only [est9]
                    try simp only [d65]
                    try simp only [en2]
                    try simp only [r57]
                    try simp only [r58]
                    try simp only [r59]
                    try simp only [r60]
                    try simp only [r67]
                    try simp only [r70]
                    try simp only [r35]
                    try simp only [ebt]
                    try simp only [ehr]
                    try simp only [ewe]
                    try simp only [r61]
                    try simp only [c61]
                    try simp only [c62]
                    try simp only [c63]
                    try simp only [c64]
                    try simp only [c65]
                    try simp only [en5]
                    conv => whnf
                    refine ⟨sx_ixI (by first | assumption | rfl) (by omega) (by omega), ?_⟩
                    conv => whnf
                    refine ⟨(by first | assumption | rfl), ?_⟩
                    try simp (disch := omega) only [Int.cast_ofNat_Int, up_s, up_a, up_i, mp_a, mp_ge]
                    try simp only [r68]
                    try simp only [r69]
                    try simp only [r36]
                    try simp only [r30]
                    try simp only [r65]
                    try simp only [en]
                    try simp only [ea]
                    try simp only [est]
                    try simp only [ega]
                    try simp only [eki]
                    try simp only [est9]
                    try simp only [d65]
                    try simp only [en2]
                    try simp only [r57]
                    try simp only [r58]
                    try simp only [r59]
                    try simp only [r60]
                    try simp only [r67]
                    try simp only [r70]
                    try simp only [r35]
                    try simp only [ebt]
                    try simp only [ehr]
                    try simp only [ewe]
                    try simp only [r61]
                    try simp only [c61]
                    try simp only [c62]
                    try simp only [c63]
                    try simp only [c64]
                    try simp only [c65]
                    try simp only [en5]
                    conv => whnf
                    refine ⟨sx_ixI (by first | assumption | rfl) (by omega) (by omega), ?_⟩
                    try simp (disch := omega) only [Int.cast_ofNat_Int, up_s, up_a, up_i, mp_a, mp_ge]
                    try simp only [r68]
                    try simp only [r69]
                    try simp only [r36]
                    try simp only [r30]
                    try simp only [r65]
                    try simp only [en]
                    try simp only [ea]
                    try simp only [est]
                    try simp only [ega]
                    try simp only [eki]
                    try simp only [est9]
                    try simp only [d65]
                    try simp only [en2]
                    try simp only [r57]
                    try simp only [r58]
                    try simp only [r59]
                    try simp only [r60]
                    try simp only [r67]
                    try simp only [r70]
                    try simp only [r35]
                    try simp only [ebt]
                    try simp only [ehr]
                    try simp only [ewe]
                    try simp only [r61]
                    try simp only [c61]
                    try simp only [c62]
                    try simp only [c63]
                    try simp only [c64]
                    try simp only [c65]
                    try simp only [en5]
                    conv => whnf
                    refine ⟨⟨by omega, by omega⟩, ?_⟩
                    conv => whnf
                    refine ⟨sx_ixI (by first | assumption | rfl) (by omega) (by omega), ?_⟩
                    generalize e2 : sx_up (sx_up σm 157 w _) 158 w _ = σ2
                    have x2 : ∀ a i : Int, ¬ (157 ≤ a ∧ a ≤ 159) → σ2 a i = σm a i := fun a i z9 => by rw [← e2, up_a (by omega), up_a (by omega)]
                    have T2 : PT σ2 := by rw [← e2]; exact PT_up (PT_up gm.pt (show sx_lk shM 157 = _ from rfl) (by decide)) (show sx_lk shM 158 = _ from rfl) (by decide)
                    have g2 := gm.st3 T2 x2
                    have w2 : rW P σ2 (sW W w (fBes P.w P.h (W.at1 w) y)) := rW.mk (fun v y0 y1 => by
                        rw [← e2, up_a (by decide)]
                        by_cases e9 : v = w
                        · subst e9; rw [up_s]; exact fU_s.symm
                        · rw [up_i e9]; exact (wm9.at1 v y0 y1).trans (fU_n e9).symm) (fun v y0 y1 => by
                        rw [← e2]
                        by_cases e9 : v = w
                        · subst e9; rw [up_s]; exact fU_s.symm
                        · rw [up_i e9, up_a (by decide)]; exact (wm9.st v y0 y1).trans (fU_n e9).symm) (fun v y0 y1 => by rw [← e2, up_a (by decide), up_a (by decide)]; exact wm9.bt v y0 y1) (fun v y0 y1 => by rw [← e2, up_a (by decide), up_a (by decide)]; exact wm9.db v y0 y1) (by rw [← e2, up_a (by decide), up_a (by decide)]; exact wm9.wi)
                    have d65 := pt_124_65 g2.pt
                    have en2 := g2.rs.n
                    have f2 : fr FS σm σ2 := fun a i z9 => x2 a i (by unfold FS at z9; omega)
                    conv => whnf
                    refine ⟨fun g => ?_, fun g => ?_⟩
                    · skip
                      conv => whnf
                      refine ⟨(by first | assumption | rfl), ?_⟩
                      try simp (disch := omega) only [Int.cast_ofNat_Int, up_s, up_a, up_i, mp_a, mp_ge]
                      try simp only [r68]
                      try simp only [r69]
                      try simp only [r36]
                      try simp only [r30]
                      try simp only [r65]
                      try simp only [en]
                      try simp only [ea]
                      try simp only [est]
                      try simp only [ega]
                      try simp only [eki]
                      try simp only [est9]
                      try simp only [d65]
                      try simp only [en2]
                      try simp only [r57]
                      try simp only [r58]
                      try simp only [r59]
                      try simp only [r60]
                      try simp only [r67]
                      try simp only [r70]
                      try simp only [r35]
                      try simp only [ebt]
                      try simp only [ehr]
                      try simp only [ewe]
                      try simp only [r61]
                      try simp only [c61]
                      try simp only [c62]
                      try simp only [c63]
                      try simp only [c64]
                      try simp only [c65]
                      try simp only [en5]
                      conv => whnf
                      refine ⟨sx_ixI (by first | assumption | rfl) (by omega) (by omega), ?_⟩
                      try simp (disch := omega) only [Int.cast_ofNat_Int, up_s, up_a, up_i, mp_a, mp_ge]
                      try simp only [r68]
                      try simp only [r69]
                      try simp only [r36]
                      try simp only [r30]
                      try simp only [r65]
                      try simp only [en]
                      try simp only [ea]
                      try simp only [est]
                      try simp only [ega]
                      try simp only [eki]
                      try simp only [est9]
                      try simp only [d65]
                      try simp only [en2]
                      try simp only [r57]
                      try simp only [r58]
                      try simp only [r59]
                      try simp only [r60]
                      try simp only [r67]
                      try simp only [r70]
                      try simp only [r35]
                      try simp only [ebt]
                      try simp only [ehr]
                      try simp only [ewe]
                      try simp only [r61]
                      try simp only [c61]
                      try simp only [c62]
                      try simp only [c63]
                      try simp only [c64]
                      try simp only [c65]
                      try simp only [en5]
                      conv => whnf
                      refine ⟨Nat.le_of_ble_eq_true rfl, Nat.le_of_ble_eq_true rfl, (by first | assumption | rfl), ?_⟩
                      refine a_Rlaynames hb0 wp g2 hw hb9 ?_
                      intro σ3 he3 g3 hnm3
                      have r57 := pt_124_57 g3.pt
                      have r58 := pt_124_58 g3.pt
                      have r59 := pt_124_59 g3.pt
                      have r60 := pt_124_60 g3.pt
                      have r61 := pt_124_61 g3.pt
                      have r67 := pt_124_67 g3.pt
                      have r70 := pt_124_70 g3.pt
                      have r35 := pt_124_35 g3.pt
                      have w3 : rW P σ3 (sW W w (fBes P.w P.h (W.at1 w) y)) := eqR.rW he3 w2
                      have ebt : σ3 159 w = W.bt w := w3.bt w hw.1 hw.2
                      have ehr : σ3 156 0 = A.hr := g3.rs.hr
                      have ewe : σ3 132 w = P.we w := g3.rp.we w hw.1 hw.2
                      conv => whnf
                      refine ⟨(by first | assumption | rfl), ?_⟩
                      try simp (disch := omega) only [Int.cast_ofNat_Int, up_s, up_a, up_i, mp_a, mp_ge]
                      try simp only [r68]
                      try simp only [r69]
                      try simp only [r36]
                      try simp only [r30]
                      try simp only [r65]
                      try simp only [en]
                      try simp only [ea]
                      try simp only [est]
                      try simp only [ega]
                      try simp only [eki]
                      try simp only [est9]
                      try simp only [d65]
                      try simp only [en2]
                      try simp only [r57]
                      try simp only [r58]
                      try simp only [r59]
                      try simp only [r60]
                      try simp only [r67]
                      try simp only [r70]
                      try simp only [r35]
                      try simp only [ebt]
                      try simp only [ehr]
                      try simp only [ewe]
                      try simp only [r61]
                      try simp only [c61]
                      try simp only [c62]
                      try simp only [c63]
                      try simp only [c64]
                      try simp only [c65]
                      try simp only [en5]
                      conv => whnf
                      refine ⟨(by first | assumption | rfl), ?_⟩
                      try simp (disch := omega) only [Int.cast_ofNat_Int, up_s, up_a, up_i, mp_a, mp_ge]
                      try simp only [r68]
                      try simp only [r69]
                      try simp only [r36]
                      try simp only [r30]
                      try simp only [r65]
                      try simp only [en]
                      try simp only [ea]
                      try simp only [est]
                      try simp only [ega]
                      try simp only [eki]
                      try simp only [est9]
                      try simp only [d65]
                      try simp only [en2]
                      try simp only [r57]
                      try simp only [r58]
                      try simp only [r59]
                      try simp only [r60]
                      try simp only [r67]
                      try simp only [r70]
                      try simp only [r35]
                      try simp only [ebt]
                      try simp only [ehr]
                      try simp only [ewe]
                      try simp only [r61]
                      try simp only [c61]
                      try simp only [c62]
                      try simp only [c63]
                      try simp only [c64]
                      try simp only [c65]
                      try simp only [en5]
                      conv => whnf
                      refine ⟨sx_ixI (by first | assumption | rfl) (by omega) (by omega), ?_⟩
                      try simp (disch := omega) only [Int.cast_ofNat_Int, up_s, up_a, up_i, mp_a, mp_ge]
                      try simp only [r68]
                      try simp only [r69]
                      try simp only [r36]
                      try simp only [r30]
                      try simp only [r65]
                      try simp only [en]
                      try simp only [ea]
                      try simp only [est]
                      try simp only [ega]
                      try simp only [eki]
                      try simp only [est9]
                      try simp only [d65]
                      try simp only [en2]
                      try simp only [r57]
                      try simp only [r58]
                      try simp only [r59]
                      try simp only [r60]
                      try simp only [r67]
                      try simp only [r70]
                      try simp only [r35]
                      try simp only [ebt]
                      try simp only [ehr]
                      try simp only [ewe]
                      try simp only [r61]
                      try simp only [c61]
                      try simp only [c62]
                      try simp only [c63]
                      try simp only [c64]
                      try simp only [c65]
                      try simp only [en5]
                      conv => whnf
                      refine ⟨sx_ixI (by first | assumption | rfl) (by omega) (by omega), ?_⟩
                      conv => whnf
                      refine ⟨(by first | assumption | rfl), ?_⟩
                      try simp (disch := omega) only [Int.cast_ofNat_Int, up_s, up_a, up_i, mp_a, mp_ge]
                      try simp only [r68]
                      try simp only [r69]
                      try simp only [r36]
                      try simp only [r30]
                      try simp only [r65]
                      try simp only [en]
                      try simp only [ea]
                      try simp only [est]
                      try simp only [ega]
                      try simp only [eki]
                      try simp only [est9]
                      try simp only [d65]
                      try simp only [en2]
                      try simp only [r57]
                      try simp only [r58]
                      try simp only [r59]
                      try simp only [r60]
                      try simp only [r67]
                      try simp only [r70]
                      try simp only [r35]
                      try simp only [ebt]
                      try simp only [ehr]
                      try simp only [ewe]
                      try simp only [r61]
                      try simp only [c61]
                      try simp only [c62]
                      try simp only [c63]
                      try simp only [c64]
                      try simp only [c65]
                      try simp only [en5]
                      conv => whnf
                      refine ⟨sx_ixI (by first | assumption | rfl) (by omega) (by omega), ?_⟩
                      conv => whnf
                      refine ⟨(by first | assumption | rfl), ?_⟩
                      try simp (disch := omega) only [Int.cast_ofNat_Int, up_s, up_a, up_i, mp_a, mp_ge]
                      try simp only [r68]
                      try simp only [r69]
                      try simp only [r36]
                      try simp only [r30]
                      try simp only [r65]
                      try simp only [en]
                      try simp only [ea]
                      try simp only [est]
                      try simp only [ega]
                      try simp only [eki]
                      try simp only [est9]
                      try simp only [d65]
                      try simp only [en2]
                      try simp only [r57]
                      try simp only [r58]
                      try simp only [r59]
                      try simp only [r60]
                      try simp only [r67]
                      try simp only [r70]
                      try simp only [r35]
                      try simp only [ebt]
                      try simp only [ehr]
                      try simp only [ewe]
                      try simp only [r61]
                      try simp only [c61]
                      try simp only [c62]
                      try simp only [c63]
                      try simp only [c64]
                      try simp only [c65]
                      try simp only [en5]
                      conv => whnf
                      refine ⟨sx_ixI (by first | assumption | rfl) (by omega) (by omega), ?_⟩
                      conv => whnf
                      refine ⟨(by first | assumption | rfl), ?_⟩
                      try simp (disch := omega) only [Int.cast_ofNat_Int, up_s, up_a, up_i, mp_a, mp_ge]
                      try simp only [r68]
                      try simp only [r69]
                      try simp only [r36]
                      try simp only [r30]
                      try simp only [r65]
                      try simp only [en]
                      try simp only [ea]
                      try simp only [est]
                      try simp only [ega]
                      try simp only [eki]
                      try simp only [est9]
                      try simp only [d65]
                      try simp only [en2]
                      try simp only [r57]
                      try simp only [r58]
                      try simp only [r59]
                      try simp only [r60]
                      try simp only [r67]
                      try simp only [r70]
                      try simp only [r35]
                      try simp only [ebt]
                      try simp only [ehr]
                      try simp only [ewe]
                      try simp only [r61]
                      try simp only [c61]
                      try simp only [c62]
                      try simp only [c63]
                      try simp only [c64]
                      try simp only [c65]
                      try simp only [en5]
                      conv => whnf
                      refine ⟨(by first | assumption | rfl), ?_⟩
                      try simp (disch := omega) only [Int.cast_ofNat_Int, up_s, up_a, up_i, mp_a, mp_ge]
                      try simp only [r68]
                      try simp only [r69]
                      try simp only [r36]
                      try simp only [r30]
                      try simp only [r65]
                      try simp only [en]
                      try simp only [ea]
                      try simp only [est]
                      try simp only [ega]
                      try simp only [eki]
                      try simp only [est9]
                      try simp only [d65]
                      try simp only [en2]
                      try simp only [r57]
                      try simp only [r58]
                      try simp only [r59]
                      try simp only [r60]
                      try simp only [r67]
                      try simp only [r70]
                      try simp only [r35]
                      try simp only [ebt]
                      try simp only [ehr]
                      try simp only [ewe]
                      try simp only [r61]
                      try simp only [c61]
                      try simp only [c62]
                      try simp only [c63]
                      try simp only [c64]
                      try simp only [c65]
                      try simp only [en5]
                      conv => whnf
                      refine ⟨sx_ixI (by first | assumption | rfl) (by omega) (by omega), ?_⟩
                      try simp (disch := omega) only [Int.cast_ofNat_Int, up_s, up_a, up_i, mp_a, mp_ge]
                      try simp only [r68]
                      try simp only [r69]
                      try simp only [r36]
                      try simp only [r30]
                      try simp only [r65]
                      try simp only [en]
                      try simp only [ea]
                      try simp only [est]
                      try simp only [ega]
                      try simp only [eki]
                      try simp only [est9]
                      try simp only [d65]
                      try simp only [en2]
                      try simp only [r57]
                      try simp only [r58]
                      try simp only [r59]
                      try simp only [r60]
                      try simp only [r67]
                      try simp only [r70]
                      try simp only [r35]
                      try simp only [ebt]
                      try simp only [ehr]
                      try simp only [ewe]
                      try simp only [r61]
                      try simp only [c61]
                      try simp only [c62]
                      try simp only [c63]
                      try simp only [c64]
                      try simp only [c65]
                      try simp only [en5]
                      conv => whnf
                      refine ⟨sx_ixI (by first | assumption | rfl) (by omega) (by omega), ?_⟩
                      conv => whnf
                      refine ⟨(by first | assumption | rfl), ?_⟩
                      try simp (disch := omega) only [Int.cast_ofNat_Int, up_s, up_a, up_i, mp_a, mp_ge]
                      try simp only [r68]
                      try simp only [r69]
                      try simp only [r36]
                      try simp only [r30]
                      try simp only [r65]
                      try simp only [en]
                      try simp only [ea]
                      try simp only [est]
                      try simp only [ega]
                      try simp only [eki]
                      try simp only [est9]
                      try simp only [d65]
                      try simp only [en2]
                      try simp only [r57]
                      try simp only [r58]
                      try simp only [r59]
                      try simp only [r60]
                      try simp only [r67]
                      try simp only [r70]
                      try simp only [r35]
                      try simp only [ebt]
                      try simp only [ehr]
                      try simp only [ewe]
                      try simp only [r61]
                      try simp only [c61]
                      try simp only [c62]
                      try simp only [c63]
                      try simp only [c64]
                      try simp only [c65]
                      try simp only [en5]
                      conv => whnf
                      refine ⟨(by first | assumption | rfl), ?_⟩
                      try simp (disch := omega) only [Int.cast_ofNat_Int, up_s, up_a, up_i, mp_a, mp_ge]
                      try simp only [r68]
                      try simp only [r69]
                      try simp only [r36]
                      try simp only [r30]
                      try simp only [r65]
                      try simp only [en]
                      try simp only [ea]
                      try simp only [est]
                      try simp only [ega]
                      try simp only [eki]
                      try simp only [est9]
                      try simp only [d65]
                      try simp only [en2]
                      try simp only [r57]
                      try simp only [r58]
                      try simp only [r59]
                      try simp only [r60]
                      try simp only [r67]
                      try simp only [r70]
                      try simp only [r35]
                      try simp only [ebt]
                      try simp only [ehr]
                      try simp only [ewe]
                      try simp only [r61]
                      try simp only [c61]
                      try simp only [c62]
                      try simp only [c63]
                      try simp only [c64]
                      try simp only [c65]
                      try simp only [en5]
                      conv => whnf
                      refine ⟨sx_ixI (by first | assumption | rfl) (by omega) (by omega), ?_⟩
                      try simp (disch := omega) only [Int.cast_ofNat_Int, up_s, up_a, up_i, mp_a, mp_ge]
                      try simp only [r68]
                      try simp only [r69]
                      try simp only [r36]
                      try simp only [r30]
                      try simp only [r65]
                      try simp only [en]
                      try simp only [ea]
                      try simp only [est]
                      try simp only [ega]
                      try simp only [eki]
                      try simp only [est9]
                      try simp only [d65]
                      try simp only [en2]
                      try simp only [r57]
                      try simp only [r58]
                      try simp only [r59]
                      try simp only [r60]
                      try simp only [r67]
                      try simp only [r70]
                      try simp only [r35]
                      try simp only [ebt]
                      try simp only [ehr]
                      try simp only [ewe]
                      try simp only [r61]
                      try simp only [c61]
                      try simp only [c62]
                      try simp only [c63]
                      try simp only [c64]
                      try simp only [c65]
                      try simp only [en5]
                      conv => whnf
                      refine ⟨Nat.le_of_ble_eq_true rfl, Nat.le_of_ble_eq_true rfl, (by first | assumption | rfl), ?_⟩
                      generalize e4 : sx_up _ 149 A.n _ = σ4
                      have g4 : GR 0 P A σ4 := by rw [← e4]; exact (((g3.upn (by decide)).upn (by decide)).upn (by decide)).upn (by decide)
                      refine a_Rbound (k := 2) (nm := aNw P A w (fBes P.w P.h (W.at1 w) y)) g4 ⟨by decide, by decide⟩ (by decide) ⟨by decide, by decide, by decide⟩ (fun j z0 z1 => by rw [← e4, up_a (by decide), up_a (by decide), up_a (by decide), up_a (by decide)]; exact hnm3 j z0 z1) (fun j _ _ => aNw_b wp wm hw.1 hw.2 hb9.1 (by omega) j) ?_
                      intro σ5 he5 g5
                      have c61 := pt_124_61 g5.pt
                      have c62 := pt_124_62 g5.pt
                      have c63 := pt_124_63 g5.pt
                      have c64 := pt_124_64 g5.pt
                      have c65 := pt_124_65 g5.pt
                      have en5 := g5.rs.n
                      conv => whnf
                      refine ⟨sx_ixI (by first | assumption | rfl) (by omega) (by omega), ?_⟩
                      conv => whnf
                      refine ⟨(by first | assumption | rfl), ?_⟩
                      try simp (disch := omega) only [Int.cast_ofNat_Int, up_s, up_a, up_i, mp_a, mp_ge]
                      try simp only [r68]
                      try simp only [r69]
                      try simp only [r36]
                      try simp only [r30]
                      try simp only [r65]
                      try simp only [en]
                      try simp only [ea]
                      try simp only [est]
                      try simp only [ega]
                      try simp only [eki]
                      try simp only [est9]
                      try simp only [d65]
                      try simp only [en2]
                      try simp only [r57]
                      try simp only [r58]
                      try simp only [r59]
                      try simp only [r60]
                      try simp only [r67]
                      try simp only [r70]
                      try simp only [r35]
                      try simp only [ebt]
                      try simp only [ehr]
                      try simp only [ewe]
                      try simp only [r61]
                      try simp only [c61]
                      try simp only [c62]
                      try simp only [c63]
                      try simp only [c64]
                      try simp only [c65]
                      try simp only [en5]
                      conv => whnf
                      refine ⟨sx_ixI (by first | assumption | rfl) (by omega) (by omega), ?_⟩
                      conv => whnf
                      refine ⟨(by first | assumption | rfl), ?_⟩
                      try simp (disch := omega) only [Int.cast_ofNat_Int, up_s, up_a, up_i, mp_a, mp_ge]
                      try simp only [r68]
                      try simp only [r69]
                      try simp only [r36]
                      try simp only [r30]
                      try simp only [r65]
                      try simp only [en]
                      try simp only [ea]
                      try simp only [est]
                      try simp only [ega]
                      try simp only [eki]
                      try simp only [est9]
                      try simp only [d65]
                      try simp only [en2]
                      try simp only [r57]
                      try simp only [r58]
                      try simp only [r59]
                      try simp only [r60]
                      try simp only [r67]
                      try simp only [r70]
                      try simp only [r35]
                      try simp only [ebt]
                      try simp only [ehr]
                      try simp only [ewe]
                      try simp only [r61]
                      try simp only [c61]
                      try simp only [c62]
                      try simp only [c63]
                      try simp only [c64]
                      try simp only [c65]
                      try simp only [en5]
                      conv => whnf
                      refine ⟨sx_ixI (by first | assumption | rfl) (by omega) (by omega), ?_⟩
                      conv => whnf
                      refine ⟨(by first | assumption | rfl), ?_⟩
                      try simp (disch := omega) only [Int.cast_ofNat_Int, up_s, up_a, up_i, mp_a, mp_ge]
                      try simp only [r68]
                      try simp only [r69]
                      try simp only [r36]
                      try simp only [r30]
                      try simp only [r65]
                      try simp only [en]
                      try simp only [ea]
                      try simp only [est]
                      try simp only [ega]
                      try simp only [eki]
                      try simp only [est9]
                      try simp only [d65]
                      try simp only [en2]
                      try simp only [r57]
                      try simp only [r58]
                      try simp only [r59]
                      try simp only [r60]
                      try simp only [r67]
                      try simp only [r70]
                      try simp only [r35]
                      try simp only [ebt]
                      try simp only [ehr]
                      try simp only [ewe]
                      try simp only [r61]
                      try simp only [c61]
                      try simp only [c62]
                      try simp only [c63]
                      try simp only [c64]
                      try simp only [c65]
                      try simp only [en5]
                      conv => whnf
                      refine ⟨sx_ixI (by first | assumption | rfl) (by omega) (by omega), by omega, ?_⟩
                      conv => whnf
                      refine ⟨(by first | assumption | rfl), ?_⟩
                      try simp (disch := omega) only [Int.cast_ofNat_Int, up_s, up_a, up_i, mp_a, mp_ge]
                      try simp only [r68]
                      try simp only [r69]
                      try simp only [r36]
                      try simp only [r30]
                      try simp only [r65]
                      try simp only [en]
                      try simp only [ea]
                      try simp only [est]
                      try simp only [ega]
                      try simp only [eki]
                      try simp only [est9]
                      try simp only [d65]
                      try simp only [en2]
                      try simp only [r57]
                      try simp only [r58]
                      try simp only [r59]
                      try simp only [r60]
                      try simp only [r67]
                      try simp only [r70]
                      try simp only [r35]
                      try simp only [ebt]
                      try simp only [ehr]
                      try simp only [ewe]
                      try simp only [r61]
                      try simp only [c61]
                      try simp only [c62]
                      try simp only [c63]
                      try simp only [c64]
                      try simp only [c65]
                      try simp only [en5]
                      conv => whnf
                      refine ⟨sx_ixI (by first | assumption | rfl) (by omega) (by omega), ?_⟩
                      try simp (disch := omega) only [Int.cast_ofNat_Int, up_s, up_a, up_i, mp_a, mp_ge]
                      try simp only [r68]
                      try simp only [r69]
                      try simp only [r36]
                      try simp only [r30]
                      try simp only [r65]
                      try simp only [en]
                      try simp only [ea]
                      try simp only [est]
                      try simp only [ega]
                      try simp only [eki]
                      try simp only [est9]
                      try simp only [d65]
                      try simp only [en2]
                      try simp only [r57]
                      try simp only [r58]
                      try simp only [r59]
                      try simp only [r60]
                      try simp only [r67]
                      try simp only [r70]
                      try simp only [r35]
                      try simp only [ebt]
                      try simp only [ehr]
                      try simp only [ewe]
                      try simp only [r61]
                      try simp only [c61]
                      try simp only [c62]
                      try simp only [c63]
                      try simp only [c64]
                      try simp only [c65]
                      try simp only [en5]
                      conv => whnf
                      refine ⟨⟨by omega, by omega⟩, ?_⟩
                      conv => whnf
                      refine ⟨sx_ixI (by first | assumption | rfl) (by omega) (by omega), ?_⟩
                      conv => whnf
                      refine ⟨fun q9 => by first | (simp at q9; done) | omega, ?_⟩
                      generalize e9 : sx_up _ 154 0 (A.n + 1) = σ9
                      have x5 : ∀ a : Int, ¬ a = 144 → ¬ a = 145 → ¬ a = 124 → σ5 a = σ4 a := fun a z1 z2 z3 => he5.row z1 z2 z3
                      have g9 := g5.add (lo := W.bt w) (ce := (fBes P.w P.h (W.at1 w) y)) (wa := y) (ho := A.hr) (by rw [x5 146 (by decide) (by decide) (by decide), ← e4, up_a (by decide), up_a (by decide), up_a (by decide), up_s]) (by rw [x5 147 (by decide) (by decide) (by decide), ← e4, up_a (by decide), up_a (by decide), up_s]) (by rw [x5 148 (by decide) (by decide) (by decide), ← e4, up_a (by decide), up_s]) (by rw [x5 149 (by decide) (by decide) (by decide), ← e4, up_s]) e9
                      have f3 : fr FS σ2 σ3 := fun a i z9 => he3 a i (by unfold FS at z9; omega) (by unfold FS at z9; omega) (by unfold FS at z9; omega)
                      have f4 : fr FS σ3 σ4 := fun a i z9 => by unfold FS at z9; rw [← e4, up_n (by omega), up_n (by omega), up_n (by omega), up_n (by omega)]
                      have f5 : fr FS σ4 σ5 := fun a i z9 => he5 a i (by unfold FS at z9; omega) (by unfold FS at z9; omega) (by unfold FS at z9; omega)
                      have f9 : fr FS σ5 σ9 := fun a i z9 => by unfold FS at z9; rw [← e9, up_n (by omega), up_n (by omega), up_n (by omega), up_n (by omega), up_n (by omega)]
                      have w5 : rW P σ9 (sW W w (fBes P.w P.h (W.at1 w) y)) := w3.of (fun a i z9 => by rw [← e9, up_a (by omega), up_a (by omega), up_a (by omega), up_a (by omega), up_a (by omega), he5 a i (by omega) (by omega) (by omega), ← e4, up_a (by omega), up_a (by omega), up_a (by omega), up_a (by omega)])
                      exact h2 ⟨by omega, by omega, by omega, by omega⟩ ⟨hne, fun z9 => by omega⟩ σm _ hm ((((f2.trans f3).trans f4).trans f5).trans f9) (by unfold sA0; rw [if_pos hl]; exact g9) w5
                    · exact absurd g (by simp [sx_cc])
                  · simp only [sx_cc, Classical.not_not] at g
                    conv => whnf
                    refine ⟨fun q9 => by first | (simp at q9; done) | omega, ?_⟩
                    exact h1 ⟨by omega, by omega, by omega, by omega⟩ (fun z9 => z9.2 ⟨hl, by omega⟩)
          · simp only [sx_cc, Classical.not_not] at g
            conv => whnf
            refine ⟨fun q9 => by first | (simp at q9; done) | omega, ?_⟩
            exact h1 ⟨by omega, by omega, by omega, by omega⟩ (fun z9 => z9.1 (by have h9 := fBes_bd P.w P.h (W.at1 w) y; omega))
        · exact absurd g (by simp [sx_cc])
      · skip
        conv => whnf
        refine ⟨fun g => ?_, fun g => ?_⟩
        · exact absurd g (by simp [sx_cc])
        · skip
          conv => whnf
          refine ⟨fun q9 => by first | (simp at q9; done) | omega, ?_⟩
          exact h0 (by omega)
  · rw [g0.rp.wa] at y0
    conv => whnf
    refine ⟨fun g => ?_, fun g => ?_⟩
    · skip
      conv => whnf
      refine ⟨fun q9 => by first | (simp at q9; done) | omega, ?_⟩
      exact h0 (by omega)
    · exact absurd g (by simp [sx_cc])
end SXM6
