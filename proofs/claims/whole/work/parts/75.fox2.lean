/-! BOOTS, FOX, reference side (by wip/whole) -/
section SXM7
variable {X : sx_X} {Q : sx_R} {s t p b c kk : Int} {σ σ0 σ' σ1 σ2 : sx_S} {P : aP} {A B : aM} {W V : aW}
set_option maxRecDepth 20000 in
theorem r_boots (e0 : σ0 = sx_up σ 124 2 0) (wp : wP P) (wm : wM P A c) (g0 : GR 0 P A σ0) (hW : rW P σ0 W) {z : Int} (ez : σ0 124 83 = z) (hz : 0 ≤ z ∧ z ≤ 20) {w v : Int} (h0 : ¬ (0 ≤ w ∧ w < P.wa ∧ 0 ≤ v ∧ v < P.wa ∧ ¬ W.bt w = v) → Q (some (.inl 0)) shM σ0) (h1 : (0 ≤ w ∧ w < P.wa ∧ 0 ≤ v ∧ v < P.wa ∧ ¬ W.bt w = v) → ∀ σm σ', pRm z A.n σ0 σm → fr FS σm σ' → GR 0 P A σ' → rW P σ' (bW W w v) → Q (some (.inl 1)) shM σ') : sx_Run X 241 [.inr (.inr 124), .inl w, .inl v] shM σ Q := by
  have r70 := pt_124_70 g0.pt
  have en := g0.rs.n
  have v5 := wp.wa
  refine sx_rule0 (own := 12) (cd := kX12_boots) (nL := 3) (by decide +kernel) (by decide +kernel) kX12_boots_ok (by decide +kernel) (Nat.le_of_ble_eq_true rfl) 40 ?_
  conv => whnf
  refine ⟨(by first | assumption | rfl), ?_⟩
  try simp (disch := omega) only [Int.cast_ofNat_Int, up_s, up_a, up_i, mp_a, mp_ge]
  try simp only [r70]
  try simp only [eb]
  rw [← e0]
  conv => whnf
  refine ⟨Nat.le_of_ble_eq_true rfl, Nat.le_of_ble_eq_true rfl, (by first | assumption | rfl), ?_⟩
  refine c_Riswalker (fun y1 y2 => ?_) (fun y0 => ?_)
  · rw [g0.rp.wa] at y2
    have eb := hW.bt w y1 y2
    conv => whnf
    refine ⟨fun g => ?_, fun g => ?_⟩
    · exact absurd g (by simp [sx_cc])
    · skip
      conv => whnf
      refine ⟨Nat.le_of_ble_eq_true rfl, Nat.le_of_ble_eq_true rfl, (by first | assumption | rfl), ?_⟩
      refine c_Riswalker (fun y3 y4 => ?_) (fun y0 => ?_)
      · rw [g0.rp.wa] at y4
        conv => whnf
        refine ⟨fun g => ?_, fun g => ?_⟩
        · exact absurd g (by simp [sx_cc])
        · skip
          conv => whnf
          refine ⟨(by first | assumption | rfl), ?_⟩
          try simp (disch := omega) only [Int.cast_ofNat_Int, up_s, up_a, up_i, mp_a, mp_ge]
          try simp only [r70]
          try simp only [eb]
          conv => whnf
          refine ⟨sx_ixI (by first | assumption | rfl) (by omega) (by omega), ?_⟩
          try simp (disch := omega) only [Int.cast_ofNat_Int, up_s, up_a, up_i, mp_a, mp_ge]
          try simp only [r70]
          try simp only [eb]
          conv => whnf
          refine ⟨fun g => ?_, fun g => ?_⟩
          · simp only [sx_cc, Classical.not_not] at g
            conv => whnf
            refine ⟨Nat.le_of_ble_eq_true rfl, Nat.le_of_ble_eq_true rfl, (by first | assumption | rfl), ?_⟩
            refine c_Rrem g0.pt ez hz en wm.n (fun m z0 z1 => by have h9 := g0.rs.bl m z0 z1; rw [z90] at h9; rw [h9]; exact wm.bl m z0 z1) ?_
            intro σm hm
            have gm := frm_gr hm.1 g0
            have w9 := frm_rw hm.1 hW
            have r70 := pt_124_70 gm.pt
            conv => whnf
            refine ⟨(by first | assumption | rfl), ?_⟩
            try simp (disch := omega) only [Int.cast_ofNat_Int, up_s, up_a, up_i, mp_a, mp_ge]
            try simp only [r70]
            try simp only [eb]
            conv => whnf
            refine ⟨sx_ixI (by first | assumption | rfl) (by omega) (by omega), ?_⟩
            conv => whnf
            refine ⟨fun q9 => by first | (simp at q9; done) | omega, ?_⟩
            generalize e8 : sx_up σm 159 w v = σ8
            have x8 : ∀ a i : Int, ¬ (157 ≤ a ∧ a ≤ 159) → σ8 a i = σm a i := fun a i z9 => by rw [← e8, up_a (by omega)]
            have T8 : PT σ8 := by rw [← e8]; exact PT_up gm.pt (show sx_lk shM 159 = _ from rfl) (by decide)
            exact h1 ⟨by omega, by omega, by omega, by omega, by omega⟩ σm σ8 hm (fun a i z9 => x8 a i (by unfold FS at z9; omega)) (gm.st3 T8 x8) (rW.mk (fun u y0 y1 => by rw [← e8, up_a (by decide)]; exact w9.at1 u y0 y1) (fun u y0 y1 => by rw [← e8, up_a (by decide)]; exact w9.st u y0 y1) (fun u y0 y1 => by
              rw [← e8]
              by_cases e9 : u = w
              · subst e9; rw [up_s]; exact fU_s.symm
              · rw [up_i e9]; exact (w9.bt u y0 y1).trans (fU_n e9).symm) (fun u y0 y1 => by rw [← e8, up_a (by decide)]; exact w9.db u y0 y1) (by rw [← e8, up_a (by decide)]; exact w9.wi))
          · simp only [sx_cc, Classical.not_not] at g
            conv => whnf
            refine ⟨fun q9 => by first | (simp at q9; done) | omega, ?_⟩
            exact h0 (by omega)
      · rw [g0.rp.wa] at y0
        conv => whnf
        refine ⟨fun g => ?_, fun g => ?_⟩
        · skip
          conv => whnf
          refine ⟨fun q9 => by first | (simp at q9; done) | omega, ?_⟩
          exact h0 (by omega)
        · exact absurd g (by simp [sx_cc])
  · rw [g0.rp.wa] at y0
    conv => whnf
    refine ⟨fun g => ?_, fun g => ?_⟩
    · skip
      conv => whnf
      refine ⟨fun q9 => by first | (simp at q9; done) | omega, ?_⟩
      exact h0 (by omega)
    · exact absurd g (by simp [sx_cc])
theorem rS_bl1 {f : Int → Int} {m : Int} (n0 : σ 154 0 = A.n) (hr : σ 156 0 = A.hr) (sn : σ 155 0 = A.sn) (la : σ 124 73 = A.la) (r0 : ∀ j : Int, 0 ≤ j → j < A.n → σ 146 (90 * 0 + j) = A.lk j) (r1 : ∀ j : Int, 0 ≤ j → j < A.n → σ 147 (90 * 0 + j) = A.ce j) (r2 : ∀ j : Int, 0 ≤ j → j < A.n → σ 148 (90 * 0 + j) = A.wy j) (r3 : ∀ j : Int, 0 ≤ j → j < A.n → σ 149 (90 * 0 + j) = A.bo j) (r4 : ∀ j : Int, 0 ≤ j → j < A.n → σ 150 (90 * 0 + j) = A.dp j) (r5 : ∀ j : Int, 0 ≤ j → j < A.n → σ 151 (90 * 0 + j) = A.cv j) (r6 : ∀ j : Int, 0 ≤ j → j < A.n → σ 152 (90 * 0 + j) = A.ow j) (hb : ∀ j : Int, 0 ≤ j → j < A.n → σ 153 (90 * 0 + j) = f j) : rS 0 (sx_up σ 153 m 1) (A.wb (fU f m 1)) := by
  refine rS.mk ((up_a (by decide)).trans n0) ((up_a (by decide)).trans hr) ((up_a (by decide)).trans sn) ((up_a (by decide)).trans la) (fun j y0 y1 => (up_a (by decide)).trans (r0 j y0 y1)) (fun j y0 y1 => (up_a (by decide)).trans (r1 j y0 y1)) (fun j y0 y1 => (up_a (by decide)).trans (r2 j y0 y1)) (fun j y0 y1 => (up_a (by decide)).trans (r3 j y0 y1)) (fun j y0 y1 => (up_a (by decide)).trans (r4 j y0 y1)) (fun j y0 y1 => (up_a (by decide)).trans (r5 j y0 y1)) (fun j y0 y1 => (up_a (by decide)).trans (r6 j y0 y1)) (fun j y0 y1 => ?_)
  show sx_up σ 153 m 1 153 (90 * 0 + j) = fU f m 1 j
  have h9 := hb j y0 y1
  rw [z90] at h9 ⊢
  by_cases e9 : j = m
  · subst e9; rw [up_s, fU_s]
  · rw [up_i e9, fU_n e9]; exact h9
theorem GR.bl1 {f : Int → Int} (g : GR 0 P (A.wb f) σ) {m : Int} : GR 0 P (A.wb (fU f m 1)) (sx_up σ 153 m 1) :=
  g.upd (PT_up g.pt lk_153 (by decide)) (fun a i z => up_a (by omega)) (rS_bl1 g.rs.n g.rs.hr g.rs.sn g.rs.la g.rs.lk g.rs.ce g.rs.wy g.rs.bo g.rs.dp g.rs.cv g.rs.ow g.rs.bl)
set_option maxRecDepth 20000 in
theorem r_fox (e0 : σ0 = sx_up σ 124 2 0) (wp : wP P) (wm : wM P A c) (g0 : GR 0 P A σ0) {z : Int} (ez : σ0 124 83 = z) (hz : 0 ≤ z ∧ z ≤ 20) {e y x : Int} (h0 : ¬ (0 ≤ e ∧ e < P.w * P.h ∧ 0 ≤ y ∧ y ≤ 3 ∧ 1 ≤ x ∧ x ≤ 8) → Q (some (.inl (-1))) shM σ0) (h1 : (0 ≤ e ∧ e < P.w * P.h ∧ 0 ≤ y ∧ y ≤ 3 ∧ 1 ≤ x ∧ x ≤ 8) → (fBlr P A y e x.toNat).2 = 0 → Q (some (.inl 0)) shM σ0) (h2 : (0 ≤ e ∧ e < P.w * P.h ∧ 0 ≤ y ∧ y ≤ 3 ∧ 1 ≤ x ∧ x ≤ 8) → 1 ≤ (fBlr P A y e x.toNat).2 → ∀ σm σ', pRm z A.n σ0 σm → (∀ a j : Int, ¬ a = 153 → σ' a j = σm a j) → GR 0 P (A.wb (fBlr P A y e x.toNat).1) σ' → Q (some (.inl (fBlr P A y e x.toNat).2)) shM σ') : sx_Run X 242 [.inr (.inr 124), .inl e, .inl y, .inl x] shM σ Q := by
  have v4 := wp.wh
  have wn := wm.n
  have en := g0.rs.n
  have hb0 : (0 : Int) = 0 ∨ (0 : Int) = 1 := Or.inl rfl
  refine sx_rule2 (own := 12) (cd := kX12_fox) (nL := 8) (by decide +kernel) (by decide +kernel) kX12_fox_ok (by decide +kernel) (Nat.le_of_ble_eq_true rfl) [43] 40 (fun n t L st _ σ' => (t = 43 ∧ ∃ u v i : Int, ∃ w7 : Option sx_V, st = [] ∧ L = [some (.inr (.inr (124))), some (.inl (e)), some (.inl (y)), some (.inl (x)), some (.inl (v)), some (.inl (u)), some (.inl (i)), w7] ∧ (GR 0 P (A.wb (fBlr P A y e i.toNat).1) σ' ∧ (v = 0 → σ' = σ0) ∧ (v = 0 → (fBlr P A y e i.toNat).1 = A.bl) ∧ (1 ≤ v → ∃ σm, pRm z A.n σ0 σm ∧ ∀ a j : Int, ¬ a = 153 → σ' a j = σm a j) ∧ u = fAt P y e i.toNat ∧ v = (fBlr P A y e i.toNat).2 ∧ 0 ≤ i ∧ i ≤ x ∧ (0 ≤ e ∧ e < P.w * P.h ∧ 0 ≤ y ∧ y ≤ 3 ∧ 1 ≤ x ∧ x ≤ 8)) ∧ n = (x - i).toNat)) ?_ ?_
  · skip
    conv => whnf
    refine ⟨(by first | assumption | rfl), ?_⟩
    try simp (disch := omega) only [Int.cast_ofNat_Int, up_s, up_a, up_i, mp_a, mp_ge]
    try simp only [r64]
    try simp only [c64]
    try simp only [eb]
    rw [← e0]
    conv => whnf
    refine ⟨Nat.le_of_ble_eq_true rfl, Nat.le_of_ble_eq_true rfl, (by first | assumption | rfl), ?_⟩
    refine c_Riscell (g0.rp.rd wp) (fun y1 y2 => ?_) (fun y0 => ?_)
    · rw [g0.rp.w, g0.rp.h] at y2
      conv => whnf
      refine ⟨fun g => ?_, fun g => ?_⟩
      · exact absurd g (by simp [sx_cc])
      · skip
        conv => whnf
        refine ⟨Nat.le_of_ble_eq_true rfl, Nat.le_of_ble_eq_true rfl, ?_⟩
        refine c_Rin (fun y3 y4 => ?_) (fun y0 => ?_)
        · skip
          conv => whnf
          refine ⟨fun g => ?_, fun g => ?_⟩
          · exact absurd g (by simp [sx_cc])
          · skip
            conv => whnf
            refine ⟨Nat.le_of_ble_eq_true rfl, Nat.le_of_ble_eq_true rfl, ?_⟩
            refine c_Rin (fun y3 y4 => ?_) (fun y0 => ?_)
            · skip
              conv => whnf
              refine ⟨fun g => ?_, fun g => ?_⟩
              · skip
                conv => whnf
                refine ⟨_, ⟨rfl, _, _, _, _, rfl, rfl, ?_, rfl⟩⟩
                exact ⟨g0, fun _ => rfl, fun _ => rfl, fun z9 => by omega, rfl, rfl, by omega, by omega, by omega⟩
              · exact absurd g (by simp [sx_cc])
            · skip
              conv => whnf
              refine ⟨fun g => ?_, fun g => ?_⟩
              · exact absurd g (by simp [sx_cc])
              · skip
                conv => whnf
                refine ⟨fun q9 => by first | (simp at q9; done) | omega, ?_⟩
                exact h0 (by omega)
        · skip
          conv => whnf
          refine ⟨fun g => ?_, fun g => ?_⟩
          · skip
            conv => whnf
            refine ⟨fun q9 => by first | (simp at q9; done) | omega, ?_⟩
            exact h0 (by omega)
          · exact absurd g (by simp [sx_cc])
    · rw [g0.rp.w, g0.rp.h] at y0
      conv => whnf
      refine ⟨fun g => ?_, fun g => ?_⟩
      · skip
        conv => whnf
        refine ⟨fun q9 => by first | (simp at q9; done) | omega, ?_⟩
        exact h0 (by omega)
      · exact absurd g (by simp [sx_cc])
  · intro n t L st σ' hk
    obtain ⟨rfl, u, v, i, w7, rfl, rfl, hc, rfl⟩ := hk
    obtain ⟨gi, hz0, hbl0, hz1, hu, hv, hi0, hi1, hq⟩ := hc
    have r64 := pt_124_64 gi.pt
    have hub := fAt_bd (P := P) (y := y) (e := e) ⟨by omega, by omega⟩ i.toNat
    rw [← hu] at hub
    have hvb := fBlr_bd (P := P) (A := A) (y := y) (e := e) i.toNat
    rw [← hv] at hvb
    have htb := aTop_bd wm u
    conv => whnf
    refine ⟨fun g => ?_, fun g => ?_⟩
    · simp only [sx_cc, Classical.not_not] at g
      conv => whnf
      refine ⟨fun q9 => by first | (simp at q9; done) | omega, ?_⟩
      have et := fBlr_to (A := A) hi0 hi1 (P := P) (y := y) (e := e) (by omega)
      rw [et] at hv gi
      by_cases ev : v = 0
      · rw [hz0 ev, ev]
        exact h1 hq (by omega)
      · obtain ⟨σm, hm, hm2⟩ := hz1 (by omega)
        rw [hv]
        exact h2 hq (by omega) σm _ hm hm2 gi
    · simp only [sx_cc, Classical.not_not] at g
      conv => whnf
      refine ⟨fun g => ?_, fun g => ?_⟩
      · simp only [sx_cc, Classical.not_not] at g
        conv => whnf
        refine ⟨fun q9 => by first | (simp at q9; done) | omega, ?_⟩
        have et := fBlr_to (A := A) hi0 hi1 (P := P) (y := y) (e := e) (by omega)
        rw [et] at hv gi
        by_cases ev : v = 0
        · rw [hz0 ev, ev]
          exact h1 hq (by omega)
        · obtain ⟨σm, hm, hm2⟩ := hz1 (by omega)
          rw [hv]
          exact h2 hq (by omega) σm _ hm hm2 gi
      · simp only [sx_cc, Classical.not_not] at g
        conv => whnf
        refine ⟨Nat.le_of_ble_eq_true rfl, Nat.le_of_ble_eq_true rfl, (by first | assumption | rfl), ?_⟩
        refine a_Rread hb0 (wm.wb (y := y) (e := e) i.toNat) gi ?_
        rw [aTop_wb]
        conv => whnf
        refine ⟨fun g => ?_, fun g => ?_⟩
        · simp only [sx_cc, Classical.not_not] at g
          have hno : ¬ pHit A (fBlr P A y e i.toNat).1 (fAt P y e i.toNat) := by rw [← hu]; exact fun z9 => (by omega)
          conv => whnf
          refine ⟨Nat.le_of_ble_eq_true rfl, Nat.le_of_ble_eq_true rfl, (by first | assumption | rfl), ?_⟩
          refine c_Rbeside (gi.rp.rd wp) (c := u) (by omega) (by rw [gi.rp.w, gi.rp.h]; omega) ?_
          rw [gi.rp.w, gi.rp.h]
          conv => whnf
          refine ⟨⟨by omega, by omega⟩, ?_⟩
          conv => whnf
          refine ⟨_, ?_, ⟨rfl, _, _, _, _, rfl, rfl, ?_, rfl⟩⟩
          · omega
          · have e9 := fBlr_f hi0 hno
            exact ⟨by rw [e9]; exact gi, hz0, by rw [e9]; exact hbl0, hz1, by rw [fAt_s hi0 (by omega), ← hu], by rw [e9]; exact hv, by omega, by omega, hq⟩
        · simp only [sx_cc, Classical.not_not] at g
          have eb : σ' 153 (aTop A u) = (fBlr P A y e i.toNat).1 (aTop A u) := by
            have h9 := gi.rs.bl (aTop A u) (by omega) (by show aTop A u < A.n; omega)
            rw [z90] at h9
            exact h9
          have hb01 := fBlr_01 wm (y := y) (e := e) i.toNat (aTop A u) (by omega) (by omega)
          conv => whnf
          refine ⟨(by first | assumption | rfl), ?_⟩
          try simp (disch := omega) only [Int.cast_ofNat_Int, up_s, up_a, up_i, mp_a, mp_ge]
          try simp only [r64]
          try simp only [c64]
          try simp only [eb]
          conv => whnf
          refine ⟨by decide, ?_⟩
          conv => whnf
          refine ⟨sx_ixI (by first | assumption | rfl) (by omega) (by omega), ?_⟩
          try simp (disch := omega) only [Int.cast_ofNat_Int, up_s, up_a, up_i, mp_a, mp_ge]
          try simp only [r64]
          try simp only [c64]
          try simp only [eb]
          conv => whnf
          refine ⟨fun g => ?_, fun g => ?_⟩
          · simp only [sx_cc, Classical.not_not] at g
            have hno : ¬ pHit A (fBlr P A y e i.toNat).1 (fAt P y e i.toNat) := by rw [← hu]; exact fun z9 => g z9.2.2
            conv => whnf
            refine ⟨Nat.le_of_ble_eq_true rfl, Nat.le_of_ble_eq_true rfl, (by first | assumption | rfl), ?_⟩
            refine c_Rbeside (gi.rp.rd wp) (c := u) (by omega) (by rw [gi.rp.w, gi.rp.h]; omega) ?_
            rw [gi.rp.w, gi.rp.h]
            conv => whnf
            refine ⟨⟨by omega, by omega⟩, ?_⟩
            conv => whnf
            refine ⟨_, ?_, ⟨rfl, _, _, _, _, rfl, rfl, ?_, rfl⟩⟩
            · omega
            · have e9 := fBlr_f hi0 hno
              exact ⟨by rw [e9]; exact gi, hz0, by rw [e9]; exact hbl0, hz1, by rw [fAt_s hi0 (by omega), ← hu], by rw [e9]; exact hv, by omega, by omega, hq⟩
          · simp only [sx_cc, Classical.not_not] at g
            have hhit : pHit A (fBlr P A y e i.toNat).1 (fAt P y e i.toNat) := by rw [← hu]; exact ⟨(by omega), (by omega), g⟩
            conv => whnf
            refine ⟨fun g => ?_, fun g => ?_⟩
            · simp only [sx_cc, Classical.not_not] at g
              conv => whnf
              refine ⟨(by first | assumption | rfl), ?_⟩
              try simp (disch := omega) only [Int.cast_ofNat_Int, up_s, up_a, up_i, mp_a, mp_ge]
              try simp only [r64]
              try simp only [c64]
              try simp only [eb]
              conv => whnf
              refine ⟨sx_ixI (by first | assumption | rfl) (by omega) (by omega), by omega, ?_⟩
              generalize e5 : sx_up σ' 153 _ 1 = σ5
              have g5 := gi.bl1 (m := aTop A u)
              rw [e5] at g5
              have hmm : ∃ σm, pRm z A.n σ0 σm ∧ ∀ a j : Int, ¬ a = 153 → σ5 a j = σm a j := by
                obtain ⟨σm, hm, hm2⟩ := hz1 (by omega)
                exact ⟨σm, hm, fun a j z9 => by rw [← e5, up_a z9]; exact hm2 a j z9⟩
              conv => whnf
              refine ⟨⟨by omega, by omega⟩, ?_⟩
              conv => whnf
              refine ⟨Nat.le_of_ble_eq_true rfl, Nat.le_of_ble_eq_true rfl, (by first | assumption | rfl), ?_⟩
              refine c_Rbeside (g5.rp.rd wp) (c := u) (by omega) (by rw [g5.rp.w, g5.rp.h]; omega) ?_
              rw [g5.rp.w, g5.rp.h]
              conv => whnf
              refine ⟨⟨by omega, by omega⟩, ?_⟩
              conv => whnf
              refine ⟨_, ?_, ⟨rfl, _, _, _, _, rfl, rfl, ?_, rfl⟩⟩
              · omega
              · have e9 := fBlr_t hi0 hhit
                rw [← hu] at e9
                exact ⟨by rw [e9]; exact g5, fun z9 => by omega, fun z9 => by omega, fun _ => hmm, by rw [fAt_s hi0 (by omega), ← hu], by rw [e9, hv], by omega, by omega, hq⟩
            · simp only [sx_cc, Classical.not_not] at g
              conv => whnf
              refine ⟨Nat.le_of_ble_eq_true rfl, Nat.le_of_ble_eq_true rfl, (by first | assumption | rfl), ?_⟩
              have hv0 : v = 0 := by omega
              have es := hz0 hv0
              have ebl0 : (fBlr P A y e i.toNat).1 = A.bl := hbl0 hv0
              rw [es]
              refine c_Rrem g0.pt ez hz en wm.n (fun m z0 z1 => by have h9 := g0.rs.bl m z0 z1; rw [z90] at h9; rw [h9]; exact wm.bl m z0 z1) ?_
              intro σm hm
              have gm := frm_gr hm.1 g0
              have c64 := pt_124_64 gm.pt
              conv => whnf
              refine ⟨(by first | assumption | rfl), ?_⟩
              try simp (disch := omega) only [Int.cast_ofNat_Int, up_s, up_a, up_i, mp_a, mp_ge]
              try simp only [r64]
              try simp only [c64]
              try simp only [eb]
              conv => whnf
              refine ⟨sx_ixI (by first | assumption | rfl) (by omega) (by omega), by omega, ?_⟩
              generalize e5 : sx_up σm 153 _ 1 = σ5
              have gm9 : GR 0 P (A.wb (fBlr P A y e i.toNat).1) σm := by rw [ebl0]; exact gm
              have g5 := gm9.bl1 (m := aTop A u)
              rw [e5] at g5
              have hmm : ∃ σm, pRm z A.n σ0 σm ∧ ∀ a j : Int, ¬ a = 153 → σ5 a j = σm a j := ⟨σm, hm, fun a j z9 => by rw [← e5, up_a z9]⟩
              conv => whnf
              refine ⟨⟨by omega, by omega⟩, ?_⟩
              conv => whnf
              refine ⟨Nat.le_of_ble_eq_true rfl, Nat.le_of_ble_eq_true rfl, (by first | assumption | rfl), ?_⟩
              refine c_Rbeside (g5.rp.rd wp) (c := u) (by omega) (by rw [g5.rp.w, g5.rp.h]; omega) ?_
              rw [g5.rp.w, g5.rp.h]
              conv => whnf
              refine ⟨⟨by omega, by omega⟩, ?_⟩
              conv => whnf
              refine ⟨_, ?_, ⟨rfl, _, _, _, _, rfl, rfl, ?_, rfl⟩⟩
              · omega
              · have e9 := fBlr_t hi0 hhit
                rw [← hu] at e9
                exact ⟨by rw [e9]; exact g5, fun z9 => by omega, fun z9 => by omega, fun _ => hmm, by rw [fAt_s hi0 (by omega), ← hu], by rw [e9, hv], by omega, by omega, hq⟩
end SXM7
