/-! TRIED, reference side (by wip/whole) -/
section SXL12
variable {X : sx_X} {Q : sx_R} {s t p b c x kk : Int} {σ σ0 σ' σ1 σ2 : sx_S} {P : aP} {A B : aM} {W : aW}
theorem GR.upd (g : GR b P A σ) (hT : PT σ') (h : ∀ a i : Int, ¬ (146 ≤ a ∧ a ≤ 153) → σ' a i = σ a i) (hA : rS b σ' B) : GR b P B σ' := GR.mk hT (g.rp.of (fun a i z1 z2 => h _ _ (by omega)) (fun i z1 z2 => h _ _ (by decide))) hA (g.sc.of (fun i => h _ _ (by decide)) (h _ _ (by decide)))
set_option maxRecDepth 20000 in
theorem r_tried (e0 : σ0 = sx_up σ 124 2 0) (wp : wP P) (wm : wM P A c) (hc : c ≤ 1000000) (hc0 : 0 ≤ c) (g0 : GR 0 P A σ0) {f q i : Int} (h0 : ¬ (0 ≤ f ∧ f < P.fa ∧ pTry P q i) → Q (some (.inl (-1))) shM σ0) (h1 : (0 ≤ f ∧ f < P.fa ∧ pTry P q i) → ∀ σ', fr FZR σ0 σ' → GR 1 P (aTry q i A) σ' → Q (some (.inl (fSco P (aTry q i A) f))) shM σ') : sx_Run X 299 [.inr (.inr 124), .inl f, .inl q, .inl i] shM σ Q := by
  have hb1 : (1 : Int) = 0 ∨ (1 : Int) = 1 := Or.inr rfl
  have wn := wm.n
  refine sx_rule2 (own := 12) (cd := kX12_tried) (nL := 5) (by decide +kernel) (by decide +kernel) kX12_tried_ok (by decide +kernel) (Nat.le_of_ble_eq_true rfl) [72] 40 (fun n t L st _ σ' => (t = 72 ∧ ∃ k : Int, st = [] ∧ L = [some (.inr (.inr (124))), some (.inl (f)), some (.inl (q)), some (.inl (i)), some (.inl (k))] ∧ (fr FZR σ0 σ' ∧ GR 1 P (tA q i (k - 90) A) σ' ∧ 90 ≤ k ∧ k ≤ 90 + A.n ∧ (0 ≤ f ∧ f < P.fa ∧ pTry P q i)) ∧ n = (90 + A.n - k).toNat)) ?_ ?_
  · skip
    conv => whnf
    refine ⟨(by first | assumption | rfl), ?_⟩
    try simp (disch := omega) only [Int.cast_ofNat_Int, up_s, up_a, up_i, mp_a, mp_ge]
    try simp only [r65]
    try simp only [r57]
    try simp only [r61]
    try simp only [r62]
    try simp only [r63]
    try simp only [r64]
    try simp only [en]
    try simp only [owk]
    rw [← e0]
    conv => whnf
    refine ⟨Nat.le_of_ble_eq_true rfl, Nat.le_of_ble_eq_true rfl, (by first | assumption | rfl), ?_⟩
    refine c_Risfarm (fun y1 y2 => ?_) (fun y0 => ?_)
    · rw [g0.rp.fa] at y2
      conv => whnf
      refine ⟨fun g => ?_, fun g => ?_⟩
      · exact absurd g (by simp [sx_cc])
      · skip
        conv => whnf
        refine ⟨Nat.le_of_ble_eq_true rfl, Nat.le_of_ble_eq_true rfl, ?_⟩
        refine c_Rin (fun y3 y4 => ?_) (fun y0 => ?_)
        · skip
          conv => whnf
          refine ⟨fun g => ?_, fun g => ?_⟩
          · skip
            conv => whnf
            refine ⟨fun g => ?_, fun g => ?_⟩
            · simp only [sx_cc, Classical.not_not] at g
              conv => whnf
              refine ⟨fun g => ?_, fun g => ?_⟩
              · simp only [sx_cc, Classical.not_not] at g
                conv => whnf
                refine ⟨fun g => ?_, fun g => ?_⟩
                · simp only [sx_cc, Classical.not_not] at g
                  conv => whnf
                  refine ⟨Nat.le_of_ble_eq_true rfl, Nat.le_of_ble_eq_true rfl, (by first | assumption | rfl), ?_⟩
                  refine a_Rtried wm g0 ?_
                  intro σ1 hf1 g1 t1
                  conv => whnf
                  refine ⟨_, ⟨rfl, _, rfl, rfl, ?_, rfl⟩⟩
                  exact ⟨hf1.yz, t1.upd t1.pt (fun a i9 z => rfl) (tA_0 t1.rs), by omega, by omega, by omega, by omega, by unfold pTry; omega⟩
                · simp only [sx_cc, Classical.not_not] at g
                  conv => whnf
                  refine ⟨fun q9 => by first | (simp at q9; done) | omega, ?_⟩
                  exact h0 (fun z => by have z2 := z.2.2; unfold pTry at z2; omega)
              · simp only [sx_cc, Classical.not_not] at g
                conv => whnf
                refine ⟨Nat.le_of_ble_eq_true rfl, Nat.le_of_ble_eq_true rfl, ?_⟩
                refine c_Rin (fun y3 y4 => ?_) (fun y0 => ?_)
                · skip
                  conv => whnf
                  refine ⟨fun g => ?_, fun g => ?_⟩
                  · skip
                    conv => whnf
                    refine ⟨Nat.le_of_ble_eq_true rfl, Nat.le_of_ble_eq_true rfl, (by first | assumption | rfl), ?_⟩
                    refine a_Rtried wm g0 ?_
                    intro σ1 hf1 g1 t1
                    conv => whnf
                    refine ⟨_, ⟨rfl, _, rfl, rfl, ?_, rfl⟩⟩
                    exact ⟨hf1.yz, t1.upd t1.pt (fun a i9 z => rfl) (tA_0 t1.rs), by omega, by omega, by omega, by omega, by unfold pTry; omega⟩
                  · exact absurd g (by simp [sx_cc])
                · skip
                  conv => whnf
                  refine ⟨fun g => ?_, fun g => ?_⟩
                  · exact absurd g (by simp [sx_cc])
                  · skip
                    conv => whnf
                    refine ⟨fun q9 => by first | (simp at q9; done) | omega, ?_⟩
                    exact h0 (fun z => by have z2 := z.2.2; unfold pTry at z2; omega)
            · simp only [sx_cc, Classical.not_not] at g
              conv => whnf
              refine ⟨Nat.le_of_ble_eq_true rfl, Nat.le_of_ble_eq_true rfl, (by first | assumption | rfl), ?_⟩
              refine c_Riswalker (fun y5 y6 => ?_) (fun y0 => ?_)
              · rw [g0.rp.wa] at y6
                conv => whnf
                refine ⟨fun g => ?_, fun g => ?_⟩
                · skip
                  conv => whnf
                  refine ⟨Nat.le_of_ble_eq_true rfl, Nat.le_of_ble_eq_true rfl, (by first | assumption | rfl), ?_⟩
                  refine a_Rtried wm g0 ?_
                  intro σ1 hf1 g1 t1
                  conv => whnf
                  refine ⟨_, ⟨rfl, _, rfl, rfl, ?_, rfl⟩⟩
                  exact ⟨hf1.yz, t1.upd t1.pt (fun a i9 z => rfl) (tA_0 t1.rs), by omega, by omega, by omega, by omega, by unfold pTry; omega⟩
                · exact absurd g (by simp [sx_cc])
              · rw [g0.rp.wa] at y0
                conv => whnf
                refine ⟨fun g => ?_, fun g => ?_⟩
                · exact absurd g (by simp [sx_cc])
                · skip
                  conv => whnf
                  refine ⟨fun q9 => by first | (simp at q9; done) | omega, ?_⟩
                  exact h0 (fun z => by have z2 := z.2.2; unfold pTry at z2; omega)
          · exact absurd g (by simp [sx_cc])
        · skip
          conv => whnf
          refine ⟨fun g => ?_, fun g => ?_⟩
          · exact absurd g (by simp [sx_cc])
          · skip
            conv => whnf
            refine ⟨fun q9 => by first | (simp at q9; done) | omega, ?_⟩
            exact h0 (fun z => by have z2 := z.2.2; unfold pTry at z2; omega)
    · rw [g0.rp.fa] at y0
      conv => whnf
      refine ⟨fun g => ?_, fun g => ?_⟩
      · skip
        conv => whnf
        refine ⟨fun q9 => by first | (simp at q9; done) | omega, ?_⟩
        exact h0 (fun z => by have z2 := z.2.2; unfold pTry at z2; omega)
      · exact absurd g (by simp [sx_cc])
  · intro n t L st σ' hk
    obtain ⟨rfl, k, rfl, rfl, hc, rfl⟩ := hk
    obtain ⟨hfi, gi, hi0, hi1, hall⟩ := hc
    have hq := hall.2.2
    have r65 := pt_124_65 gi.pt
    have r57 := pt_124_57 gi.pt
    have r61 := pt_124_61 gi.pt
    have r62 := pt_124_62 gi.pt
    have r63 := pt_124_63 gi.pt
    have r64 := pt_124_64 gi.pt
    have en : σ' 154 1 = A.n := gi.rs.n
    have lk0 : k < 90 + A.n → σ' 146 k = (if q = 3 ∧ k - 90 < k - 90 then A.ow (k - 90) else A.lk (k - 90)) := fun z => by have h9 := gi.rs.lk (k - 90) (by omega) (show k - 90 < A.n by omega); rw [show 90 * 1 + (k - 90) = k by omega] at h9; exact h9
    have ow0 : k < 90 + A.n → σ' 152 k = A.ow (k - 90) := fun z => by have h9 := gi.rs.ow (k - 90) (by omega) (show k - 90 < A.n by omega); rw [show 90 * 1 + (k - 90) = k by omega] at h9; exact h9
    conv => whnf
    refine ⟨(by first | assumption | rfl), ?_⟩
    try simp (disch := omega) only [Int.cast_ofNat_Int, up_s, up_a, up_i, mp_a, mp_ge]
    try simp only [r65]
    try simp only [r57]
    try simp only [r61]
    try simp only [r62]
    try simp only [r63]
    try simp only [r64]
    try simp only [en]
    try simp only [owk]
    conv => whnf
    refine ⟨sx_ixI (by first | assumption | rfl) (by omega) (by omega), ?_⟩
    try simp (disch := omega) only [Int.cast_ofNat_Int, up_s, up_a, up_i, mp_a, mp_ge]
    try simp only [r65]
    try simp only [r57]
    try simp only [r61]
    try simp only [r62]
    try simp only [r63]
    try simp only [r64]
    try simp only [en]
    try simp only [owk]
    conv => whnf
    refine ⟨⟨by omega, by omega⟩, ?_⟩
    conv => whnf
    refine ⟨fun g => ?_, fun g => ?_⟩
    · simp only [sx_cc, Classical.not_not] at g
      conv => whnf
      refine ⟨fun g => ?_, fun g => ?_⟩
      · simp only [sx_cc, Classical.not_not] at g
        conv => whnf
        refine ⟨Nat.le_of_ble_eq_true rfl, Nat.le_of_ble_eq_true rfl, (by first | assumption | rfl), ?_⟩
        have et : aTry q i A = tA q i A.n A := if_neg (by omega)
        refine a_Rscore (f := f) hb1 wp (wm.tAb hc0) gi ?_
        intro σ3 hf3 g3
        conv => whnf
        refine ⟨fun q9 => by first | (simp at q9; done) | omega, ?_⟩
        have h9 := h1 hall _ (hfi.trans (eqR_z hf3)) (by rw [et, show A.n = k - 90 by omega]; exact g3)
        rw [et, show A.n = k - 90 by omega] at h9
        exact h9
      · simp only [sx_cc, Classical.not_not] at g
        conv => whnf
        refine ⟨Nat.le_of_ble_eq_true rfl, Nat.le_of_ble_eq_true rfl, (by first | assumption | rfl), ?_⟩
        refine a_Rthaws hb1 wm hc (gi.upd (B := A) gi.pt (fun a i9 z => rfl) (by have e9 : q = 4 := (by omega); subst e9; exact tA_4 gi.rs)) ⟨by unfold pTry at hq; omega, by unfold pTry at hq; omega⟩ ?_
        intro σ2 hf2 g2
        have et : aTry q i A = fThaw i A := if_pos (by omega)
        have hi9 : 0 ≤ i := by unfold pTry at hq; omega
        conv => whnf
        refine ⟨Nat.le_of_ble_eq_true rfl, Nat.le_of_ble_eq_true rfl, (by first | assumption | rfl), ?_⟩
        refine a_Rscore (f := f) hb1 wp (wm.thaw hi9) g2 ?_
        intro σ3 hf3 g3
        conv => whnf
        refine ⟨fun q9 => by first | (simp at q9; done) | omega, ?_⟩
        have h9 := h1 hall _ ((hfi.trans (hf2.rz (g2.rs.la.trans (show A.la = σ' 124 73 from gi.rs.la.symm)))).trans (eqR_z hf3)) (by rw [et]; exact g3)
        rw [et] at h9
        exact h9
    · simp only [sx_cc, Classical.not_not] at g
      have lkk := lk0 (by omega)
      have owk := ow0 (by omega)
      conv => whnf
      refine ⟨fun g => ?_, fun g => ?_⟩
      · simp only [sx_cc, Classical.not_not] at g
        conv => whnf
        refine ⟨fun g => ?_, fun g => ?_⟩
        · simp only [sx_cc, Classical.not_not] at g
          conv => whnf
          refine ⟨fun g => ?_, fun g => ?_⟩
          · simp only [sx_cc, Classical.not_not] at g
            conv => whnf
            refine ⟨fun g => ?_, fun g => ?_⟩
            · simp only [sx_cc, Classical.not_not] at g
              conv => whnf
              refine ⟨⟨by omega, by omega⟩, ?_⟩
              conv => whnf
              refine ⟨_, ?_, ⟨rfl, _, rfl, rfl, ?_, rfl⟩⟩
              · omega
              · exact ⟨hfi, gi.upd gi.pt (fun a i9 z => rfl) (by have h9 := tA_n (by omega) (fun z => by omega) (by omega) (by omega) gi.rs; rw [show k - 90 + 1 = k + 1 - 90 by omega] at h9; exact h9), by omega, by omega, hall⟩
            · simp only [sx_cc, Classical.not_not] at g
              conv => whnf
              refine ⟨(by first | assumption | rfl), ?_⟩
              try simp (disch := omega) only [Int.cast_ofNat_Int, up_s, up_a, up_i, mp_a, mp_ge]
              try simp only [r65]
              try simp only [r57]
              try simp only [r61]
              try simp only [r62]
              try simp only [r63]
              try simp only [r64]
              try simp only [en]
              try simp only [owk]
              conv => whnf
              refine ⟨(by first | assumption | rfl), ?_⟩
              try simp (disch := omega) only [Int.cast_ofNat_Int, up_s, up_a, up_i, mp_a, mp_ge]
              try simp only [r65]
              try simp only [r57]
              try simp only [r61]
              try simp only [r62]
              try simp only [r63]
              try simp only [r64]
              try simp only [en]
              try simp only [owk]
              conv => whnf
              refine ⟨sx_ixI (by first | assumption | rfl) (by omega) (by omega), ?_⟩
              try simp (disch := omega) only [Int.cast_ofNat_Int, up_s, up_a, up_i, mp_a, mp_ge]
              try simp only [r65]
              try simp only [r57]
              try simp only [r61]
              try simp only [r62]
              try simp only [r63]
              try simp only [r64]
              try simp only [en]
              try simp only [owk]
              conv => whnf
              refine ⟨sx_ixI (by first | assumption | rfl) (by omega) (by omega), ?_⟩
              conv => whnf
              refine ⟨⟨by omega, by omega⟩, ?_⟩
              conv => whnf
              refine ⟨_, ?_, ⟨rfl, _, rfl, rfl, ?_, rfl⟩⟩
              · omega
              · (have e9 : q = 3 := (by omega); subst e9; exact ⟨hfi.trans (fun a i9 z => up_n (by unfold FZR at z; omega)), gi.upd (PT_up gi.pt lk_146 (by decide)) (fun a i9 z => up_a (by omega)) (by have h9 := tA_s3 gi.rs; rw [show 90 + (k - 90) = k by omega, show k - 90 + 1 = k + 1 - 90 by omega] at h9; exact h9), by omega, by omega, hall⟩)
          · simp only [sx_cc, Classical.not_not] at g
            conv => whnf
            refine ⟨(by first | assumption | rfl), ?_⟩
            try simp (disch := omega) only [Int.cast_ofNat_Int, up_s, up_a, up_i, mp_a, mp_ge]
            try simp only [r65]
            try simp only [r57]
            try simp only [r61]
            try simp only [r62]
            try simp only [r63]
            try simp only [r64]
            try simp only [en]
            try simp only [owk]
            conv => whnf
            refine ⟨sx_ixI (by first | assumption | rfl) (by omega) (by omega), by omega, ?_⟩
            conv => whnf
            refine ⟨fun g => ?_, fun g => ?_⟩
            · simp only [sx_cc, Classical.not_not] at g
              conv => whnf
              refine ⟨⟨by omega, by omega⟩, ?_⟩
              conv => whnf
              refine ⟨_, ?_, ⟨rfl, _, rfl, rfl, ?_, rfl⟩⟩
              · omega
              · (have e9 : q = 2 := (by omega); subst e9; exact ⟨hfi.trans (fun a i9 z => up_n (by unfold FZR at z; omega)), gi.upd (PT_up gi.pt lk_153 (by decide)) (fun a i9 z => up_a (by omega)) (by have h9 := tA_s2 gi.rs; rw [show 90 + (k - 90) = k by omega, show k - 90 + 1 = k + 1 - 90 by omega] at h9; exact h9), by omega, by omega, hall⟩)
            · simp only [sx_cc, Classical.not_not] at g
              omega
        · simp only [sx_cc, Classical.not_not] at g
          conv => whnf
          refine ⟨(by first | assumption | rfl), ?_⟩
          try simp (disch := omega) only [Int.cast_ofNat_Int, up_s, up_a, up_i, mp_a, mp_ge]
          try simp only [r65]
          try simp only [r57]
          try simp only [r61]
          try simp only [r62]
          try simp only [r63]
          try simp only [r64]
          try simp only [en]
          try simp only [owk]
          conv => whnf
          refine ⟨sx_ixI (by first | assumption | rfl) (by omega) (by omega), ?_⟩
          try simp (disch := omega) only [Int.cast_ofNat_Int, up_s, up_a, up_i, mp_a, mp_ge]
          try simp only [r65]
          try simp only [r57]
          try simp only [r61]
          try simp only [r62]
          try simp only [r63]
          try simp only [r64]
          try simp only [en]
          try simp only [owk]
          conv => whnf
          refine ⟨fun g => ?_, fun g => ?_⟩
          · simp only [sx_cc, Classical.not_not] at g
            conv => whnf
            refine ⟨fun g => ?_, fun g => ?_⟩
            · simp only [sx_cc, Classical.not_not] at g
              conv => whnf
              refine ⟨fun g => ?_, fun g => ?_⟩
              · simp only [sx_cc, Classical.not_not] at g
                conv => whnf
                refine ⟨⟨by omega, by omega⟩, ?_⟩
                conv => whnf
                refine ⟨_, ?_, ⟨rfl, _, rfl, rfl, ?_, rfl⟩⟩
                · omega
                · exact ⟨hfi, gi.upd gi.pt (fun a i9 z => rfl) (by have h9 := tA_n (by omega) (fun z => by rw [if_neg (by omega)] at lkk; omega) (by omega) (by omega) gi.rs; rw [show k - 90 + 1 = k + 1 - 90 by omega] at h9; exact h9), by omega, by omega, hall⟩
              · simp only [sx_cc, Classical.not_not] at g
                omega
            · simp only [sx_cc, Classical.not_not] at g
              omega
          · simp only [sx_cc, Classical.not_not] at g
            conv => whnf
            refine ⟨(by first | assumption | rfl), ?_⟩
            try simp (disch := omega) only [Int.cast_ofNat_Int, up_s, up_a, up_i, mp_a, mp_ge]
            try simp only [r65]
            try simp only [r57]
            try simp only [r61]
            try simp only [r62]
            try simp only [r63]
            try simp only [r64]
            try simp only [en]
            try simp only [owk]
            conv => whnf
            refine ⟨sx_ixI (by first | assumption | rfl) (by omega) (by omega), ?_⟩
            conv => whnf
            refine ⟨fun g => ?_, fun g => ?_⟩
            · simp only [sx_cc, Classical.not_not] at g
              conv => whnf
              refine ⟨fun g => ?_, fun g => ?_⟩
              · simp only [sx_cc, Classical.not_not] at g
                conv => whnf
                refine ⟨⟨by omega, by omega⟩, ?_⟩
                conv => whnf
                refine ⟨_, ?_, ⟨rfl, _, rfl, rfl, ?_, rfl⟩⟩
                · omega
                · (have e9 : q = 1 := (by omega); subst e9; exact ⟨hfi.trans (fun a i9 z => up_n (by unfold FZR at z; omega)), gi.upd (PT_up gi.pt lk_150 (by decide)) (fun a i9 z => up_a (by omega)) (by have h9 := tA_s1 gi.rs (by rw [if_neg (by omega)] at lkk; omega); rw [show 90 + (k - 90) = k by omega, show k - 90 + 1 = k + 1 - 90 by omega] at h9; exact h9), by omega, by omega, hall⟩)
              · simp only [sx_cc, Classical.not_not] at g
                omega
            · simp only [sx_cc, Classical.not_not] at g
              omega
      · simp only [sx_cc, Classical.not_not] at g
        conv => whnf
        refine ⟨(by first | assumption | rfl), ?_⟩
        try simp (disch := omega) only [Int.cast_ofNat_Int, up_s, up_a, up_i, mp_a, mp_ge]
        try simp only [r65]
        try simp only [r57]
        try simp only [r61]
        try simp only [r62]
        try simp only [r63]
        try simp only [r64]
        try simp only [en]
        try simp only [owk]
        conv => whnf
        refine ⟨sx_ixI (by first | assumption | rfl) (by omega) (by omega), ?_⟩
        conv => whnf
        refine ⟨fun g => ?_, fun g => ?_⟩
        · simp only [sx_cc, Classical.not_not] at g
          conv => whnf
          refine ⟨fun g => ?_, fun g => ?_⟩
          · simp only [sx_cc, Classical.not_not] at g
            conv => whnf
            refine ⟨fun g => ?_, fun g => ?_⟩
            · simp only [sx_cc, Classical.not_not] at g
              conv => whnf
              refine ⟨⟨by omega, by omega⟩, ?_⟩
              conv => whnf
              refine ⟨_, ?_, ⟨rfl, _, rfl, rfl, ?_, rfl⟩⟩
              · omega
              · (have e9 : q = 0 := (by omega); subst e9; exact ⟨hfi.trans (fun a i9 z => up_n (by unfold FZR at z; omega)), gi.upd (PT_up gi.pt lk_151 (by decide)) (fun a i9 z => up_a (by omega)) (by have h9 := tA_s0 gi.rs; rw [show 90 + (k - 90) = k by omega, show k - 90 + 1 = k + 1 - 90 by omega] at h9; exact h9), by omega, by omega, hall⟩)
            · simp only [sx_cc, Classical.not_not] at g
              omega
          · simp only [sx_cc, Classical.not_not] at g
            omega
        · simp only [sx_cc, Classical.not_not] at g
          omega
end SXL12
