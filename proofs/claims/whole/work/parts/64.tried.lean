/-! TRIED, class side (by wip/whole) -/
section SXL11
variable {X : sx_X} {Q : sx_R} {s t p b c x kk : Int} {σ σ0 σ' σ1 σ2 : sx_S} {P : aP} {A B : aM} {W : aW}
set_option maxRecDepth 20000 in
theorem c_cantry (hp : isP p) (e2 : σ 0 2 = p) (ew : σ p 6 = P.wa) {q i : Int} (h1 : pTry P q i → Q (some (.inl 1)) shM σ) (h0 : ¬ pTry P q i → Q (some (.inl 0)) shM σ) : sx_Run X 166 [.inr (.inr 0), .inl q, .inl i] shM σ Q := by
  have q0 := lkP0 hp
  refine sx_rule0 (own := 11) (cd := kX11_canTry) (nL := 3) (by decide +kernel) (by decide +kernel) kX11_canTry_ok (by decide +kernel) (Nat.le_of_ble_eq_true rfl) 40 ?_
  conv => whnf
  refine ⟨fun g => ?_, ?_⟩
  · skip
    conv => whnf
    refine ⟨fun q9 => by first | (simp at q9; done) | omega, ?_⟩
    first | exact h1 (by unfold pTry; omega) | exact h0 (by unfold pTry; omega)
  conv => whnf
  refine ⟨fun g => ?_, ?_⟩
  · skip
    conv => whnf
    refine ⟨fun g => ?_, fun g => ?_⟩
    · simp only [sx_cc, Classical.not_not] at g
      conv => whnf
      refine ⟨fun q9 => by first | (simp at q9; done) | omega, ?_⟩
      first | exact h1 (by unfold pTry; omega) | exact h0 (by unfold pTry; omega)
    · simp only [sx_cc, Classical.not_not] at g
      conv => whnf
      refine ⟨fun q9 => by first | (simp at q9; done) | omega, ?_⟩
      first | exact h1 (by unfold pTry; omega) | exact h0 (by unfold pTry; omega)
  conv => whnf
  refine ⟨fun g => ?_, ?_⟩
  · skip
    conv => whnf
    refine ⟨(by first | assumption | rfl), ?_⟩
    try simp (disch := omega) only [Int.cast_ofNat_Int, up_s, up_a, up_i, mp_a, mp_ge]
    try simp only [e2]
    conv => whnf
    refine ⟨Nat.le_of_ble_eq_true rfl, Nat.le_of_ble_eq_true rfl, (by first | assumption | rfl), ?_⟩
    refine c_Phaswalker hp (fun y1 y2 => ?_) (fun y0 => ?_)
    · rw [ew] at y2
      conv => whnf
      refine ⟨fun q9 => by first | (simp at q9; done) | omega, ?_⟩
      first | exact h1 (by unfold pTry; omega) | exact h0 (by unfold pTry; omega)
    · rw [ew] at y0
      conv => whnf
      refine ⟨fun q9 => by first | (simp at q9; done) | omega, ?_⟩
      first | exact h1 (by unfold pTry; omega) | exact h0 (by unfold pTry; omega)
  conv => whnf
  refine ⟨fun g => ?_, ?_⟩
  · skip
    conv => whnf
    refine ⟨fun g => ?_, fun g => ?_⟩
    · simp only [sx_cc, Classical.not_not] at g
      conv => whnf
      refine ⟨fun q9 => by first | (simp at q9; done) | omega, ?_⟩
      first | exact h1 (by unfold pTry; omega) | exact h0 (by unfold pTry; omega)
    · simp only [sx_cc, Classical.not_not] at g
      conv => whnf
      refine ⟨fun q9 => by first | (simp at q9; done) | omega, ?_⟩
      first | exact h1 (by unfold pTry; omega) | exact h0 (by unfold pTry; omega)
  conv => whnf
  refine ⟨fun g => ?_, ?_⟩
  · skip
    conv => whnf
    refine ⟨fun g => ?_, fun g => ?_⟩
    · simp only [sx_cc, Classical.not_not] at g
      conv => whnf
      refine ⟨fun q9 => by first | (simp at q9; done) | omega, ?_⟩
      first | exact h1 (by unfold pTry; omega) | exact h0 (by unfold pTry; omega)
    · simp only [sx_cc, Classical.not_not] at g
      conv => whnf
      refine ⟨fun q9 => by first | (simp at q9; done) | omega, ?_⟩
      first | exact h1 (by unfold pTry; omega) | exact h0 (by unfold pTry; omega)
  conv => whnf
  refine ⟨fun g => ?_, ?_⟩
  · skip
    conv => whnf
    refine ⟨fun g => ?_, fun g => ?_⟩
    · simp only [sx_cc, Classical.not_not] at g
      conv => whnf
      refine ⟨fun q9 => by first | (simp at q9; done) | omega, ?_⟩
      first | exact h1 (by unfold pTry; omega) | exact h0 (by unfold pTry; omega)
    · simp only [sx_cc, Classical.not_not] at g
      conv => whnf
      refine ⟨fun g => ?_, fun g => ?_⟩
      · simp only [sx_cc, Classical.not_not] at g
        conv => whnf
        refine ⟨fun q9 => by first | (simp at q9; done) | omega, ?_⟩
        first | exact h1 (by unfold pTry; omega) | exact h0 (by unfold pTry; omega)
      · simp only [sx_cc, Classical.not_not] at g
        conv => whnf
        refine ⟨fun q9 => by first | (simp at q9; done) | omega, ?_⟩
        first | exact h1 (by unfold pTry; omega) | exact h0 (by unfold pTry; omega)
  exact trivial
set_option maxRecDepth 20000 in
theorem c_tried (hp : isP p) (e2 : σ 0 2 = p) (wp : wP P) (wm : wM P A c) (hc : c ≤ 1000000) (hc0 : 0 ≤ c) (g0 : GC 40 p P A σ) (hW : cW P 40 σ W) {f q i : Int} (h0 : ¬ (0 ≤ f ∧ f < P.fa ∧ pTry P q i) → Q (some (.inl (-1))) shM σ) (h1 : (0 ≤ f ∧ f < P.fa ∧ pTry P q i) → ∀ σ', fr FZ σ σ' → GC 70 p P (aTry q i A) σ' → ∀ v : Int, v = fSco P (aTry q i A) f → Q (some (.inl v)) shM σ') : sx_Run X 165 [.inr (.inr 0), .inl f, .inl q, .inl i] shM σ Q := by
  have hs4 : isS 40 := Or.inl rfl
  have hs7 : isS 70 := Or.inr (Or.inr rfl)
  have a6 := pt_0_6 g0.pt
  have a8 := pt_0_8 g0.pt
  have q0 := lkP0 hp
  have k0 := lkS0 hs7
  have k4 := lkS4 hs7
  have k5 := lkS5 hs7
  have k11 := lkS11 hs7
  refine sx_rule0 (own := 11) (cd := kX11_tried) (nL := 5) (by decide +kernel) (by decide +kernel) kX11_tried_ok (by decide +kernel) (Nat.le_of_ble_eq_true rfl) 40 ?_
  conv => whnf
  refine ⟨(by first | assumption | rfl), ?_⟩
  try simp (disch := omega) only [Int.cast_ofNat_Int, up_s, up_a, up_i, mp_a, mp_ge]
  try simp only [e2]
  try simp only [a6]
  try simp only [a8]
  try simp only [b8]
  try simp only [s5]
  try simp only [m6]
  try simp only [m8]
  try simp only [m7]
  try simp only [m1]
  conv => whnf
  refine ⟨Nat.le_of_ble_eq_true rfl, Nat.le_of_ble_eq_true rfl, (by first | assumption | rfl), ?_⟩
  refine c_Phasfarm hp (fun y1 y2 => ?_) (fun y0 => ?_)
  · rw [g0.cp.fa] at y2
    conv => whnf
    refine ⟨fun g => ?_, fun g => ?_⟩
    · exact absurd g (by simp [sx_cc])
    · skip
      conv => whnf
      refine ⟨Nat.le_of_ble_eq_true rfl, Nat.le_of_ble_eq_true rfl, (by first | assumption | rfl), ?_⟩
      refine c_cantry (P := P) hp e2 g0.cp.wa (fun hq => ?_) (fun hq => ?_)
      · skip
        conv => whnf
        refine ⟨fun g => ?_, fun g => ?_⟩
        · skip
          conv => whnf
          refine ⟨(by first | assumption | rfl), ?_⟩
          try simp (disch := omega) only [Int.cast_ofNat_Int, up_s, up_a, up_i, mp_a, mp_ge]
          try simp only [e2]
          try simp only [a6]
          try simp only [a8]
          try simp only [b8]
          try simp only [s5]
          try simp only [m6]
          try simp only [m8]
          try simp only [m7]
          try simp only [m1]
          conv => whnf
          refine ⟨(by first | assumption | rfl), ?_⟩
          try simp (disch := omega) only [Int.cast_ofNat_Int, up_s, up_a, up_i, mp_a, mp_ge]
          try simp only [e2]
          try simp only [a6]
          try simp only [a8]
          try simp only [b8]
          try simp only [s5]
          try simp only [m6]
          try simp only [m8]
          try simp only [m7]
          try simp only [m1]
          conv => whnf
          refine ⟨Nat.le_of_ble_eq_true rfl, Nat.le_of_ble_eq_true rfl, (by first | assumption | rfl), ?_⟩
          refine a_Stake hs7 hs4 hp (by decide) wp wm g0 hW ?_
          intro σ1 hf1 g1 w1
          have a6 := pt_0_6 g1.pt
          have a8 := pt_0_8 g1.pt
          have s5 := ptS_5 g1.pt hs7
          have m6 := ptM_6 g1.pt hs7
          have m8 := ptM_8 g1.pt hs7
          have m7 := ptM_7 g1.pt hs7
          have m1 := ptM_1 g1.pt hs7
          have b8 := pt_0_8 g1.pt
          conv => whnf
          refine ⟨(by first | assumption | rfl), ?_⟩
          try simp (disch := omega) only [Int.cast_ofNat_Int, up_s, up_a, up_i, mp_a, mp_ge]
          try simp only [e2]
          try simp only [a6]
          try simp only [a8]
          try simp only [b8]
          try simp only [s5]
          try simp only [m6]
          try simp only [m8]
          try simp only [m7]
          try simp only [m1]
          conv => whnf
          refine ⟨(by first | assumption | rfl), ?_⟩
          try simp (disch := omega) only [Int.cast_ofNat_Int, up_s, up_a, up_i, mp_a, mp_ge]
          try simp only [e2]
          try simp only [a6]
          try simp only [a8]
          try simp only [b8]
          try simp only [s5]
          try simp only [m6]
          try simp only [m8]
          try simp only [m7]
          try simp only [m1]
          conv => whnf
          refine ⟨fun g => ?_, ?_⟩
          · skip
            conv => whnf
            refine ⟨(by first | assumption | rfl), ?_⟩
            try simp (disch := omega) only [Int.cast_ofNat_Int, up_s, up_a, up_i, mp_a, mp_ge]
            try simp only [e2]
            try simp only [a6]
            try simp only [a8]
            try simp only [b8]
            try simp only [s5]
            try simp only [m6]
            try simp only [m8]
            try simp only [m7]
            try simp only [m1]
            conv => whnf
            refine ⟨Nat.le_of_ble_eq_true rfl, Nat.le_of_ble_eq_true rfl, (by first | assumption | rfl), ?_⟩
            have g9 : q = 4 := by unfold pTry at hq; omega
            subst g9
            refine a_Smelt hs7 hp wm hc g1 ⟨by unfold pTry at hq; omega, by unfold pTry at hq; omega⟩ ?_
            intro σ2 hf2 g2
            replace hf2 := hf2.cz
            have a8 := pt_0_8 g2.pt
            have et : aTry 4 i A = fThaw i A := if_pos rfl
            have hi9 : 0 ≤ i := by unfold pTry at hq; omega
            conv => whnf
            refine ⟨(by first | assumption | rfl), ?_⟩
            try simp (disch := omega) only [Int.cast_ofNat_Int, up_s, up_a, up_i, mp_a, mp_ge]
            try simp only [e2]
            try simp only [a6]
            try simp only [a8]
            try simp only [b8]
            try simp only [s5]
            try simp only [m6]
            try simp only [m8]
            try simp only [m7]
            try simp only [m1]
            conv => whnf
            refine ⟨Nat.le_of_ble_eq_true rfl, Nat.le_of_ble_eq_true rfl, (by first | assumption | rfl), ?_⟩
            refine a_Sscore (f := f) hs7 hp wp (wm.thaw (by omega)) g2 ?_
            intro σ3 hf3 g3
            conv => whnf
            refine ⟨fun q9 => by first | (simp at q9; done) | omega, ?_⟩
            exact h1 ⟨by omega, by omega, hq⟩ _ ((hf1.xz.trans hf2).trans hf3.cz) (by rw [et]; exact g3) _ (by rw [et])
          conv => whnf
          refine ⟨fun g => ?_, ?_⟩
          · skip
            have g9 : q = 0 := (by omega)
            subst g9
            conv => whnf
            refine ⟨(by first | assumption | rfl), ?_⟩
            try simp (disch := omega) only [Int.cast_ofNat_Int, up_s, up_a, up_i, mp_a, mp_ge]
            try simp only [e2]
            try simp only [a6]
            try simp only [a8]
            try simp only [b8]
            try simp only [s5]
            try simp only [m6]
            try simp only [m8]
            try simp only [m7]
            try simp only [m1]
            conv => whnf
            refine ⟨Nat.le_of_ble_eq_true rfl, Nat.le_of_ble_eq_true rfl, ?_⟩
            refine c_fill (lkS10 hs7) (by decide) ?_
            have g2 := g1.t0 (i := i) hp wm
            have hf2 : fr FZ σ1 _ := fun a j z => fil_a (σ := σ1) (a := 70 + 10) (m := 90) (v := 0) (b := a) (j := j) (by unfold FZ at z; omega)
            have a8 := pt_0_8 g2.pt
            have et : aTry 0 i A = tA 0 i A.n A := if_neg (by decide)
            conv => whnf
            refine ⟨(by first | assumption | rfl), ?_⟩
            try simp (disch := omega) only [Int.cast_ofNat_Int, up_s, up_a, up_i, mp_a, mp_ge]
            try simp only [e2]
            try simp only [a6]
            try simp only [a8]
            try simp only [b8]
            try simp only [s5]
            try simp only [m6]
            try simp only [m8]
            try simp only [m7]
            try simp only [m1]
            conv => whnf
            refine ⟨Nat.le_of_ble_eq_true rfl, Nat.le_of_ble_eq_true rfl, (by first | assumption | rfl), ?_⟩
            refine a_Sscore (f := f) hs7 hp wp (wm.tAb hc0) g2 ?_
            intro σ3 hf3 g3
            conv => whnf
            refine ⟨fun q9 => by first | (simp at q9; done) | omega, ?_⟩
            exact h1 ⟨by omega, by omega, hq⟩ _ ((hf1.xz.trans hf2).trans hf3.cz) (by rw [et]; exact g3) _ (by rw [et])
          conv => whnf
          refine ⟨fun g => ?_, ?_⟩
          · skip
            have g9 : q = 1 := (by omega)
            subst g9
            conv => whnf
            refine ⟨Nat.le_of_ble_eq_true rfl, Nat.le_of_ble_eq_true rfl, (by first | assumption | rfl), ?_⟩
            refine c_Mdrop g1.pt hs7 (by rw [g1.cs.n]; exact wm.n) ?_
            have g2 := g1.t1 (i := i) hp wm
            have hf2 : fr FZ σ1 _ := fun a j z => mp_a (σ := σ1) (a := 70 + 9) (n := σ1 (70 + 4) 0) (b := a) (j := j) (f := (fun j => if σ1 (70 + 5) j = i then 0 else σ1 (70 + 9) j)) (by unfold FZ at z; omega)
            have a8 := pt_0_8 g2.pt
            have et : aTry 1 i A = tA 1 i A.n A := if_neg (by decide)
            conv => whnf
            refine ⟨(by first | assumption | rfl), ?_⟩
            try simp (disch := omega) only [Int.cast_ofNat_Int, up_s, up_a, up_i, mp_a, mp_ge]
            try simp only [e2]
            try simp only [a6]
            try simp only [a8]
            try simp only [b8]
            try simp only [s5]
            try simp only [m6]
            try simp only [m8]
            try simp only [m7]
            try simp only [m1]
            conv => whnf
            refine ⟨Nat.le_of_ble_eq_true rfl, Nat.le_of_ble_eq_true rfl, (by first | assumption | rfl), ?_⟩
            refine a_Sscore (f := f) hs7 hp wp (wm.tAb hc0) g2 ?_
            intro σ3 hf3 g3
            conv => whnf
            refine ⟨fun q9 => by first | (simp at q9; done) | omega, ?_⟩
            exact h1 ⟨by omega, by omega, hq⟩ _ ((hf1.xz.trans hf2).trans hf3.cz) (by rw [et]; exact g3) _ (by rw [et])
          conv => whnf
          refine ⟨fun g => ?_, ?_⟩
          · skip
            have g9 : q = 2 := (by omega)
            subst g9
            conv => whnf
            refine ⟨(by first | assumption | rfl), ?_⟩
            try simp (disch := omega) only [Int.cast_ofNat_Int, up_s, up_a, up_i, mp_a, mp_ge]
            try simp only [e2]
            try simp only [a6]
            try simp only [a8]
            try simp only [b8]
            try simp only [s5]
            try simp only [m6]
            try simp only [m8]
            try simp only [m7]
            try simp only [m1]
            conv => whnf
            refine ⟨Nat.le_of_ble_eq_true rfl, Nat.le_of_ble_eq_true rfl, ?_⟩
            refine c_fill (lkS12 hs7) (by decide) ?_
            have g2 := g1.t2 (i := i) hp wm
            have hf2 : fr FZ σ1 _ := fun a j z => fil_a (σ := σ1) (a := 70 + 12) (m := 90) (v := 0) (b := a) (j := j) (by unfold FZ at z; omega)
            have a8 := pt_0_8 g2.pt
            have et : aTry 2 i A = tA 2 i A.n A := if_neg (by decide)
            conv => whnf
            refine ⟨(by first | assumption | rfl), ?_⟩
            try simp (disch := omega) only [Int.cast_ofNat_Int, up_s, up_a, up_i, mp_a, mp_ge]
            try simp only [e2]
            try simp only [a6]
            try simp only [a8]
            try simp only [b8]
            try simp only [s5]
            try simp only [m6]
            try simp only [m8]
            try simp only [m7]
            try simp only [m1]
            conv => whnf
            refine ⟨Nat.le_of_ble_eq_true rfl, Nat.le_of_ble_eq_true rfl, (by first | assumption | rfl), ?_⟩
            refine a_Sscore (f := f) hs7 hp wp (wm.tAb hc0) g2 ?_
            intro σ3 hf3 g3
            conv => whnf
            refine ⟨fun q9 => by first | (simp at q9; done) | omega, ?_⟩
            exact h1 ⟨by omega, by omega, hq⟩ _ ((hf1.xz.trans hf2).trans hf3.cz) (by rw [et]; exact g3) _ (by rw [et])
          conv => whnf
          refine ⟨fun g => ?_, ?_⟩
          · skip
            have g9 : q = 3 := (by omega)
            subst g9
            conv => whnf
            refine ⟨(by first | assumption | rfl), ?_⟩
            try simp (disch := omega) only [Int.cast_ofNat_Int, up_s, up_a, up_i, mp_a, mp_ge]
            try simp only [e2]
            try simp only [a6]
            try simp only [a8]
            try simp only [b8]
            try simp only [s5]
            try simp only [m6]
            try simp only [m8]
            try simp only [m7]
            try simp only [m1]
            conv => whnf
            refine ⟨(by first | assumption | rfl), ?_⟩
            try simp (disch := omega) only [Int.cast_ofNat_Int, up_s, up_a, up_i, mp_a, mp_ge]
            try simp only [e2]
            try simp only [a6]
            try simp only [a8]
            try simp only [b8]
            try simp only [s5]
            try simp only [m6]
            try simp only [m8]
            try simp only [m7]
            try simp only [m1]
            conv => whnf
            refine ⟨Nat.le_of_ble_eq_true rfl, by first | rfl | (simp only [*]; done), by first | rfl | (simp only [*]; done), by omega, by omega, by omega, by first | decide | (simp only [*]; omega), by first | decide | (simp only [*]; omega), ?_⟩
            have g2 := g1.t3 (i := i) hp wm
            have hf2 : fr FZ σ1 _ := fun a j z => cp_a (σ := σ1) (a := 70 + 11) (i := 0) (b := 70 + 5) (j := 0) (n := 90) (d := a) (k := j) (by unfold FZ at z; omega)
            have a8 := pt_0_8 g2.pt
            have et : aTry 3 i A = tA 3 i A.n A := if_neg (by decide)
            conv => whnf
            refine ⟨(by first | assumption | rfl), ?_⟩
            try simp (disch := omega) only [Int.cast_ofNat_Int, up_s, up_a, up_i, mp_a, mp_ge]
            try simp only [e2]
            try simp only [a6]
            try simp only [a8]
            try simp only [b8]
            try simp only [s5]
            try simp only [m6]
            try simp only [m8]
            try simp only [m7]
            try simp only [m1]
            conv => whnf
            refine ⟨Nat.le_of_ble_eq_true rfl, Nat.le_of_ble_eq_true rfl, (by first | assumption | rfl), ?_⟩
            refine a_Sscore (f := f) hs7 hp wp (wm.tAb hc0) g2 ?_
            intro σ3 hf3 g3
            conv => whnf
            refine ⟨fun q9 => by first | (simp at q9; done) | omega, ?_⟩
            exact h1 ⟨by omega, by omega, hq⟩ _ ((hf1.xz.trans hf2).trans hf3.cz) (by rw [et]; exact g3) _ (by rw [et])
          exact trivial
        · exact absurd g (by simp [sx_cc])
      · skip
        conv => whnf
        refine ⟨fun g => ?_, fun g => ?_⟩
        · exact absurd g (by simp [sx_cc])
        · skip
          conv => whnf
          refine ⟨fun q9 => by first | (simp at q9; done) | omega, ?_⟩
          exact h0 (by omega)
  · rw [g0.cp.fa] at y0
    conv => whnf
    refine ⟨fun g => ?_, fun g => ?_⟩
    · skip
      conv => whnf
      refine ⟨fun q9 => by first | (simp at q9; done) | omega, ?_⟩
      exact h0 (by omega)
    · exact absurd g (by simp [sx_cc])
end SXL11
