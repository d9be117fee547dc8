/-! QUIET, HUSHED (by wip/whole) -/
section SXN7
variable {X : sx_X} {Q : sx_R} {p to N c9 : Int} {σ σ0 σ' σ1 σ2 : sx_S} {P : aP} {A : aM} {G H : Int → Int}
theorem pMn_u {tl : Int → Int} (hN : N = P.w * P.h) (ht : ∀ n : Int, tl n = 1 ∨ tl n = 101) (h : pMn P N to tl G) (h' : pMn P N to tl H) {c : Int} (hc : 0 ≤ c ∧ c < N) : G c = H c := by
  have a1 := pFx_le hN ht h.1 h.2.1 h.2.2 h'.1 (H c).toNat c hc.1 hc.2 (h'.2.2 c hc.1 hc.2) (by have := pJ_nn h'.1 hc; omega)
  have a2 := pFx_le hN ht h'.1 h'.2.1 h'.2.2 h.1 (G c).toNat c hc.1 hc.2 (h.2.2 c hc.1 hc.2) (by have := pJ_nn h.1 hc; omega)
  omega
theorem pMn_of {tl : Int → Int} (wp : wP P) (ht : ∀ n : Int, tl n = 1 ∨ tl n = 101) (hto : 0 ≤ to ∧ to < P.w * P.h) (h : pJ P (P.w * P.h) to tl G) (hf : pFx P (P.w * P.h) tl G) : pMn P (P.w * P.h) to tl G :=
  ⟨h, hf, fun c y0 y1 => pFx_all wp rfl ht hto h hf (fFar P.w c to).toNat c y0 y1 (by have := fFar_nn c to P.w; omega)⟩
/-- there is the least -/
theorem pMn_ex (wp : wP P) {tl : Int → Int} (ht : ∀ n : Int, tl n = 1 ∨ tl n = 101) (hto : 0 ≤ to ∧ to < P.w * P.h) : ∃ G : Int → Int, pMn P (P.w * P.h) to tl G := by
  have v4 := wp.wh
  obtain ⟨H, h1, h2⟩ := pJ_ex (N := P.w * P.h) ⟨rfl, by omega⟩ ht hto (fSum (fG0 to) (P.w * P.h).toNat).toNat (fG0 to) (pJ_0 hto) (by omega)
  exact ⟨H, pMn_of wp ht hto h1 h2⟩
def aQui (G : Int → Int) (a q : Int) : Int := if q = 0 then (G a).tdiv 100 else if q = 1 then G a % 100 else -1
def aHus (P : aP) (A : aM) (G : Int → Int) (a k : Int) : Int := if k ≤ G a % 100 then fCh P (fTl P A) G a k.toNat else -2
theorem fCh_cg {tl : Int → Int} (hN : N = P.w * P.h ∧ N ≤ 48) (ht : ∀ n : Int, tl n = 1 ∨ tl n = 101) (hto : 0 ≤ to ∧ to < N) (h : pMn P N to tl G) (e : ∀ c : Int, 0 ≤ c → c < N → G c = H c) {a : Int} (ha : 0 ≤ a ∧ a < N) : ∀ k : Nat, (k : Int) ≤ G a % 100 → fCh P tl G a k = fCh P tl H a k
  | 0, _ => rfl
  | k + 1, hk => by
    have h1 := fCh_cg hN ht hto h e ha k (by omega)
    have h2 := fCh_st hN ht hto h ha k (by omega)
    show fNxt P tl G (fCh P tl G a k) = fNxt P tl H (fCh P tl H a k)
    rw [← h1]
    generalize fCh P tl G a k = c at h2
    have ho : ∀ y : Int, pOn P tl G c y ↔ pOn P tl H c y := fun y => by
      by_cases q : fBes P.w P.h c y = -1
      · exact ⟨fun z => absurd q z.1, fun z => absurd q z.1⟩
      · have hb := fBes_b q
        unfold pOn
        rw [e _ hb.1 (by omega), e c h2.1.1 h2.1.2]
    unfold fNxt
    by_cases o0 : pOn P tl G c 0
    · rw [if_pos o0, if_pos ((ho 0).mp o0)]
    · rw [if_neg o0, if_neg (fun z => o0 ((ho 0).mpr z))]
      by_cases o1 : pOn P tl G c 1
      · rw [if_pos o1, if_pos ((ho 1).mp o1)]
      · rw [if_neg o1, if_neg (fun z => o1 ((ho 1).mpr z))]
        by_cases o2 : pOn P tl G c 2
        · rw [if_pos o2, if_pos ((ho 2).mp o2)]
        · rw [if_neg o2, if_neg (fun z => o2 ((ho 2).mpr z))]
          by_cases o3 : pOn P tl G c 3
          · rw [if_pos o3, if_pos ((ho 3).mp o3)]
          · rw [if_neg o3, if_neg (fun z => o3 ((ho 3).mpr z))]
abbrev FRo (b i : Int) : Prop := (118 ≤ b ∧ b ≤ 120) ∨ (b = 117 ∧ (i = 0 ∨ i = 1)) ∨ b = 38 ∨ b = 39 ∨ (b = 37 ∧ i = 2) ∨ (b = 40 ∧ (i = 7 ∨ i = 8 ∨ i = 10)) ∨ b = 49 ∨ b = 50 ∨ b = 54
set_option maxRecDepth 20000 in
theorem c_quiet (hp : isP p) (e2 : σ 0 2 = p) (wp : wP P) (wm : wM P A c9) (gg : GC 40 p P A σ) {a q : Int} (hMn : 0 ≤ to ∧ to < (P.w * P.h) → pMn P (P.w * P.h) to (fTl P A) G) (h0 : ¬ (0 ≤ a ∧ a < (P.w * P.h) ∧ 0 ≤ to ∧ to < (P.w * P.h)) → Q (some (.inl (-1))) shM σ) (h1 : (0 ≤ a ∧ a < (P.w * P.h) ∧ 0 ≤ to ∧ to < (P.w * P.h)) → ∀ σ', fr FRo σ σ' → GC 40 p P A σ' → Q (some (.inl (aQui G a q))) shM σ') : sx_Run X 151 [.inr (.inr 0), .inl a, .inl to, .inl q] shM σ Q := by
  have q0 := lkP0 hp
  have a6 := pt_0_6 gg.pt
  have k0 := lkS0 (Or.inl rfl)
  refine sx_rule0 (own := 11) (cd := kX11_quiet) (nL := 4) (by decide +kernel) (by decide +kernel) kX11_quiet_ok (by decide +kernel) (Nat.le_of_ble_eq_true rfl) 40 ?_
  conv => whnf
  refine ⟨(by first | assumption | rfl), ?_⟩
  try simp (disch := omega) only [Int.cast_ofNat_Int, up_s, up_a, up_i, mp_a, mp_ge]
  try simp only [e2]
  try simp only [e2']
  try simp only [a6]
  try simp only [a12]
  try simp only [s11]
  try simp only [s0]
  try simp only [s1]
  try simp only [a2r]
  conv => whnf
  refine ⟨Nat.le_of_ble_eq_true rfl, Nat.le_of_ble_eq_true rfl, (by first | assumption | rfl), ?_⟩
  refine c_Phascell hp (gg.cp.pd wp) (fun y1 y2 => ?_) (fun y0 => ?_)
  · rw [gg.cp.w, gg.cp.h] at y2
    conv => whnf
    refine ⟨fun g => ?_, fun g => ?_⟩
    · exact absurd g (by simp [sx_cc])
    · skip
      conv => whnf
      refine ⟨(by first | assumption | rfl), ?_⟩
      try simp (disch := omega) only [Int.cast_ofNat_Int, up_s, up_a, up_i, mp_a, mp_ge]
      try simp only [e2]
      try simp only [e2']
      try simp only [a6]
      try simp only [a12]
      try simp only [s11]
      try simp only [s0]
      try simp only [s1]
      try simp only [a2r]
      conv => whnf
      refine ⟨Nat.le_of_ble_eq_true rfl, Nat.le_of_ble_eq_true rfl, (by first | assumption | rfl), ?_⟩
      refine c_Phascell hp (gg.cp.pd wp) (fun y3 y4 => ?_) (fun y0 => ?_)
      · rw [gg.cp.w, gg.cp.h] at y4
        conv => whnf
        refine ⟨fun g => ?_, fun g => ?_⟩
        · skip
          conv => whnf
          refine ⟨(by first | assumption | rfl), ?_⟩
          try simp (disch := omega) only [Int.cast_ofNat_Int, up_s, up_a, up_i, mp_a, mp_ge]
          try simp only [e2]
          try simp only [e2']
          try simp only [a6]
          try simp only [a12]
          try simp only [s11]
          try simp only [s0]
          try simp only [s1]
          try simp only [a2r]
          conv => whnf
          refine ⟨Nat.le_of_ble_eq_true rfl, Nat.le_of_ble_eq_true rfl, (by first | assumption | rfl), ?_⟩
          refine a_Sreadall (Or.inl rfl) hp wp wm gg ?_
          intro σ2 hf2 hr2 g2
          have a6 := pt_0_6 g2.pt
          have a12 := pt_0_12 g2.pt
          have s11 := ptS_11 g2.pt (Or.inl rfl)
          have e2' : σ2 0 2 = p := (hf2 _ _ (by decide)).trans e2
          conv => whnf
          refine ⟨(by first | assumption | rfl), ?_⟩
          try simp (disch := omega) only [Int.cast_ofNat_Int, up_s, up_a, up_i, mp_a, mp_ge]
          try simp only [e2]
          try simp only [e2']
          try simp only [a6]
          try simp only [a12]
          try simp only [s11]
          try simp only [s0]
          try simp only [s1]
          try simp only [a2r]
          conv => whnf
          refine ⟨(by first | assumption | rfl), ?_⟩
          try simp (disch := omega) only [Int.cast_ofNat_Int, up_s, up_a, up_i, mp_a, mp_ge]
          try simp only [e2]
          try simp only [e2']
          try simp only [a6]
          try simp only [a12]
          try simp only [s11]
          try simp only [s0]
          try simp only [s1]
          try simp only [a2r]
          conv => whnf
          refine ⟨(by first | assumption | rfl), ?_⟩
          try simp (disch := omega) only [Int.cast_ofNat_Int, up_s, up_a, up_i, mp_a, mp_ge]
          try simp only [e2]
          try simp only [e2']
          try simp only [a6]
          try simp only [a12]
          try simp only [s11]
          try simp only [s0]
          try simp only [s1]
          try simp only [a2r]
          conv => whnf
          refine ⟨(by first | assumption | rfl), ?_⟩
          try simp (disch := omega) only [Int.cast_ofNat_Int, up_s, up_a, up_i, mp_a, mp_ge]
          try simp only [e2]
          try simp only [e2']
          try simp only [a6]
          try simp only [a12]
          try simp only [s11]
          try simp only [s0]
          try simp only [s1]
          try simp only [a2r]
          conv => whnf
          refine ⟨Nat.le_of_ble_eq_true rfl, Nat.le_of_ble_eq_true rfl, (by first | assumption | rfl), ?_⟩
          have hM := hMn ⟨by omega, by omega⟩
          refine c_find hp wp g2.pt g2.cp hr2 hM ⟨by omega, by omega⟩ ⟨by omega, by omega⟩ ?_
          intro σ3 x3 s0 s1 s2
          have T3 := pRt_pt x3 g2.pt
          have a12 := pt_0_12 T3
          have a2r := pt_117_2 T3
          have g3 : GC 40 p P A σ3 := g2.of (Or.inl rfl) hp T3 (fun b i z1 z2 => x3 b i (by omega) (by omega))
          have fr3 : fr FRo σ σ3 := fun b i z9 => by unfold FRo at z9; rw [x3 b i (by omega) (by omega)]; exact hf2 b i (by unfold FC; omega)
          conv => whnf
          refine ⟨fun g => ?_, fun g => ?_⟩
          · skip
            conv => whnf
            refine ⟨(by first | assumption | rfl), ?_⟩
            try simp (disch := omega) only [Int.cast_ofNat_Int, up_s, up_a, up_i, mp_a, mp_ge]
            try simp only [e2]
            try simp only [e2']
            try simp only [a6]
            try simp only [a12]
            try simp only [s11]
            try simp only [s0]
            try simp only [s1]
            try simp only [a2r]
            conv => whnf
            refine ⟨(by first | assumption | rfl), ?_⟩
            try simp (disch := omega) only [Int.cast_ofNat_Int, up_s, up_a, up_i, mp_a, mp_ge]
            try simp only [e2]
            try simp only [e2']
            try simp only [a6]
            try simp only [a12]
            try simp only [s11]
            try simp only [s0]
            try simp only [s1]
            try simp only [a2r]
            conv => whnf
            refine ⟨fun q9 => by first | (simp at q9; done) | omega, ?_⟩
            first | (have h9 := h1 ⟨by omega, by omega, by omega, by omega⟩ _ fr3 g3; rw [show aQui G a q = (G a).tdiv 100 from if_pos (by omega)] at h9; exact h9) | (have h9 := h1 ⟨by omega, by omega, by omega, by omega⟩ _ fr3 g3; rw [show aQui G a q = G a % 100 from (if_neg (by omega)).trans (if_pos (by omega))] at h9; exact h9) | (have h9 := h1 ⟨by omega, by omega, by omega, by omega⟩ _ fr3 g3; rw [show aQui G a q = -1 from (if_neg (by omega)).trans (if_neg (by omega))] at h9; exact h9)
          conv => whnf
          refine ⟨fun g => ?_, fun g => ?_⟩
          · skip
            conv => whnf
            refine ⟨(by first | assumption | rfl), ?_⟩
            try simp (disch := omega) only [Int.cast_ofNat_Int, up_s, up_a, up_i, mp_a, mp_ge]
            try simp only [e2]
            try simp only [e2']
            try simp only [a6]
            try simp only [a12]
            try simp only [s11]
            try simp only [s0]
            try simp only [s1]
            try simp only [a2r]
            conv => whnf
            refine ⟨(by first | assumption | rfl), ?_⟩
            try simp (disch := omega) only [Int.cast_ofNat_Int, up_s, up_a, up_i, mp_a, mp_ge]
            try simp only [e2]
            try simp only [e2']
            try simp only [a6]
            try simp only [a12]
            try simp only [s11]
            try simp only [s0]
            try simp only [s1]
            try simp only [a2r]
            conv => whnf
            refine ⟨fun q9 => by first | (simp at q9; done) | omega, ?_⟩
            first | (have h9 := h1 ⟨by omega, by omega, by omega, by omega⟩ _ fr3 g3; rw [show aQui G a q = (G a).tdiv 100 from if_pos (by omega)] at h9; exact h9) | (have h9 := h1 ⟨by omega, by omega, by omega, by omega⟩ _ fr3 g3; rw [show aQui G a q = G a % 100 from (if_neg (by omega)).trans (if_pos (by omega))] at h9; exact h9) | (have h9 := h1 ⟨by omega, by omega, by omega, by omega⟩ _ fr3 g3; rw [show aQui G a q = -1 from (if_neg (by omega)).trans (if_neg (by omega))] at h9; exact h9)
          conv => whnf
          refine ⟨fun q9 => by first | (simp at q9; done) | omega, ?_⟩
          first | (have h9 := h1 ⟨by omega, by omega, by omega, by omega⟩ _ fr3 g3; rw [show aQui G a q = (G a).tdiv 100 from if_pos (by omega)] at h9; exact h9) | (have h9 := h1 ⟨by omega, by omega, by omega, by omega⟩ _ fr3 g3; rw [show aQui G a q = G a % 100 from (if_neg (by omega)).trans (if_pos (by omega))] at h9; exact h9) | (have h9 := h1 ⟨by omega, by omega, by omega, by omega⟩ _ fr3 g3; rw [show aQui G a q = -1 from (if_neg (by omega)).trans (if_neg (by omega))] at h9; exact h9)
        · exact absurd g (by simp [sx_cc])
      · rw [gg.cp.w, gg.cp.h] at y0
        conv => whnf
        refine ⟨fun g => ?_, fun g => ?_⟩
        · exact absurd g (by simp [sx_cc])
        · skip
          conv => whnf
          refine ⟨fun q9 => by first | (simp at q9; done) | omega, ?_⟩
          exact h0 (by omega)
  · rw [gg.cp.w, gg.cp.h] at y0
    conv => whnf
    refine ⟨fun g => ?_, fun g => ?_⟩
    · skip
      conv => whnf
      refine ⟨fun q9 => by first | (simp at q9; done) | omega, ?_⟩
      exact h0 (by omega)
    · exact absurd g (by simp [sx_cc])
set_option maxRecDepth 20000 in
theorem c_hushed (hp : isP p) (e2 : σ 0 2 = p) (wp : wP P) (wm : wM P A c9) (gg : GC 40 p P A σ) {a k : Int} (hMn : 0 ≤ to ∧ to < (P.w * P.h) → pMn P (P.w * P.h) to (fTl P A) G) (h0 : ¬ ((0 ≤ a ∧ a < (P.w * P.h) ∧ 0 ≤ to ∧ to < (P.w * P.h)) ∧ 0 ≤ k) → Q (some (.inl (-1))) shM σ) (h1 : ((0 ≤ a ∧ a < (P.w * P.h) ∧ 0 ≤ to ∧ to < (P.w * P.h)) ∧ 0 ≤ k) → ∀ σ', fr FRo σ σ' → GC 40 p P A σ' → Q (some (.inl (aHus P A G a k))) shM σ') : sx_Run X 152 [.inr (.inr 0), .inl a, .inl to, .inl k] shM σ Q := by
  have q0 := lkP0 hp
  have a6 := pt_0_6 gg.pt
  have k0 := lkS0 (Or.inl rfl)
  have v4 := wp.wh
  refine sx_rule0 (own := 11) (cd := kX11_hushed) (nL := 4) (by decide +kernel) (by decide +kernel) kX11_hushed_ok (by decide +kernel) (Nat.le_of_ble_eq_true rfl) 40 ?_
  conv => whnf
  refine ⟨(by first | assumption | rfl), ?_⟩
  try simp (disch := omega) only [Int.cast_ofNat_Int, up_s, up_a, up_i, mp_a, mp_ge]
  try simp only [e2]
  try simp only [e2']
  try simp only [a6]
  try simp only [a12]
  try simp only [s11]
  try simp only [s0]
  try simp only [s1]
  try simp only [a2r]
  conv => whnf
  refine ⟨Nat.le_of_ble_eq_true rfl, Nat.le_of_ble_eq_true rfl, (by first | assumption | rfl), ?_⟩
  refine c_Phascell hp (gg.cp.pd wp) (fun y1 y2 => ?_) (fun y0 => ?_)
  · rw [gg.cp.w, gg.cp.h] at y2
    conv => whnf
    refine ⟨fun g => ?_, fun g => ?_⟩
    · exact absurd g (by simp [sx_cc])
    · skip
      conv => whnf
      refine ⟨(by first | assumption | rfl), ?_⟩
      try simp (disch := omega) only [Int.cast_ofNat_Int, up_s, up_a, up_i, mp_a, mp_ge]
      try simp only [e2]
      try simp only [e2']
      try simp only [a6]
      try simp only [a12]
      try simp only [s11]
      try simp only [s0]
      try simp only [s1]
      try simp only [a2r]
      conv => whnf
      refine ⟨Nat.le_of_ble_eq_true rfl, Nat.le_of_ble_eq_true rfl, (by first | assumption | rfl), ?_⟩
      refine c_Phascell hp (gg.cp.pd wp) (fun y3 y4 => ?_) (fun y0 => ?_)
      · rw [gg.cp.w, gg.cp.h] at y4
        conv => whnf
        refine ⟨fun g => ?_, fun g => ?_⟩
        · exact absurd g (by simp [sx_cc])
        · skip
          conv => whnf
          refine ⟨fun g => ?_, fun g => ?_⟩
          · simp only [sx_cc, Classical.not_not] at g
            conv => whnf
            refine ⟨(by first | assumption | rfl), ?_⟩
            try simp (disch := omega) only [Int.cast_ofNat_Int, up_s, up_a, up_i, mp_a, mp_ge]
            try simp only [e2]
            try simp only [e2']
            try simp only [a6]
            try simp only [a12]
            try simp only [s11]
            try simp only [s0]
            try simp only [s1]
            try simp only [a2r]
            conv => whnf
            refine ⟨Nat.le_of_ble_eq_true rfl, Nat.le_of_ble_eq_true rfl, (by first | assumption | rfl), ?_⟩
            refine a_Sreadall (Or.inl rfl) hp wp wm gg ?_
            intro σ2 hf2 hr2 g2
            have a6 := pt_0_6 g2.pt
            have a12 := pt_0_12 g2.pt
            have s11 := ptS_11 g2.pt (Or.inl rfl)
            have e2' : σ2 0 2 = p := (hf2 _ _ (by decide)).trans e2
            conv => whnf
            refine ⟨(by first | assumption | rfl), ?_⟩
            try simp (disch := omega) only [Int.cast_ofNat_Int, up_s, up_a, up_i, mp_a, mp_ge]
            try simp only [e2]
            try simp only [e2']
            try simp only [a6]
            try simp only [a12]
            try simp only [s11]
            try simp only [s0]
            try simp only [s1]
            try simp only [a2r]
            conv => whnf
            refine ⟨(by first | assumption | rfl), ?_⟩
            try simp (disch := omega) only [Int.cast_ofNat_Int, up_s, up_a, up_i, mp_a, mp_ge]
            try simp only [e2]
            try simp only [e2']
            try simp only [a6]
            try simp only [a12]
            try simp only [s11]
            try simp only [s0]
            try simp only [s1]
            try simp only [a2r]
            conv => whnf
            refine ⟨(by first | assumption | rfl), ?_⟩
            try simp (disch := omega) only [Int.cast_ofNat_Int, up_s, up_a, up_i, mp_a, mp_ge]
            try simp only [e2]
            try simp only [e2']
            try simp only [a6]
            try simp only [a12]
            try simp only [s11]
            try simp only [s0]
            try simp only [s1]
            try simp only [a2r]
            conv => whnf
            refine ⟨(by first | assumption | rfl), ?_⟩
            try simp (disch := omega) only [Int.cast_ofNat_Int, up_s, up_a, up_i, mp_a, mp_ge]
            try simp only [e2]
            try simp only [e2']
            try simp only [a6]
            try simp only [a12]
            try simp only [s11]
            try simp only [s0]
            try simp only [s1]
            try simp only [a2r]
            conv => whnf
            refine ⟨Nat.le_of_ble_eq_true rfl, Nat.le_of_ble_eq_true rfl, (by first | assumption | rfl), ?_⟩
            have hM := hMn ⟨by omega, by omega⟩
            refine c_find hp wp g2.pt g2.cp hr2 hM ⟨by omega, by omega⟩ ⟨by omega, by omega⟩ ?_
            intro σ3 x3 s0 s1 s2
            have T3 := pRt_pt x3 g2.pt
            have a12 := pt_0_12 T3
            have a2r := pt_117_2 T3
            have g3 : GC 40 p P A σ3 := g2.of (Or.inl rfl) hp T3 (fun b i z1 z2 => x3 b i (by omega) (by omega))
            have fr3 : fr FRo σ σ3 := fun b i z9 => by unfold FRo at z9; rw [x3 b i (by omega) (by omega)]; exact hf2 b i (by unfold FC; omega)
            conv => whnf
            refine ⟨(by first | assumption | rfl), ?_⟩
            try simp (disch := omega) only [Int.cast_ofNat_Int, up_s, up_a, up_i, mp_a, mp_ge]
            try simp only [e2]
            try simp only [e2']
            try simp only [a6]
            try simp only [a12]
            try simp only [s11]
            try simp only [s0]
            try simp only [s1]
            try simp only [a2r]
            conv => whnf
            refine ⟨(by first | assumption | rfl), ?_⟩
            try simp (disch := omega) only [Int.cast_ofNat_Int, up_s, up_a, up_i, mp_a, mp_ge]
            try simp only [e2]
            try simp only [e2']
            try simp only [a6]
            try simp only [a12]
            try simp only [s11]
            try simp only [s0]
            try simp only [s1]
            try simp only [a2r]
            conv => whnf
            refine ⟨fun g => ?_, fun g => ?_⟩
            · simp only [sx_cc, Classical.not_not] at g
              conv => whnf
              refine ⟨fun q9 => by first | (simp at q9; done) | omega, ?_⟩
              have hst := pMn_st ⟨rfl, by omega⟩ hM (c := a) ⟨by omega, by omega⟩
              have h9 := h1 ⟨⟨by omega, by omega, by omega, by omega⟩, by omega⟩ _ fr3 g3
              first | (rw [show aHus P A G a k = _ from if_pos (by omega), ← s2 k (by omega) (by omega)] at h9; exact h9) | (rw [show aHus P A G a k = -2 from if_neg (by omega)] at h9; exact h9)
            · simp only [sx_cc, Classical.not_not] at g
              conv => whnf
              refine ⟨fun g => ?_, fun g => ?_⟩
              · simp only [sx_cc, Classical.not_not] at g
                conv => whnf
                refine ⟨fun q9 => by first | (simp at q9; done) | omega, ?_⟩
                have hst := pMn_st ⟨rfl, by omega⟩ hM (c := a) ⟨by omega, by omega⟩
                have h9 := h1 ⟨⟨by omega, by omega, by omega, by omega⟩, by omega⟩ _ fr3 g3
                first | (rw [show aHus P A G a k = _ from if_pos (by omega), ← s2 k (by omega) (by omega)] at h9; exact h9) | (rw [show aHus P A G a k = -2 from if_neg (by omega)] at h9; exact h9)
              · simp only [sx_cc, Classical.not_not] at g
                conv => whnf
                refine ⟨(by first | assumption | rfl), ?_⟩
                try simp (disch := omega) only [Int.cast_ofNat_Int, up_s, up_a, up_i, mp_a, mp_ge]
                try simp only [e2]
                try simp only [e2']
                try simp only [a6]
                try simp only [a12]
                try simp only [s11]
                try simp only [s0]
                try simp only [s1]
                try simp only [a2r]
                conv => whnf
                refine ⟨(by first | assumption | rfl), ?_⟩
                try simp (disch := omega) only [Int.cast_ofNat_Int, up_s, up_a, up_i, mp_a, mp_ge]
                try simp only [e2]
                try simp only [e2']
                try simp only [a6]
                try simp only [a12]
                try simp only [s11]
                try simp only [s0]
                try simp only [s1]
                try simp only [a2r]
                conv => whnf
                refine ⟨sx_ixI (by first | assumption | rfl) (by omega) (by omega), ?_⟩
                try simp (disch := omega) only [Int.cast_ofNat_Int, up_s, up_a, up_i, mp_a, mp_ge]
                try simp only [e2]
                try simp only [e2']
                try simp only [a6]
                try simp only [a12]
                try simp only [s11]
                try simp only [s0]
                try simp only [s1]
                try simp only [a2r]
                conv => whnf
                refine ⟨fun q9 => by first | (simp at q9; done) | omega, ?_⟩
                have hst := pMn_st ⟨rfl, by omega⟩ hM (c := a) ⟨by omega, by omega⟩
                have h9 := h1 ⟨⟨by omega, by omega, by omega, by omega⟩, by omega⟩ _ fr3 g3
                first | (rw [show aHus P A G a k = _ from if_pos (by omega), ← s2 k (by omega) (by omega)] at h9; exact h9) | (rw [show aHus P A G a k = -2 from if_neg (by omega)] at h9; exact h9)
          · simp only [sx_cc, Classical.not_not] at g
            conv => whnf
            refine ⟨fun q9 => by first | (simp at q9; done) | omega, ?_⟩
            exact h0 (by omega)
      · rw [gg.cp.w, gg.cp.h] at y0
        conv => whnf
        refine ⟨fun g => ?_, fun g => ?_⟩
        · skip
          conv => whnf
          refine ⟨fun q9 => by first | (simp at q9; done) | omega, ?_⟩
          exact h0 (by omega)
        · exact absurd g (by simp [sx_cc])
  · rw [gg.cp.w, gg.cp.h] at y0
    conv => whnf
    refine ⟨fun g => ?_, fun g => ?_⟩
    · skip
      conv => whnf
      refine ⟨fun q9 => by first | (simp at q9; done) | omega, ?_⟩
      exact h0 (by omega)
    · exact absurd g (by simp [sx_cc])
end SXN7
