/-! A LAW IS TOLD, reference side: a sign is read (by wip/whole) -/
section SXR8
variable {X : sx_X} {Q : sx_R} {σ σ0 σ' σ1 σ2 s s' s1 r r' : sx_S} {tx : Int → Int} {n9 p i lo : Int}
theorem fRk_3 {t : Int} (h : fRk t = 3) : t = 19 := by
  unfold fRk at h
  repeat' split at h
  all_goals omega
theorem fRk_24 {t : Int} (h : 1 ≤ fRk t) : ¬ t = 24 := by
  intro z
  rw [z, show fRk 24 = 0 from rfl] at h
  omega
theorem opt_A {t k9 : Int} (H : zOpt p s s' t ∨ zOptF p s t k9) (h : t = 24 ∧ 0 < s 32 12) : zOpt p s s' t ∧ ∃ (s1 : sx_S) (m : Int), pRel p 1 s s1 m ∧ 1 ≤ s1 32 11 ∧ s' = sx_up (sx_up s1 32 11 (s1 32 11 - 1)) 32 12 (s 32 12 - 1) := by
  rcases H with H | H
  · refine ⟨H, ?_⟩
    rcases H with ⟨_, _, s1, m, h1, h2, h3⟩ | ⟨h1, _⟩
    · exact ⟨s1, m, h1, h2, h3⟩
    · exact absurd h.1 (fRk_24 h1)
  · rcases H with ⟨h1, _⟩ | ⟨h1, _⟩
    · exact absurd h h1
    · exact absurd h.1 (fRk_24 h1)
theorem opt_B {t k9 : Int} (H : zOpt p s s' t ∨ zOptF p s t k9) (h : ¬ (t = 24 ∧ 0 < s 32 12)) (h2 : fRk t < 1 ∨ t = 19) : zOptF p s t k9 ∧ k9 = 1 := by
  rcases H with H | H
  · rcases H with ⟨h3, h4, _⟩ | ⟨h3, h4, _⟩
    · exact absurd ⟨h3, h4⟩ h
    · omega
  · refine ⟨H, ?_⟩
    rcases H with ⟨_, _, h1⟩ | ⟨h1, h3, _⟩
    · exact h1
    · omega
theorem opt_C {t k9 : Int} (H : zOpt p s s' t ∨ zOptF p s t k9) (h : 1 ≤ fRk t) (h2 : ¬ t = 19) : ∃ (s1 : sx_S) (m : Int), pRel p (fR5 (fRk t)) s s1 m ∧ ((zOpt p s s' t ∧ ¬ (fRk t = 4 ∧ fHdr s1 = 4) ∧ s p 14 < 64 ∧ s' = sx_up (sx_up (sx_up (sx_up s1 p 14 (s1 p 14 + 1)) 36 (s1 32 11) t) 32 11 (s1 32 11 + 1)) 32 13 1) ∨ (zOptF p s t k9 ∧ fRk t = 4 ∧ fHdr s1 = 4 ∧ k9 = 1) ∨ (zOptF p s t k9 ∧ ¬ (fRk t = 4 ∧ fHdr s1 = 4) ∧ 64 ≤ s p 14 ∧ k9 = 2)) := by
  have h24 := fRk_24 h
  rcases H with H | H
  · have H0 := H
    rcases H with ⟨h3, _⟩ | ⟨_, _, s1, m, h3, h4, h5, h6⟩
    · exact absurd h3 h24
    · exact ⟨s1, m, h3, Or.inl ⟨H0, h4, h5, h6⟩⟩
  · have H0 := H
    rcases H with ⟨_, h3, _⟩ | ⟨_, _, s1, m, h3, h4⟩
    · omega
    · rcases h4 with ⟨h4, h5, h6⟩ | ⟨h4, h5, h6⟩
      · exact ⟨s1, m, h3, Or.inr (Or.inl ⟨H0, h4, h5, h6⟩)⟩
      · exact ⟨s1, m, h3, Or.inr (Or.inr ⟨H0, h4, h5, h6⟩)⟩
theorem eC_B {k m : Int} (hp : 2 ≤ p ∧ p ≤ 17) (hk : eStk p s lo) (hc : eC p s r lo) (hr : pRel p k s s1 m) : eB p s s1 r lo 0 := by
  obtain ⟨w48, w142, w50, w51, w52, w22, w49, w143, wko, _⟩ := hc
  have k0 := hk.1
  have ecl : ∀ j : Int, j < s 32 14 → s1 (p + 11) j = s (p + 11) j := fun j z => hr.2.1 _ _ (by unfold FRl; omega)
  have ecn : ∀ j : Int, j < s 32 14 → s1 (p + 12) j = s (p + 12) j := fun j z => hr.2.1 _ _ (by unfold FRl; omega)
  have hdx := dp_cg (code := s (p + 11)) (code' := s1 (p + 11)) (lo := lo) (i := s 32 14) (fun j _ z => ecl j z) k0
  unfold eB
  rw [show s 32 14 + 0 = s 32 14 by omega, show s 32 11 - 0 = s 32 11 by omega, hdx.1, hdx.2]
  refine ⟨w48, w142, w22, w49, w143, fun y y0 y1 => ?_⟩
  have h1 := wko y y0 y1
  have hdy := dp_cg (code := s (p + 11)) (code' := s1 (p + 11)) (lo := lo) (i := y) (fun j _ z => ecl j (by omega)) y0
  unfold pKo kdF ptF otF at *
  rw [hdy.1, hdy.2, ecl y y1, ecn y y1]
  exact h1
theorem eC_rel {k m : Int} (hp : 2 ≤ p ∧ p ≤ 17) (hk1 : 1 ≤ k) (hI : eInv p s) (hr : pRel p k s s1 m) (hc : eC p s r lo) (h13 : s 32 13 = 0) (hB : eB p s s1 r' lo m) (hf : fr (FEb (s 32 14)) r r') : eC p s1 r' lo := by
  obtain ⟨a1, a2, a3, a4, a5, a6, a7, a8, a9⟩ := rel_inv hp hk1 hI hr
  obtain ⟨w48, w142, w50, w51, w52, w22, w49, w143, wko, _⟩ := hc
  obtain ⟨b1, b2, b3, b4, b5, b6⟩ := hB
  unfold eC
  rw [a1, a2, a3, a4, a5, a6]
  exact ⟨b1, b2, (hf _ _ (by unfold FEb; omega)).trans w50, (hf _ _ (by unfold FEb; omega)).trans w51, (hf _ _ (by unfold FEb; omega)).trans w52, b3, b4, b5, b6, fun z => absurd h13 z⟩
theorem eC_cl (hp : 2 ≤ p ∧ p ≤ 17) (hc : eC p s1 r lo) (h13 : s1 32 13 = 0) {o : Int} (r48 : r' 124 48 = s1 32 11 - 1) (r50 : r' 124 50 = o) (rr : ∀ a j : Int, (a = 124 ∧ (j = 22 ∨ j = 49 ∨ j = 51 ∨ j = 52)) ∨ (139 ≤ a ∧ a ≤ 143) → r' a j = r a j) : eC p (sx_up (sx_up s1 32 11 (s1 32 11 - 1)) 32 12 o) r' lo := by
  obtain ⟨w48, w142, w50, w51, w52, w22, w49, w143, wko, _⟩ := hc
  have u : ∀ a j : Int, ¬ (a = 32 ∧ (j = 11 ∨ j = 12)) → (sx_up (sx_up s1 32 11 (s1 32 11 - 1)) 32 12 o) a j = s1 a j := fun a j z => by rw [up_n (by omega), up_n (by omega)]
  have uf : ∀ a : Int, ¬ a = 32 → (sx_up (sx_up s1 32 11 (s1 32 11 - 1)) 32 12 o) a = s1 a := fun a z => funext fun j => u a j (by omega)
  unfold eC
  rw [uf 36 (by omega), uf (p + 11) (by omega), uf (p + 12) (by omega), u p 14 (by omega), u 32 13 (by omega), u 32 14 (by omega), show (sx_up (sx_up s1 32 11 (s1 32 11 - 1)) 32 12 o) 32 11 = s1 32 11 - 1 by rw [up_n (by omega), up_s], show (sx_up (sx_up s1 32 11 (s1 32 11 - 1)) 32 12 o) 32 12 = o by rw [up_s]]
  refine ⟨r48, fun j y0 y1 => (rr _ _ (by omega)).trans (w142 j y0 (by omega)), r50, (rr _ _ (by omega)).trans w51, (rr _ _ (by omega)).trans w52, (rr _ _ (by omega)).trans w22, (rr _ _ (by omega)).trans w49, fun d d0 d1 => (rr _ _ (by omega)).trans (w143 d d0 d1), fun y y0 y1 => ?_, fun z => absurd h13 z⟩
  have h1 := wko y y0 y1
  unfold pKo
  rw [rr 139 _ (by omega), rr 140 _ (by omega), rr 141 _ (by omega)]
  exact h1
theorem fKr_r {t : Int} (h : 1 ≤ fRk t) (h2 : ¬ t = 19) : (t = 17 ∧ fKr t = 4) ∨ (t = 18 ∧ fKr t = 3) ∨ (25 ≤ t ∧ t ≤ 34 ∧ fKr t = t - 20) := by
  have hs := fRk_sn h
  unfold pSn at hs
  rcases hs.1 with e | e | e | e | e
  · left; rw [e]; exact ⟨rfl, rfl⟩
  · right; left; rw [e]; exact ⟨rfl, rfl⟩
  · exact absurd e h2
  · exact absurd e hs.2
  · right; right
    unfold fKr fKd
    rw [if_neg (show ¬ t = 23 by omega), if_neg (show ¬ t = 19 by omega), if_neg (show ¬ t = 17 by omega), if_neg (show ¬ t = 18 by omega)]
    omega
theorem fRk_ge {t : Int} (h : t = 17 ∨ t = 18 ∨ (25 ≤ t ∧ t ≤ 34)) : 1 ≤ fRk t ∧ ¬ t = 19 := by
  refine ⟨?_, by omega⟩
  unfold fRk
  repeat' split
  all_goals omega
theorem fRk_lt {t : Int} (h : ¬ (t = 17 ∨ t = 18 ∨ (25 ≤ t ∧ t ≤ 34))) : fRk t < 1 ∨ t = 19 := by
  by_cases e : t = 19
  · exact Or.inr e
  · left
    unfold fRk
    repeat' split
    all_goals omega
set_option maxRecDepth 20000 in
theorem r_signs (hq : rQ σ tx n9 i) (hp : 2 ≤ p ∧ p ≤ 17) (hlo : 0 ≤ lo) (hI : eInv p s) (hk : eStk p s lo) (hc : eC p s σ lo) (h13 : s 32 13 = 0) {k9 : Int} (H : zOpt p s s' (kT tx n9 i) ∨ zOptF p s (kT tx n9 i) k9) (hF : zOptF p s (kT tx n9 i) k9 → ∀ (σ' : sx_S), fr (FEq lo) σ σ' → rFl σ' k9 (kS tx n9 i) → Q (some (.inl 0)) shM σ') (hS : zOpt p s s' (kT tx n9 i) → ∀ (σ' : sx_S), eC p s' σ' lo → rQ σ' tx n9 (kE tx n9 i) → fr (FEs lo) σ σ' → Q (some (.inl 1)) shM σ') : sx_Run X 212 [.inr (.inr 124)] shM σ Q := by
  have hc0 := hc
  obtain ⟨w48, w142, w50, w51, w52, w22, w49, w143, wko, _⟩ := hc
  have hkz := hq.tk.2.2
  have ha := hq.tk.2.1
  obtain ⟨z0, z1, z2, z3, z4, z5, z6, z7⟩ := hI
  have hI : eInv p s := ⟨z0, z1, z2, z3, z4, z5, z6, z7⟩
  have hbd := eInv_bd hI
  have hk0 := hk.1
  refine sx_rule2 (own := 12) (cd := kX12_signs) (nL := 2) (by decide +kernel) (by decide +kernel) kX12_signs_ok (by decide +kernel) (Nat.le_of_ble_eq_true rfl) [158] 40 (fun n t L st _ σ' => (t = 158 ∧ ∃ kk : Int, st = [] ∧ L = [some (.inr (.inr (124))), some (.inl (kk))] ∧ (σ = σ' ∧ kk = fKr (kT tx n9 i) ∧ 1 ≤ fRk (kT tx n9 i) ∧ ¬ kT tx n9 i = 19) ∧ n = 0)) ?_ ?_
  · skip
    conv => whnf
    refine ⟨Nat.le_of_ble_eq_true rfl, Nat.le_of_ble_eq_true rfl, (by first | assumption | rfl), ?_⟩
    refine r_issign (fun g41 => ?_) (fun g41 => ?_)
    · have t24 := (pKz_e hkz).2.1.mp g41
      conv => whnf
      refine ⟨fun g => ?_, fun g => ?_⟩
      · exact absurd g (by simp [sx_cc])
      · skip
        conv => whnf
        refine ⟨(by first | assumption | rfl), ?_⟩
        try simp (disch := omega) only [Int.cast_ofNat_Int, up_s, up_a, up_i, mp_a, mp_ge]
        try simp only [w50]
        try simp only [b1]
        try simp only [e50]
        try simp only [e51]
        try simp only [t46]
        try simp only [ekk]
        try simp only [lk_142]
        conv => whnf
        refine ⟨fun g => ?_, fun g => ?_⟩
        · simp only [sx_cc, Classical.not_not] at g
          conv => whnf
          refine ⟨Nat.le_of_ble_eq_true rfl, Nat.le_of_ble_eq_true rfl, (by first | assumption | rfl), ?_⟩
          refine r_iskey (fun gs => ?_) (fun gs => ?_)
          · have t18 := (pKz_e hkz).2.2.2.2.2.2.2.2.1.mp gs
            conv => whnf
            refine ⟨fun g => ?_, fun g => ?_⟩
            · exact absurd g (by simp [sx_cc])
            · skip
              conv => whnf
              refine ⟨fun g => ?_, fun g => ?_⟩
              · skip
                conv => whnf
                refine ⟨_, ⟨rfl, _, rfl, rfl, ?_, rfl⟩⟩
                have hg9 := fRk_ge (t := kT tx n9 i) (by omega)
                have hkr := fKr_r hg9.1 hg9.2
                exact ⟨rfl, by omega, hg9.1, hg9.2⟩
              · exact absurd g (by simp [sx_cc])
          · have n18 : ¬ kT tx n9 i = 18 := fun z => gs ((pKz_e hkz).2.2.2.2.2.2.2.2.1.mpr z)
            conv => whnf
            refine ⟨fun g => ?_, fun g => ?_⟩
            · skip
              conv => whnf
              refine ⟨Nat.le_of_ble_eq_true rfl, Nat.le_of_ble_eq_true rfl, (by first | assumption | rfl), ?_⟩
              refine r_iskey (fun gs => ?_) (fun gs => ?_)
              · have t17 := (pKz_e hkz).2.2.2.2.2.2.2.2.2.1.mp gs
                conv => whnf
                refine ⟨fun g => ?_, fun g => ?_⟩
                · exact absurd g (by simp [sx_cc])
                · skip
                  conv => whnf
                  refine ⟨fun g => ?_, fun g => ?_⟩
                  · skip
                    conv => whnf
                    refine ⟨_, ⟨rfl, _, rfl, rfl, ?_, rfl⟩⟩
                    have hg9 := fRk_ge (t := kT tx n9 i) (by omega)
                    have hkr := fKr_r hg9.1 hg9.2
                    exact ⟨rfl, by omega, hg9.1, hg9.2⟩
                  · exact absurd g (by simp [sx_cc])
              · have n17 : ¬ kT tx n9 i = 17 := fun z => gs ((pKz_e hkz).2.2.2.2.2.2.2.2.2.1.mpr z)
                conv => whnf
                refine ⟨fun g => ?_, fun g => ?_⟩
                · skip
                  conv => whnf
                  refine ⟨(by first | assumption | rfl), ?_⟩
                  try simp (disch := omega) only [Int.cast_ofNat_Int, up_s, up_a, up_i, mp_a, mp_ge]
                  try simp only [w50]
                  try simp only [b1]
                  try simp only [e50]
                  try simp only [e51]
                  try simp only [t46]
                  try simp only [ekk]
                  try simp only [lk_142]
                  conv => whnf
                  refine ⟨fun g => ?_, fun g => ?_⟩
                  · simp only [sx_cc, Classical.not_not] at g
                    have n5k : ¬ (25 ≤ kT tx n9 i ∧ kT tx n9 i ≤ 30) := fun z => g ((pKz_e hkz).2.2.2.2.2.2.2.2.2.2.1.mpr z)
                    conv => whnf
                    refine ⟨Nat.le_of_ble_eq_true rfl, Nat.le_of_ble_eq_true rfl, (by first | assumption | rfl), ?_⟩
                    refine r_issign (fun gs => ?_) (fun gs => ?_)
                    · have t31 := (pKz_e hkz).2.2.2.1.mp gs
                      conv => whnf
                      refine ⟨fun g => ?_, fun g => ?_⟩
                      · exact absurd g (by simp [sx_cc])
                      · skip
                        conv => whnf
                        refine ⟨fun g => ?_, fun g => ?_⟩
                        · skip
                          conv => whnf
                          refine ⟨_, ⟨rfl, _, rfl, rfl, ?_, rfl⟩⟩
                          have hg9 := fRk_ge (t := kT tx n9 i) (by omega)
                          have hkr := fKr_r hg9.1 hg9.2
                          exact ⟨rfl, by omega, hg9.1, hg9.2⟩
                        · exact absurd g (by simp [sx_cc])
                    · have n31 : ¬ kT tx n9 i = 31 := fun z => gs ((pKz_e hkz).2.2.2.1.mpr z)
                      conv => whnf
                      refine ⟨fun g => ?_, fun g => ?_⟩
                      · skip
                        conv => whnf
                        refine ⟨Nat.le_of_ble_eq_true rfl, Nat.le_of_ble_eq_true rfl, (by first | assumption | rfl), ?_⟩
                        refine r_issign (fun gs => ?_) (fun gs => ?_)
                        · have t32 := (pKz_e hkz).2.2.2.2.1.mp gs
                          conv => whnf
                          refine ⟨fun g => ?_, fun g => ?_⟩
                          · exact absurd g (by simp [sx_cc])
                          · skip
                            conv => whnf
                            refine ⟨fun g => ?_, fun g => ?_⟩
                            · skip
                              conv => whnf
                              refine ⟨_, ⟨rfl, _, rfl, rfl, ?_, rfl⟩⟩
                              have hg9 := fRk_ge (t := kT tx n9 i) (by omega)
                              have hkr := fKr_r hg9.1 hg9.2
                              exact ⟨rfl, by omega, hg9.1, hg9.2⟩
                            · exact absurd g (by simp [sx_cc])
                        · have n32 : ¬ kT tx n9 i = 32 := fun z => gs ((pKz_e hkz).2.2.2.2.1.mpr z)
                          conv => whnf
                          refine ⟨fun g => ?_, fun g => ?_⟩
                          · skip
                            conv => whnf
                            refine ⟨Nat.le_of_ble_eq_true rfl, Nat.le_of_ble_eq_true rfl, (by first | assumption | rfl), ?_⟩
                            refine r_issign (fun gs => ?_) (fun gs => ?_)
                            · have t33 := (pKz_e hkz).2.2.2.2.2.1.mp gs
                              conv => whnf
                              refine ⟨fun g => ?_, fun g => ?_⟩
                              · exact absurd g (by simp [sx_cc])
                              · skip
                                conv => whnf
                                refine ⟨fun g => ?_, fun g => ?_⟩
                                · skip
                                  conv => whnf
                                  refine ⟨_, ⟨rfl, _, rfl, rfl, ?_, rfl⟩⟩
                                  have hg9 := fRk_ge (t := kT tx n9 i) (by omega)
                                  have hkr := fKr_r hg9.1 hg9.2
                                  exact ⟨rfl, by omega, hg9.1, hg9.2⟩
                                · exact absurd g (by simp [sx_cc])
                            · have n33 : ¬ kT tx n9 i = 33 := fun z => gs ((pKz_e hkz).2.2.2.2.2.1.mpr z)
                              conv => whnf
                              refine ⟨fun g => ?_, fun g => ?_⟩
                              · skip
                                conv => whnf
                                refine ⟨Nat.le_of_ble_eq_true rfl, Nat.le_of_ble_eq_true rfl, (by first | assumption | rfl), ?_⟩
                                refine r_issign (fun gs => ?_) (fun gs => ?_)
                                · have t34 := (pKz_e hkz).2.2.2.2.2.2.1.mp gs
                                  conv => whnf
                                  refine ⟨fun g => ?_, fun g => ?_⟩
                                  · exact absurd g (by simp [sx_cc])
                                  · skip
                                    conv => whnf
                                    refine ⟨fun g => ?_, fun g => ?_⟩
                                    · skip
                                      conv => whnf
                                      refine ⟨_, ⟨rfl, _, rfl, rfl, ?_, rfl⟩⟩
                                      have hg9 := fRk_ge (t := kT tx n9 i) (by omega)
                                      have hkr := fKr_r hg9.1 hg9.2
                                      exact ⟨rfl, by omega, hg9.1, hg9.2⟩
                                    · exact absurd g (by simp [sx_cc])
                                · have n34 : ¬ kT tx n9 i = 34 := fun z => gs ((pKz_e hkz).2.2.2.2.2.2.1.mpr z)
                                  conv => whnf
                                  refine ⟨fun g => ?_, fun g => ?_⟩
                                  · skip
                                    conv => whnf
                                    refine ⟨fun g => ?_, fun g => ?_⟩
                                    · exact absurd g (by simp [sx_cc])
                                    · skip
                                      conv => whnf
                                      refine ⟨Nat.le_of_ble_eq_true rfl, Nat.le_of_ble_eq_true rfl, (by first | assumption | rfl), ?_⟩
                                      refine r_wrong ?_
                                      conv => whnf
                                      refine ⟨fun q9 => by first | (simp at q9; done) | omega, ?_⟩
                                      first
                                      | (exfalso; omega)
                                      | (obtain ⟨hz, e1⟩ := opt_B H (by omega) (fRk_lt (by omega))
                                         exact hF hz _ (fun a j z9 => by unfold FEq at z9; rw [up_n (by omega), up_n (by omega)]) ⟨by rw [up_n (by omega), up_s, e1], by rw [up_s, ha]⟩)
                                  · exact absurd g (by simp [sx_cc])
                              · exact absurd g (by simp [sx_cc])
                          · exact absurd g (by simp [sx_cc])
                      · exact absurd g (by simp [sx_cc])
                  · simp only [sx_cc, Classical.not_not] at g
                    have t5 := (pKz_e hkz).2.2.2.2.2.2.2.2.2.2.1.mp g
                    have w5 := (pKz_e hkz).2.2.2.2.2.2.2.2.2.2.2 g
                    conv => whnf
                    refine ⟨(by first | assumption | rfl), ?_⟩
                    try simp (disch := omega) only [Int.cast_ofNat_Int, up_s, up_a, up_i, mp_a, mp_ge]
                    try simp only [w50]
                    try simp only [b1]
                    try simp only [e50]
                    try simp only [e51]
                    try simp only [t46]
                    try simp only [ekk]
                    try simp only [lk_142]
                    conv => whnf
                    refine ⟨⟨by omega, by omega⟩, ?_⟩
                    conv => whnf
                    refine ⟨fun g => ?_, fun g => ?_⟩
                    · simp only [sx_cc, Classical.not_not] at g
                      conv => whnf
                      refine ⟨_, ⟨rfl, _, rfl, rfl, ?_, rfl⟩⟩
                      have hg9 := fRk_ge (t := kT tx n9 i) (by omega)
                      have hkr := fKr_r hg9.1 hg9.2
                      exact ⟨rfl, by omega, hg9.1, hg9.2⟩
                    · simp only [sx_cc, Classical.not_not] at g
                      conv => whnf
                      refine ⟨Nat.le_of_ble_eq_true rfl, Nat.le_of_ble_eq_true rfl, (by first | assumption | rfl), ?_⟩
                      refine r_wrong ?_
                      conv => whnf
                      refine ⟨fun q9 => by first | (simp at q9; done) | omega, ?_⟩
                      first
                      | (exfalso; omega)
                      | (obtain ⟨hz, e1⟩ := opt_B H (by omega) (fRk_lt (by omega))
                         exact hF hz _ (fun a j z9 => by unfold FEq at z9; rw [up_n (by omega), up_n (by omega)]) ⟨by rw [up_n (by omega), up_s, e1], by rw [up_s, ha]⟩)
                · exact absurd g (by simp [sx_cc])
            · exact absurd g (by simp [sx_cc])
        · simp only [sx_cc, Classical.not_not] at g
          conv => whnf
          refine ⟨Nat.le_of_ble_eq_true rfl, Nat.le_of_ble_eq_true rfl, (by first | assumption | rfl), ?_⟩
          obtain ⟨hz, s1, m, hr, hn1, es⟩ := opt_A H ⟨t24, by omega⟩
          refine r_bind hq hp (by decide) hlo hI hk h13 hr (eC_B hp hk hc0 hr) (fun σ3 f3 q3 B3 => ?_)
          have hk1 : (1 : Int) ≤ 1 := by decide
          have a9s := rel_inv hp hk1 hI hr
          obtain ⟨a1, a2, a3, a4, a5, a6, a7, a8, a9⟩ := a9s
          have b1 := B3.1
          have e50 : σ3 124 50 = s 32 12 := (f3 _ _ (by unfold FEb; omega)).trans w50
          conv => whnf
          refine ⟨(by first | assumption | rfl), ?_⟩
          try simp (disch := omega) only [Int.cast_ofNat_Int, up_s, up_a, up_i, mp_a, mp_ge]
          try simp only [w50]
          try simp only [b1]
          try simp only [e50]
          try simp only [e51]
          try simp only [t46]
          try simp only [ekk]
          try simp only [lk_142]
          conv => whnf
          refine ⟨⟨by omega, by omega⟩, ?_⟩
          conv => whnf
          refine ⟨(by first | assumption | rfl), ?_⟩
          try simp (disch := omega) only [Int.cast_ofNat_Int, up_s, up_a, up_i, mp_a, mp_ge]
          try simp only [w50]
          try simp only [b1]
          try simp only [e50]
          try simp only [e51]
          try simp only [t46]
          try simp only [ekk]
          try simp only [lk_142]
          conv => whnf
          refine ⟨(by first | assumption | rfl), ?_⟩
          try simp (disch := omega) only [Int.cast_ofNat_Int, up_s, up_a, up_i, mp_a, mp_ge]
          try simp only [w50]
          try simp only [b1]
          try simp only [e50]
          try simp only [e51]
          try simp only [t46]
          try simp only [ekk]
          try simp only [lk_142]
          conv => whnf
          refine ⟨⟨by omega, by omega⟩, ?_⟩
          conv => whnf
          refine ⟨(by first | assumption | rfl), ?_⟩
          try simp (disch := omega) only [Int.cast_ofNat_Int, up_s, up_a, up_i, mp_a, mp_ge]
          try simp only [w50]
          try simp only [b1]
          try simp only [e50]
          try simp only [e51]
          try simp only [t46]
          try simp only [ekk]
          try simp only [lk_142]
          conv => whnf
          refine ⟨Nat.le_of_ble_eq_true rfl, Nat.le_of_ble_eq_true rfl, (by first | assumption | rfl), ?_⟩
          refine r_tok (tx := tx) (n9 := n9) (i := i) (by repeat (first | exact q3 | refine rQ_up ?_ (by unfold FRd; omega))) (fun σ9 hf9 hq9 => ?_)
          conv => whnf
          refine ⟨fun q9 => by first | (simp at q9; done) | omega, ?_⟩
          subst es
          refine hS hz _ (eC_cl hp (eC_rel hp (by decide) hI hr hc0 h13 B3 f3) (by rw [a3]; exact h13) (r := σ3) (by rw [hf9 _ _ (by unfold FRt; omega), up_n (by omega), up_s]; omega) (by rw [hf9 _ _ (by unfold FRt; omega), up_s]) (fun a j z => by rw [hf9 _ _ (by unfold FRt; omega), up_n (by omega), up_n (by omega)])) hq9 (fun a j z9 => by unfold FEs at z9; rw [hf9 a j (by unfold FRt; omega)]; (repeat (first | rw [up_n (by omega)])); exact f3 a j (by unfold FEb; omega))
    · have n24 : ¬ kT tx n9 i = 24 := fun z => g41 ((pKz_e hkz).2.1.mpr z)
      conv => whnf
      refine ⟨fun g => ?_, fun g => ?_⟩
      · skip
        conv => whnf
        refine ⟨Nat.le_of_ble_eq_true rfl, Nat.le_of_ble_eq_true rfl, (by first | assumption | rfl), ?_⟩
        refine r_iskey (fun gs => ?_) (fun gs => ?_)
        · have t18 := (pKz_e hkz).2.2.2.2.2.2.2.2.1.mp gs
          conv => whnf
          refine ⟨fun g => ?_, fun g => ?_⟩
          · exact absurd g (by simp [sx_cc])
          · skip
            conv => whnf
            refine ⟨fun g => ?_, fun g => ?_⟩
            · skip
              conv => whnf
              refine ⟨_, ⟨rfl, _, rfl, rfl, ?_, rfl⟩⟩
              have hg9 := fRk_ge (t := kT tx n9 i) (by omega)
              have hkr := fKr_r hg9.1 hg9.2
              exact ⟨rfl, by omega, hg9.1, hg9.2⟩
            · exact absurd g (by simp [sx_cc])
        · have n18 : ¬ kT tx n9 i = 18 := fun z => gs ((pKz_e hkz).2.2.2.2.2.2.2.2.1.mpr z)
          conv => whnf
          refine ⟨fun g => ?_, fun g => ?_⟩
          · skip
            conv => whnf
            refine ⟨Nat.le_of_ble_eq_true rfl, Nat.le_of_ble_eq_true rfl, (by first | assumption | rfl), ?_⟩
            refine r_iskey (fun gs => ?_) (fun gs => ?_)
            · have t17 := (pKz_e hkz).2.2.2.2.2.2.2.2.2.1.mp gs
              conv => whnf
              refine ⟨fun g => ?_, fun g => ?_⟩
              · exact absurd g (by simp [sx_cc])
              · skip
                conv => whnf
                refine ⟨fun g => ?_, fun g => ?_⟩
                · skip
                  conv => whnf
                  refine ⟨_, ⟨rfl, _, rfl, rfl, ?_, rfl⟩⟩
                  have hg9 := fRk_ge (t := kT tx n9 i) (by omega)
                  have hkr := fKr_r hg9.1 hg9.2
                  exact ⟨rfl, by omega, hg9.1, hg9.2⟩
                · exact absurd g (by simp [sx_cc])
            · have n17 : ¬ kT tx n9 i = 17 := fun z => gs ((pKz_e hkz).2.2.2.2.2.2.2.2.2.1.mpr z)
              conv => whnf
              refine ⟨fun g => ?_, fun g => ?_⟩
              · skip
                conv => whnf
                refine ⟨(by first | assumption | rfl), ?_⟩
                try simp (disch := omega) only [Int.cast_ofNat_Int, up_s, up_a, up_i, mp_a, mp_ge]
                try simp only [w50]
                try simp only [b1]
                try simp only [e50]
                try simp only [e51]
                try simp only [t46]
                try simp only [ekk]
                try simp only [lk_142]
                conv => whnf
                refine ⟨fun g => ?_, fun g => ?_⟩
                · simp only [sx_cc, Classical.not_not] at g
                  have n5k : ¬ (25 ≤ kT tx n9 i ∧ kT tx n9 i ≤ 30) := fun z => g ((pKz_e hkz).2.2.2.2.2.2.2.2.2.2.1.mpr z)
                  conv => whnf
                  refine ⟨Nat.le_of_ble_eq_true rfl, Nat.le_of_ble_eq_true rfl, (by first | assumption | rfl), ?_⟩
                  refine r_issign (fun gs => ?_) (fun gs => ?_)
                  · have t31 := (pKz_e hkz).2.2.2.1.mp gs
                    conv => whnf
                    refine ⟨fun g => ?_, fun g => ?_⟩
                    · exact absurd g (by simp [sx_cc])
                    · skip
                      conv => whnf
                      refine ⟨fun g => ?_, fun g => ?_⟩
                      · skip
                        conv => whnf
                        refine ⟨_, ⟨rfl, _, rfl, rfl, ?_, rfl⟩⟩
                        have hg9 := fRk_ge (t := kT tx n9 i) (by omega)
                        have hkr := fKr_r hg9.1 hg9.2
                        exact ⟨rfl, by omega, hg9.1, hg9.2⟩
                      · exact absurd g (by simp [sx_cc])
                  · have n31 : ¬ kT tx n9 i = 31 := fun z => gs ((pKz_e hkz).2.2.2.1.mpr z)
                    conv => whnf
                    refine ⟨fun g => ?_, fun g => ?_⟩
                    · skip
                      conv => whnf
                      refine ⟨Nat.le_of_ble_eq_true rfl, Nat.le_of_ble_eq_true rfl, (by first | assumption | rfl), ?_⟩
                      refine r_issign (fun gs => ?_) (fun gs => ?_)
                      · have t32 := (pKz_e hkz).2.2.2.2.1.mp gs
                        conv => whnf
                        refine ⟨fun g => ?_, fun g => ?_⟩
                        · exact absurd g (by simp [sx_cc])
                        · skip
                          conv => whnf
                          refine ⟨fun g => ?_, fun g => ?_⟩
                          · skip
                            conv => whnf
                            refine ⟨_, ⟨rfl, _, rfl, rfl, ?_, rfl⟩⟩
                            have hg9 := fRk_ge (t := kT tx n9 i) (by omega)
                            have hkr := fKr_r hg9.1 hg9.2
                            exact ⟨rfl, by omega, hg9.1, hg9.2⟩
                          · exact absurd g (by simp [sx_cc])
                      · have n32 : ¬ kT tx n9 i = 32 := fun z => gs ((pKz_e hkz).2.2.2.2.1.mpr z)
                        conv => whnf
                        refine ⟨fun g => ?_, fun g => ?_⟩
                        · skip
                          conv => whnf
                          refine ⟨Nat.le_of_ble_eq_true rfl, Nat.le_of_ble_eq_true rfl, (by first | assumption | rfl), ?_⟩
                          refine r_issign (fun gs => ?_) (fun gs => ?_)
                          · have t33 := (pKz_e hkz).2.2.2.2.2.1.mp gs
                            conv => whnf
                            refine ⟨fun g => ?_, fun g => ?_⟩
                            · exact absurd g (by simp [sx_cc])
                            · skip
                              conv => whnf
                              refine ⟨fun g => ?_, fun g => ?_⟩
                              · skip
                                conv => whnf
                                refine ⟨_, ⟨rfl, _, rfl, rfl, ?_, rfl⟩⟩
                                have hg9 := fRk_ge (t := kT tx n9 i) (by omega)
                                have hkr := fKr_r hg9.1 hg9.2
                                exact ⟨rfl, by omega, hg9.1, hg9.2⟩
                              · exact absurd g (by simp [sx_cc])
                          · have n33 : ¬ kT tx n9 i = 33 := fun z => gs ((pKz_e hkz).2.2.2.2.2.1.mpr z)
                            conv => whnf
                            refine ⟨fun g => ?_, fun g => ?_⟩
                            · skip
                              conv => whnf
                              refine ⟨Nat.le_of_ble_eq_true rfl, Nat.le_of_ble_eq_true rfl, (by first | assumption | rfl), ?_⟩
                              refine r_issign (fun gs => ?_) (fun gs => ?_)
                              · have t34 := (pKz_e hkz).2.2.2.2.2.2.1.mp gs
                                conv => whnf
                                refine ⟨fun g => ?_, fun g => ?_⟩
                                · exact absurd g (by simp [sx_cc])
                                · skip
                                  conv => whnf
                                  refine ⟨fun g => ?_, fun g => ?_⟩
                                  · skip
                                    conv => whnf
                                    refine ⟨_, ⟨rfl, _, rfl, rfl, ?_, rfl⟩⟩
                                    have hg9 := fRk_ge (t := kT tx n9 i) (by omega)
                                    have hkr := fKr_r hg9.1 hg9.2
                                    exact ⟨rfl, by omega, hg9.1, hg9.2⟩
                                  · exact absurd g (by simp [sx_cc])
                              · have n34 : ¬ kT tx n9 i = 34 := fun z => gs ((pKz_e hkz).2.2.2.2.2.2.1.mpr z)
                                conv => whnf
                                refine ⟨fun g => ?_, fun g => ?_⟩
                                · skip
                                  conv => whnf
                                  refine ⟨fun g => ?_, fun g => ?_⟩
                                  · exact absurd g (by simp [sx_cc])
                                  · skip
                                    conv => whnf
                                    refine ⟨Nat.le_of_ble_eq_true rfl, Nat.le_of_ble_eq_true rfl, (by first | assumption | rfl), ?_⟩
                                    refine r_wrong ?_
                                    conv => whnf
                                    refine ⟨fun q9 => by first | (simp at q9; done) | omega, ?_⟩
                                    first
                                    | (exfalso; omega)
                                    | (obtain ⟨hz, e1⟩ := opt_B H (by omega) (fRk_lt (by omega))
                                       exact hF hz _ (fun a j z9 => by unfold FEq at z9; rw [up_n (by omega), up_n (by omega)]) ⟨by rw [up_n (by omega), up_s, e1], by rw [up_s, ha]⟩)
                                · exact absurd g (by simp [sx_cc])
                            · exact absurd g (by simp [sx_cc])
                        · exact absurd g (by simp [sx_cc])
                    · exact absurd g (by simp [sx_cc])
                · simp only [sx_cc, Classical.not_not] at g
                  have t5 := (pKz_e hkz).2.2.2.2.2.2.2.2.2.2.1.mp g
                  have w5 := (pKz_e hkz).2.2.2.2.2.2.2.2.2.2.2 g
                  conv => whnf
                  refine ⟨(by first | assumption | rfl), ?_⟩
                  try simp (disch := omega) only [Int.cast_ofNat_Int, up_s, up_a, up_i, mp_a, mp_ge]
                  try simp only [w50]
                  try simp only [b1]
                  try simp only [e50]
                  try simp only [e51]
                  try simp only [t46]
                  try simp only [ekk]
                  try simp only [lk_142]
                  conv => whnf
                  refine ⟨⟨by omega, by omega⟩, ?_⟩
                  conv => whnf
                  refine ⟨fun g => ?_, fun g => ?_⟩
                  · simp only [sx_cc, Classical.not_not] at g
                    conv => whnf
                    refine ⟨_, ⟨rfl, _, rfl, rfl, ?_, rfl⟩⟩
                    have hg9 := fRk_ge (t := kT tx n9 i) (by omega)
                    have hkr := fKr_r hg9.1 hg9.2
                    exact ⟨rfl, by omega, hg9.1, hg9.2⟩
                  · simp only [sx_cc, Classical.not_not] at g
                    conv => whnf
                    refine ⟨Nat.le_of_ble_eq_true rfl, Nat.le_of_ble_eq_true rfl, (by first | assumption | rfl), ?_⟩
                    refine r_wrong ?_
                    conv => whnf
                    refine ⟨fun q9 => by first | (simp at q9; done) | omega, ?_⟩
                    first
                    | (exfalso; omega)
                    | (obtain ⟨hz, e1⟩ := opt_B H (by omega) (fRk_lt (by omega))
                       exact hF hz _ (fun a j z9 => by unfold FEq at z9; rw [up_n (by omega), up_n (by omega)]) ⟨by rw [up_n (by omega), up_s, e1], by rw [up_s, ha]⟩)
              · exact absurd g (by simp [sx_cc])
          · exact absurd g (by simp [sx_cc])
      · exact absurd g (by simp [sx_cc])
  · intro n t L st σ' hk
    obtain ⟨rfl, kk, rfl, rfl, hc, rfl⟩ := hk
    obtain ⟨rfl, ekk, hr1, h19⟩ := hc
    subst ekk
    have ekr := rRk_k (fRk_sn hr1).1
    conv => whnf
    refine ⟨Nat.le_of_ble_eq_true rfl, Nat.le_of_ble_eq_true rfl, ?_⟩
    refine r_rank ?_
    try rw [ekr]
    conv => whnf
    refine ⟨fun g => ?_, fun g => ?_⟩
    · simp only [sx_cc, Classical.not_not] at g
      conv => whnf
      refine ⟨Nat.le_of_ble_eq_true rfl, Nat.le_of_ble_eq_true rfl, ?_⟩
      refine r_rank ?_
      try rw [ekr]
      conv => whnf
      refine ⟨Nat.le_of_ble_eq_true rfl, Nat.le_of_ble_eq_true rfl, (by first | assumption | rfl), ?_⟩
      obtain ⟨s1, m, hr, hout⟩ := opt_C H hr1 h19
      have hk1 := fR5_1 hr1
      first
      | (rw [show (5 : Int) = fR5 (fRk (kT tx n9 i)) by rw [show fRk (kT tx n9 i) = 4 by omega]; rfl]; refine r_bind hq hp hk1 hlo hI hk h13 hr (eC_B hp hk hc0 hr) (fun σ3 f3 q3 B3 => ?_))
      | (rw [show fRk (kT tx n9 i) = fR5 (fRk (kT tx n9 i)) from (fR5_n (by omega)).symm]; rw [fR5_n (by omega)]; rw [fR5_n (by omega)] at hr; refine r_bind hq hp hr1 hlo hI hk h13 hr (eC_B hp hk hc0 hr) (fun σ3 f3 q3 B3 => ?_))
      have a9s := rel_inv hp (by first | exact hk1 | exact hr1) hI hr
      obtain ⟨a1, a2, a3, a4, a5, a6, a7, a8, a9⟩ := a9s
      have b1 := B3.1
      have e51 : σ3 124 51 = s p 14 := (f3 _ _ (by unfold FEb; omega)).trans w51
      have hob := fOpn_bd (row := s 36) (s 32 11 - m).toNat
      have t46 := pt_124_46 q3.pt
      have etop : 0 < s 32 11 - m → rRk (σ3 142 (s 32 11 - m - 1)) = fHdr s1 := fun z => by
        rw [B3.2.1 _ (by omega) (by omega), rRk_k (z6 _ (by omega) (by omega))]
        unfold fHdr
        rw [a6, if_pos (by omega), a1]
      have ehd0 : s 32 11 - m ≤ 0 → fHdr s1 = 0 := fun z => by unfold fHdr; rw [a6, if_neg (by omega)]
      conv => whnf
      refine ⟨Nat.le_of_ble_eq_true rfl, Nat.le_of_ble_eq_true rfl, ?_⟩
      refine r_rank ?_
      try rw [ekr]
      conv => whnf
      refine ⟨fun g => ?_, fun g => ?_⟩
      · simp only [sx_cc, Classical.not_not] at g
        conv => whnf
        refine ⟨Nat.le_of_ble_eq_true rfl, Nat.le_of_ble_eq_true rfl, (by first | assumption | rfl), ?_⟩
        refine r_cnt e51 z2 (fun hk9 => ?_) (fun hk9 => ?_)
        · skip
          conv => whnf
          refine ⟨fun g => ?_, fun g => ?_⟩
          · skip
            conv => whnf
            refine ⟨Nat.le_of_ble_eq_true rfl, Nat.le_of_ble_eq_true rfl, (by first | assumption | rfl), ?_⟩
            refine r_waits (rQ_up q3 (by unfold FRd; omega)) (n := s1 32 11) (by rw [up_n (by omega)]; omega) (by omega) ?_
            conv => whnf
            refine ⟨(by first | assumption | rfl), by omega, ?_⟩
            try simp (disch := omega) only [Int.cast_ofNat_Int, up_s, up_a, up_i, mp_a, mp_ge]
            try simp only [w50]
            try simp only [b1]
            try simp only [e50]
            try simp only [e51]
            try simp only [t46]
            try simp only [ekk]
            try simp only [lk_142]
            conv => whnf
            refine ⟨Nat.le_of_ble_eq_true rfl, Nat.le_of_ble_eq_true rfl, ?_⟩
            refine r_rank ?_
            try rw [ekr]
            conv => whnf
            refine ⟨fun g => ?_, fun g => ?_⟩
            · simp only [sx_cc, Classical.not_not] at g
              conv => whnf
              refine ⟨(by first | assumption | rfl), by omega, ?_⟩
              try simp (disch := omega) only [Int.cast_ofNat_Int, up_s, up_a, up_i, mp_a, mp_ge]
              try simp only [w50]
              try simp only [b1]
              try simp only [e50]
              try simp only [e51]
              try simp only [t46]
              try simp only [ekk]
              try simp only [lk_142]
              conv => whnf
              refine ⟨Nat.le_of_ble_eq_true rfl, Nat.le_of_ble_eq_true rfl, (by first | assumption | rfl), ?_⟩
              refine r_tok (tx := tx) (n9 := n9) (i := i) (by repeat (first | exact q3 | refine rQ_up ?_ (by unfold FRd; omega))) (fun σ9 hf9 hq9 => ?_)
              conv => whnf
              refine ⟨fun q9 => by first | (simp at q9; done) | omega, ?_⟩
              rcases hout with ⟨hz, h5, h6, es⟩ | ⟨hz, h5, h6, h7⟩ | ⟨hz, h5, h6, h7⟩
              · skip
                have hJ := eInv_rel hp (by first | exact hk1 | exact hr1) hI hr
                have hCr := eC_rel hp (by first | exact hk1 | exact hr1) hI hr hc0 h13 B3 f3
                refine hS hz _ (by
                  rw [es]
                  exact eC_push (s := s1) (r := σ3) (t := kT tx n9 i) hCr hJ.1 (by rw [up_n (by omega), up_s]) (fun j z => by rw [up_n (by omega), up_n (by omega), up_n (by omega), up_n (by omega)]) (by rw [up_n (by omega), up_n (by omega), up_s]) (by rw [up_n (by omega), up_n (by omega), up_n (by omega), up_n (by omega)]) (funext fun j => by rw [up_n (by omega), up_n (by omega), up_n (by omega), up_n (by omega)]) (funext fun j => by rw [up_n (by omega), up_n (by omega), up_n (by omega), up_n (by omega)]) (by rw [hf9 _ _ (by unfold FRt; omega), up_n (by omega), up_n (by omega), up_s]) (by rw [hf9 _ _ (by unfold FRt; omega), up_n (by omega), up_n (by omega), up_n (by omega), up_s]) (fun j z => by rw [hf9 _ _ (by unfold FRt; omega), up_n (by omega), up_n (by omega), up_n (by omega), up_n (by omega), up_n (by omega)]) (fun a j z => by rw [hf9 _ _ (by unfold FRt; omega), up_n (by omega), up_n (by omega), up_n (by omega), up_n (by omega), up_n (by omega)])
                    (by rw [hf9 _ _ (by unfold FRt; omega), up_n (by omega), up_n (by omega), up_n (by omega), up_n (by omega), up_n (by omega), up_n (by omega), up_n (by omega), up_n (by omega), up_n (by omega)]; exact hCr.2.2.1) (by rw [hf9 _ _ (by unfold FRt; omega), up_n (by omega), up_n (by omega), up_n (by omega), up_n (by omega), up_s, up_n (by omega), up_n (by omega), up_n (by omega), up_s]; omega) (by rw [hf9 _ _ (by unfold FRt; omega), up_n (by omega), up_s, up_s]) (fun _ => by
                      rw [hf9 _ _ (by unfold FRt; omega), up_s, fHdr_push (s := s1) (i := kT tx n9 i) (by rw [up_n (by omega), up_s]) (by omega) (by rw [up_n (by omega), up_n (by omega), up_s])]
                      have h39 : ¬ fRk (kT tx n9 i) = 3 := fun z => h19 (fRk_3 z)
                      omega)) hq9 (fun a j z9 => by unfold FEs at z9; rw [hf9 a j (by unfold FRt; omega)]; (repeat (first | rw [up_n (by omega)])); exact f3 a j (by unfold FEb; omega))
              · omega
              · omega
            · simp only [sx_cc, Classical.not_not] at g
              conv => whnf
              refine ⟨(by first | assumption | rfl), by omega, ?_⟩
              try simp (disch := omega) only [Int.cast_ofNat_Int, up_s, up_a, up_i, mp_a, mp_ge]
              try simp only [w50]
              try simp only [b1]
              try simp only [e50]
              try simp only [e51]
              try simp only [t46]
              try simp only [ekk]
              try simp only [lk_142]
              conv => whnf
              refine ⟨Nat.le_of_ble_eq_true rfl, Nat.le_of_ble_eq_true rfl, (by first | assumption | rfl), ?_⟩
              refine r_tok (tx := tx) (n9 := n9) (i := i) (by repeat (first | exact q3 | refine rQ_up ?_ (by unfold FRd; omega))) (fun σ9 hf9 hq9 => ?_)
              conv => whnf
              refine ⟨fun q9 => by first | (simp at q9; done) | omega, ?_⟩
              rcases hout with ⟨hz, h5, h6, es⟩ | ⟨hz, h5, h6, h7⟩ | ⟨hz, h5, h6, h7⟩
              · skip
                have hJ := eInv_rel hp (by first | exact hk1 | exact hr1) hI hr
                have hCr := eC_rel hp (by first | exact hk1 | exact hr1) hI hr hc0 h13 B3 f3
                refine hS hz _ (by
                  rw [es]
                  exact eC_push (s := s1) (r := σ3) (t := kT tx n9 i) hCr hJ.1 (by rw [up_n (by omega), up_s]) (fun j z => by rw [up_n (by omega), up_n (by omega), up_n (by omega), up_n (by omega)]) (by rw [up_n (by omega), up_n (by omega), up_s]) (by rw [up_n (by omega), up_n (by omega), up_n (by omega), up_n (by omega)]) (funext fun j => by rw [up_n (by omega), up_n (by omega), up_n (by omega), up_n (by omega)]) (funext fun j => by rw [up_n (by omega), up_n (by omega), up_n (by omega), up_n (by omega)]) (by rw [hf9 _ _ (by unfold FRt; omega), up_n (by omega), up_n (by omega), up_s]) (by rw [hf9 _ _ (by unfold FRt; omega), up_n (by omega), up_n (by omega), up_n (by omega), up_s]) (fun j z => by rw [hf9 _ _ (by unfold FRt; omega), up_n (by omega), up_n (by omega), up_n (by omega), up_n (by omega), up_n (by omega)]) (fun a j z => by rw [hf9 _ _ (by unfold FRt; omega), up_n (by omega), up_n (by omega), up_n (by omega), up_n (by omega), up_n (by omega)])
                    (by rw [hf9 _ _ (by unfold FRt; omega), up_n (by omega), up_n (by omega), up_n (by omega), up_n (by omega), up_n (by omega), up_n (by omega), up_n (by omega), up_n (by omega), up_n (by omega)]; exact hCr.2.2.1) (by rw [hf9 _ _ (by unfold FRt; omega), up_n (by omega), up_n (by omega), up_n (by omega), up_n (by omega), up_s, up_n (by omega), up_n (by omega), up_n (by omega), up_s]; omega) (by rw [hf9 _ _ (by unfold FRt; omega), up_n (by omega), up_s, up_s]) (fun _ => by
                      rw [hf9 _ _ (by unfold FRt; omega), up_s, fHdr_push (s := s1) (i := kT tx n9 i) (by rw [up_n (by omega), up_s]) (by omega) (by rw [up_n (by omega), up_n (by omega), up_s])]
                      have h39 : ¬ fRk (kT tx n9 i) = 3 := fun z => h19 (fRk_3 z)
                      omega)) hq9 (fun a j z9 => by unfold FEs at z9; rw [hf9 a j (by unfold FRt; omega)]; (repeat (first | rw [up_n (by omega)])); exact f3 a j (by unfold FEb; omega))
              · omega
              · omega
          · exact absurd g (by simp [sx_cc])
        · skip
          conv => whnf
          refine ⟨fun g => ?_, fun g => ?_⟩
          · exact absurd g (by simp [sx_cc])
          · skip
            conv => whnf
            refine ⟨fun q9 => by first | (simp at q9; done) | omega, ?_⟩
            rcases hout with ⟨hz, h5, h6, _⟩ | ⟨hz, h5, h6, h7⟩ | ⟨hz, h5, h6, h7⟩
            · omega
            · omega
            · refine hF hz _ (fun a j z9 => by unfold FEq at z9; rw [up_n (by omega), up_n (by omega)]; exact f3 a j (by unfold FEb; omega)) ⟨by rw [up_n (by omega), up_s, h7], by rw [up_s, f3 _ _ (by unfold FEb; omega), ha]⟩
      · simp only [sx_cc, Classical.not_not] at g
        conv => whnf
        refine ⟨(by first | assumption | rfl), ?_⟩
        try simp (disch := omega) only [Int.cast_ofNat_Int, up_s, up_a, up_i, mp_a, mp_ge]
        try simp only [w50]
        try simp only [b1]
        try simp only [e50]
        try simp only [e51]
        try simp only [t46]
        try simp only [ekk]
        try simp only [lk_142]
        conv => whnf
        refine ⟨fun g => ?_, fun g => ?_⟩
        · simp only [sx_cc, Classical.not_not] at g
          have ehd := ehd0 (by omega)
          conv => whnf
          refine ⟨Nat.le_of_ble_eq_true rfl, Nat.le_of_ble_eq_true rfl, (by first | assumption | rfl), ?_⟩
          refine r_cnt e51 z2 (fun hk9 => ?_) (fun hk9 => ?_)
          · skip
            conv => whnf
            refine ⟨fun g => ?_, fun g => ?_⟩
            · skip
              conv => whnf
              refine ⟨Nat.le_of_ble_eq_true rfl, Nat.le_of_ble_eq_true rfl, (by first | assumption | rfl), ?_⟩
              refine r_waits (rQ_up q3 (by unfold FRd; omega)) (n := s1 32 11) (by rw [up_n (by omega)]; omega) (by omega) ?_
              conv => whnf
              refine ⟨(by first | assumption | rfl), by omega, ?_⟩
              try simp (disch := omega) only [Int.cast_ofNat_Int, up_s, up_a, up_i, mp_a, mp_ge]
              try simp only [w50]
              try simp only [b1]
              try simp only [e50]
              try simp only [e51]
              try simp only [t46]
              try simp only [ekk]
              try simp only [lk_142]
              conv => whnf
              refine ⟨Nat.le_of_ble_eq_true rfl, Nat.le_of_ble_eq_true rfl, ?_⟩
              refine r_rank ?_
              try rw [ekr]
              conv => whnf
              refine ⟨fun g => ?_, fun g => ?_⟩
              · simp only [sx_cc, Classical.not_not] at g
                conv => whnf
                refine ⟨(by first | assumption | rfl), by omega, ?_⟩
                try simp (disch := omega) only [Int.cast_ofNat_Int, up_s, up_a, up_i, mp_a, mp_ge]
                try simp only [w50]
                try simp only [b1]
                try simp only [e50]
                try simp only [e51]
                try simp only [t46]
                try simp only [ekk]
                try simp only [lk_142]
                conv => whnf
                refine ⟨Nat.le_of_ble_eq_true rfl, Nat.le_of_ble_eq_true rfl, (by first | assumption | rfl), ?_⟩
                refine r_tok (tx := tx) (n9 := n9) (i := i) (by repeat (first | exact q3 | refine rQ_up ?_ (by unfold FRd; omega))) (fun σ9 hf9 hq9 => ?_)
                conv => whnf
                refine ⟨fun q9 => by first | (simp at q9; done) | omega, ?_⟩
                rcases hout with ⟨hz, h5, h6, es⟩ | ⟨hz, h5, h6, h7⟩ | ⟨hz, h5, h6, h7⟩
                · skip
                  have hJ := eInv_rel hp (by first | exact hk1 | exact hr1) hI hr
                  have hCr := eC_rel hp (by first | exact hk1 | exact hr1) hI hr hc0 h13 B3 f3
                  refine hS hz _ (by
                    rw [es]
                    exact eC_push (s := s1) (r := σ3) (t := kT tx n9 i) hCr hJ.1 (by rw [up_n (by omega), up_s]) (fun j z => by rw [up_n (by omega), up_n (by omega), up_n (by omega), up_n (by omega)]) (by rw [up_n (by omega), up_n (by omega), up_s]) (by rw [up_n (by omega), up_n (by omega), up_n (by omega), up_n (by omega)]) (funext fun j => by rw [up_n (by omega), up_n (by omega), up_n (by omega), up_n (by omega)]) (funext fun j => by rw [up_n (by omega), up_n (by omega), up_n (by omega), up_n (by omega)]) (by rw [hf9 _ _ (by unfold FRt; omega), up_n (by omega), up_n (by omega), up_s]) (by rw [hf9 _ _ (by unfold FRt; omega), up_n (by omega), up_n (by omega), up_n (by omega), up_s]) (fun j z => by rw [hf9 _ _ (by unfold FRt; omega), up_n (by omega), up_n (by omega), up_n (by omega), up_n (by omega), up_n (by omega)]) (fun a j z => by rw [hf9 _ _ (by unfold FRt; omega), up_n (by omega), up_n (by omega), up_n (by omega), up_n (by omega), up_n (by omega)])
                      (by rw [hf9 _ _ (by unfold FRt; omega), up_n (by omega), up_n (by omega), up_n (by omega), up_n (by omega), up_n (by omega), up_n (by omega), up_n (by omega), up_n (by omega), up_n (by omega)]; exact hCr.2.2.1) (by rw [hf9 _ _ (by unfold FRt; omega), up_n (by omega), up_n (by omega), up_n (by omega), up_n (by omega), up_s, up_n (by omega), up_n (by omega), up_n (by omega), up_s]; omega) (by rw [hf9 _ _ (by unfold FRt; omega), up_n (by omega), up_s, up_s]) (fun _ => by
                        rw [hf9 _ _ (by unfold FRt; omega), up_s, fHdr_push (s := s1) (i := kT tx n9 i) (by rw [up_n (by omega), up_s]) (by omega) (by rw [up_n (by omega), up_n (by omega), up_s])]
                        have h39 : ¬ fRk (kT tx n9 i) = 3 := fun z => h19 (fRk_3 z)
                        omega)) hq9 (fun a j z9 => by unfold FEs at z9; rw [hf9 a j (by unfold FRt; omega)]; (repeat (first | rw [up_n (by omega)])); exact f3 a j (by unfold FEb; omega))
                · omega
                · omega
              · simp only [sx_cc, Classical.not_not] at g
                conv => whnf
                refine ⟨(by first | assumption | rfl), by omega, ?_⟩
                try simp (disch := omega) only [Int.cast_ofNat_Int, up_s, up_a, up_i, mp_a, mp_ge]
                try simp only [w50]
                try simp only [b1]
                try simp only [e50]
                try simp only [e51]
                try simp only [t46]
                try simp only [ekk]
                try simp only [lk_142]
                conv => whnf
                refine ⟨Nat.le_of_ble_eq_true rfl, Nat.le_of_ble_eq_true rfl, (by first | assumption | rfl), ?_⟩
                refine r_tok (tx := tx) (n9 := n9) (i := i) (by repeat (first | exact q3 | refine rQ_up ?_ (by unfold FRd; omega))) (fun σ9 hf9 hq9 => ?_)
                conv => whnf
                refine ⟨fun q9 => by first | (simp at q9; done) | omega, ?_⟩
                rcases hout with ⟨hz, h5, h6, es⟩ | ⟨hz, h5, h6, h7⟩ | ⟨hz, h5, h6, h7⟩
                · skip
                  have hJ := eInv_rel hp (by first | exact hk1 | exact hr1) hI hr
                  have hCr := eC_rel hp (by first | exact hk1 | exact hr1) hI hr hc0 h13 B3 f3
                  refine hS hz _ (by
                    rw [es]
                    exact eC_push (s := s1) (r := σ3) (t := kT tx n9 i) hCr hJ.1 (by rw [up_n (by omega), up_s]) (fun j z => by rw [up_n (by omega), up_n (by omega), up_n (by omega), up_n (by omega)]) (by rw [up_n (by omega), up_n (by omega), up_s]) (by rw [up_n (by omega), up_n (by omega), up_n (by omega), up_n (by omega)]) (funext fun j => by rw [up_n (by omega), up_n (by omega), up_n (by omega), up_n (by omega)]) (funext fun j => by rw [up_n (by omega), up_n (by omega), up_n (by omega), up_n (by omega)]) (by rw [hf9 _ _ (by unfold FRt; omega), up_n (by omega), up_n (by omega), up_s]) (by rw [hf9 _ _ (by unfold FRt; omega), up_n (by omega), up_n (by omega), up_n (by omega), up_s]) (fun j z => by rw [hf9 _ _ (by unfold FRt; omega), up_n (by omega), up_n (by omega), up_n (by omega), up_n (by omega), up_n (by omega)]) (fun a j z => by rw [hf9 _ _ (by unfold FRt; omega), up_n (by omega), up_n (by omega), up_n (by omega), up_n (by omega), up_n (by omega)])
                      (by rw [hf9 _ _ (by unfold FRt; omega), up_n (by omega), up_n (by omega), up_n (by omega), up_n (by omega), up_n (by omega), up_n (by omega), up_n (by omega), up_n (by omega), up_n (by omega)]; exact hCr.2.2.1) (by rw [hf9 _ _ (by unfold FRt; omega), up_n (by omega), up_n (by omega), up_n (by omega), up_n (by omega), up_s, up_n (by omega), up_n (by omega), up_n (by omega), up_s]; omega) (by rw [hf9 _ _ (by unfold FRt; omega), up_n (by omega), up_s, up_s]) (fun _ => by
                        rw [hf9 _ _ (by unfold FRt; omega), up_s, fHdr_push (s := s1) (i := kT tx n9 i) (by rw [up_n (by omega), up_s]) (by omega) (by rw [up_n (by omega), up_n (by omega), up_s])]
                        have h39 : ¬ fRk (kT tx n9 i) = 3 := fun z => h19 (fRk_3 z)
                        omega)) hq9 (fun a j z9 => by unfold FEs at z9; rw [hf9 a j (by unfold FRt; omega)]; (repeat (first | rw [up_n (by omega)])); exact f3 a j (by unfold FEb; omega))
                · omega
                · omega
            · exact absurd g (by simp [sx_cc])
          · skip
            conv => whnf
            refine ⟨fun g => ?_, fun g => ?_⟩
            · exact absurd g (by simp [sx_cc])
            · skip
              conv => whnf
              refine ⟨fun q9 => by first | (simp at q9; done) | omega, ?_⟩
              rcases hout with ⟨hz, h5, h6, _⟩ | ⟨hz, h5, h6, h7⟩ | ⟨hz, h5, h6, h7⟩
              · omega
              · omega
              · refine hF hz _ (fun a j z9 => by unfold FEq at z9; rw [up_n (by omega), up_n (by omega)]; exact f3 a j (by unfold FEb; omega)) ⟨by rw [up_n (by omega), up_s, h7], by rw [up_s, f3 _ _ (by unfold FEb; omega), ha]⟩
        · simp only [sx_cc, Classical.not_not] at g
          have et9 := etop (by omega)
          conv => whnf
          refine ⟨(by first | assumption | rfl), ?_⟩
          try simp (disch := omega) only [Int.cast_ofNat_Int, up_s, up_a, up_i, mp_a, mp_ge]
          try simp only [w50]
          try simp only [b1]
          try simp only [e50]
          try simp only [e51]
          try simp only [t46]
          try simp only [ekk]
          try simp only [lk_142]
          conv => whnf
          refine ⟨(by first | assumption | rfl), ?_⟩
          try simp (disch := omega) only [Int.cast_ofNat_Int, up_s, up_a, up_i, mp_a, mp_ge]
          try simp only [w50]
          try simp only [b1]
          try simp only [e50]
          try simp only [e51]
          try simp only [t46]
          try simp only [ekk]
          try simp only [lk_142]
          conv => whnf
          refine ⟨⟨by omega, by omega⟩, ?_⟩
          conv => whnf
          refine ⟨sx_ixI (by first | assumption | rfl) (by omega) (by omega), ?_⟩
          try simp (disch := omega) only [Int.cast_ofNat_Int, up_s, up_a, up_i, mp_a, mp_ge]
          try simp only [w50]
          try simp only [b1]
          try simp only [e50]
          try simp only [e51]
          try simp only [t46]
          try simp only [ekk]
          try simp only [lk_142]
          conv => whnf
          refine ⟨Nat.le_of_ble_eq_true rfl, Nat.le_of_ble_eq_true rfl, ?_⟩
          refine r_rank ?_
          try rw [ekr]
          conv => whnf
          refine ⟨fun g => ?_, fun g => ?_⟩
          · simp only [sx_cc, Classical.not_not] at g
            have hne : ¬ fHdr s1 = 4 := by omega
            skip
            conv => whnf
            refine ⟨Nat.le_of_ble_eq_true rfl, Nat.le_of_ble_eq_true rfl, (by first | assumption | rfl), ?_⟩
            refine r_cnt e51 z2 (fun hk9 => ?_) (fun hk9 => ?_)
            · skip
              conv => whnf
              refine ⟨fun g => ?_, fun g => ?_⟩
              · skip
                conv => whnf
                refine ⟨Nat.le_of_ble_eq_true rfl, Nat.le_of_ble_eq_true rfl, (by first | assumption | rfl), ?_⟩
                refine r_waits (rQ_up q3 (by unfold FRd; omega)) (n := s1 32 11) (by rw [up_n (by omega)]; omega) (by omega) ?_
                conv => whnf
                refine ⟨(by first | assumption | rfl), by omega, ?_⟩
                try simp (disch := omega) only [Int.cast_ofNat_Int, up_s, up_a, up_i, mp_a, mp_ge]
                try simp only [w50]
                try simp only [b1]
                try simp only [e50]
                try simp only [e51]
                try simp only [t46]
                try simp only [ekk]
                try simp only [lk_142]
                conv => whnf
                refine ⟨Nat.le_of_ble_eq_true rfl, Nat.le_of_ble_eq_true rfl, ?_⟩
                refine r_rank ?_
                try rw [ekr]
                conv => whnf
                refine ⟨fun g => ?_, fun g => ?_⟩
                · simp only [sx_cc, Classical.not_not] at g
                  conv => whnf
                  refine ⟨(by first | assumption | rfl), by omega, ?_⟩
                  try simp (disch := omega) only [Int.cast_ofNat_Int, up_s, up_a, up_i, mp_a, mp_ge]
                  try simp only [w50]
                  try simp only [b1]
                  try simp only [e50]
                  try simp only [e51]
                  try simp only [t46]
                  try simp only [ekk]
                  try simp only [lk_142]
                  conv => whnf
                  refine ⟨Nat.le_of_ble_eq_true rfl, Nat.le_of_ble_eq_true rfl, (by first | assumption | rfl), ?_⟩
                  refine r_tok (tx := tx) (n9 := n9) (i := i) (by repeat (first | exact q3 | refine rQ_up ?_ (by unfold FRd; omega))) (fun σ9 hf9 hq9 => ?_)
                  conv => whnf
                  refine ⟨fun q9 => by first | (simp at q9; done) | omega, ?_⟩
                  rcases hout with ⟨hz, h5, h6, es⟩ | ⟨hz, h5, h6, h7⟩ | ⟨hz, h5, h6, h7⟩
                  · skip
                    have hJ := eInv_rel hp (by first | exact hk1 | exact hr1) hI hr
                    have hCr := eC_rel hp (by first | exact hk1 | exact hr1) hI hr hc0 h13 B3 f3
                    refine hS hz _ (by
                      rw [es]
                      exact eC_push (s := s1) (r := σ3) (t := kT tx n9 i) hCr hJ.1 (by rw [up_n (by omega), up_s]) (fun j z => by rw [up_n (by omega), up_n (by omega), up_n (by omega), up_n (by omega)]) (by rw [up_n (by omega), up_n (by omega), up_s]) (by rw [up_n (by omega), up_n (by omega), up_n (by omega), up_n (by omega)]) (funext fun j => by rw [up_n (by omega), up_n (by omega), up_n (by omega), up_n (by omega)]) (funext fun j => by rw [up_n (by omega), up_n (by omega), up_n (by omega), up_n (by omega)]) (by rw [hf9 _ _ (by unfold FRt; omega), up_n (by omega), up_n (by omega), up_s]) (by rw [hf9 _ _ (by unfold FRt; omega), up_n (by omega), up_n (by omega), up_n (by omega), up_s]) (fun j z => by rw [hf9 _ _ (by unfold FRt; omega), up_n (by omega), up_n (by omega), up_n (by omega), up_n (by omega), up_n (by omega)]) (fun a j z => by rw [hf9 _ _ (by unfold FRt; omega), up_n (by omega), up_n (by omega), up_n (by omega), up_n (by omega), up_n (by omega)])
                        (by rw [hf9 _ _ (by unfold FRt; omega), up_n (by omega), up_n (by omega), up_n (by omega), up_n (by omega), up_n (by omega), up_n (by omega), up_n (by omega), up_n (by omega), up_n (by omega)]; exact hCr.2.2.1) (by rw [hf9 _ _ (by unfold FRt; omega), up_n (by omega), up_n (by omega), up_n (by omega), up_n (by omega), up_s, up_n (by omega), up_n (by omega), up_n (by omega), up_s]; omega) (by rw [hf9 _ _ (by unfold FRt; omega), up_n (by omega), up_s, up_s]) (fun _ => by
                          rw [hf9 _ _ (by unfold FRt; omega), up_s, fHdr_push (s := s1) (i := kT tx n9 i) (by rw [up_n (by omega), up_s]) (by omega) (by rw [up_n (by omega), up_n (by omega), up_s])]
                          have h39 : ¬ fRk (kT tx n9 i) = 3 := fun z => h19 (fRk_3 z)
                          omega)) hq9 (fun a j z9 => by unfold FEs at z9; rw [hf9 a j (by unfold FRt; omega)]; (repeat (first | rw [up_n (by omega)])); exact f3 a j (by unfold FEb; omega))
                  · omega
                  · omega
                · simp only [sx_cc, Classical.not_not] at g
                  conv => whnf
                  refine ⟨(by first | assumption | rfl), by omega, ?_⟩
                  try simp (disch := omega) only [Int.cast_ofNat_Int, up_s, up_a, up_i, mp_a, mp_ge]
                  try simp only [w50]
                  try simp only [b1]
                  try simp only [e50]
                  try simp only [e51]
                  try simp only [t46]
                  try simp only [ekk]
                  try simp only [lk_142]
                  conv => whnf
                  refine ⟨Nat.le_of_ble_eq_true rfl, Nat.le_of_ble_eq_true rfl, (by first | assumption | rfl), ?_⟩
                  refine r_tok (tx := tx) (n9 := n9) (i := i) (by repeat (first | exact q3 | refine rQ_up ?_ (by unfold FRd; omega))) (fun σ9 hf9 hq9 => ?_)
                  conv => whnf
                  refine ⟨fun q9 => by first | (simp at q9; done) | omega, ?_⟩
                  rcases hout with ⟨hz, h5, h6, es⟩ | ⟨hz, h5, h6, h7⟩ | ⟨hz, h5, h6, h7⟩
                  · skip
                    have hJ := eInv_rel hp (by first | exact hk1 | exact hr1) hI hr
                    have hCr := eC_rel hp (by first | exact hk1 | exact hr1) hI hr hc0 h13 B3 f3
                    refine hS hz _ (by
                      rw [es]
                      exact eC_push (s := s1) (r := σ3) (t := kT tx n9 i) hCr hJ.1 (by rw [up_n (by omega), up_s]) (fun j z => by rw [up_n (by omega), up_n (by omega), up_n (by omega), up_n (by omega)]) (by rw [up_n (by omega), up_n (by omega), up_s]) (by rw [up_n (by omega), up_n (by omega), up_n (by omega), up_n (by omega)]) (funext fun j => by rw [up_n (by omega), up_n (by omega), up_n (by omega), up_n (by omega)]) (funext fun j => by rw [up_n (by omega), up_n (by omega), up_n (by omega), up_n (by omega)]) (by rw [hf9 _ _ (by unfold FRt; omega), up_n (by omega), up_n (by omega), up_s]) (by rw [hf9 _ _ (by unfold FRt; omega), up_n (by omega), up_n (by omega), up_n (by omega), up_s]) (fun j z => by rw [hf9 _ _ (by unfold FRt; omega), up_n (by omega), up_n (by omega), up_n (by omega), up_n (by omega), up_n (by omega)]) (fun a j z => by rw [hf9 _ _ (by unfold FRt; omega), up_n (by omega), up_n (by omega), up_n (by omega), up_n (by omega), up_n (by omega)])
                        (by rw [hf9 _ _ (by unfold FRt; omega), up_n (by omega), up_n (by omega), up_n (by omega), up_n (by omega), up_n (by omega), up_n (by omega), up_n (by omega), up_n (by omega), up_n (by omega)]; exact hCr.2.2.1) (by rw [hf9 _ _ (by unfold FRt; omega), up_n (by omega), up_n (by omega), up_n (by omega), up_n (by omega), up_s, up_n (by omega), up_n (by omega), up_n (by omega), up_s]; omega) (by rw [hf9 _ _ (by unfold FRt; omega), up_n (by omega), up_s, up_s]) (fun _ => by
                          rw [hf9 _ _ (by unfold FRt; omega), up_s, fHdr_push (s := s1) (i := kT tx n9 i) (by rw [up_n (by omega), up_s]) (by omega) (by rw [up_n (by omega), up_n (by omega), up_s])]
                          have h39 : ¬ fRk (kT tx n9 i) = 3 := fun z => h19 (fRk_3 z)
                          omega)) hq9 (fun a j z9 => by unfold FEs at z9; rw [hf9 a j (by unfold FRt; omega)]; (repeat (first | rw [up_n (by omega)])); exact f3 a j (by unfold FEb; omega))
                  · omega
                  · omega
              · exact absurd g (by simp [sx_cc])
            · skip
              conv => whnf
              refine ⟨fun g => ?_, fun g => ?_⟩
              · exact absurd g (by simp [sx_cc])
              · skip
                conv => whnf
                refine ⟨fun q9 => by first | (simp at q9; done) | omega, ?_⟩
                rcases hout with ⟨hz, h5, h6, _⟩ | ⟨hz, h5, h6, h7⟩ | ⟨hz, h5, h6, h7⟩
                · omega
                · omega
                · refine hF hz _ (fun a j z9 => by unfold FEq at z9; rw [up_n (by omega), up_n (by omega)]; exact f3 a j (by unfold FEb; omega)) ⟨by rw [up_n (by omega), up_s, h7], by rw [up_s, f3 _ _ (by unfold FEb; omega), ha]⟩
          · simp only [sx_cc, Classical.not_not] at g
            have hhd : fHdr s1 = 4 := by omega
            skip
            conv => whnf
            refine ⟨Nat.le_of_ble_eq_true rfl, Nat.le_of_ble_eq_true rfl, (by first | assumption | rfl), ?_⟩
            refine r_wrong ?_
            conv => whnf
            refine ⟨fun q9 => by first | (simp at q9; done) | omega, ?_⟩
            rcases hout with ⟨hz, h5, _⟩ | ⟨hz, h5, h6, h7⟩ | ⟨hz, h5, _⟩
            · exact absurd ⟨by omega, hhd⟩ h5
            · refine hF hz _ (fun a j z9 => by unfold FEq at z9; rw [up_n (by omega), up_n (by omega)]; exact f3 a j (by unfold FEb; omega)) ⟨by rw [up_n (by omega), up_s, h7], by rw [up_s, f3 _ _ (by unfold FEb; omega), ha]⟩
            · exact absurd ⟨by omega, hhd⟩ h5
    · simp only [sx_cc, Classical.not_not] at g
      conv => whnf
      refine ⟨Nat.le_of_ble_eq_true rfl, Nat.le_of_ble_eq_true rfl, (by first | assumption | rfl), ?_⟩
      obtain ⟨s1, m, hr, hout⟩ := opt_C H hr1 h19
      have hk1 := fR5_1 hr1
      first
      | (rw [show (5 : Int) = fR5 (fRk (kT tx n9 i)) by rw [show fRk (kT tx n9 i) = 4 by omega]; rfl]; refine r_bind hq hp hk1 hlo hI hk h13 hr (eC_B hp hk hc0 hr) (fun σ3 f3 q3 B3 => ?_))
      | (rw [show fRk (kT tx n9 i) = fR5 (fRk (kT tx n9 i)) from (fR5_n (by omega)).symm]; rw [fR5_n (by omega)]; rw [fR5_n (by omega)] at hr; refine r_bind hq hp hr1 hlo hI hk h13 hr (eC_B hp hk hc0 hr) (fun σ3 f3 q3 B3 => ?_))
      have a9s := rel_inv hp (by first | exact hk1 | exact hr1) hI hr
      obtain ⟨a1, a2, a3, a4, a5, a6, a7, a8, a9⟩ := a9s
      have b1 := B3.1
      have e51 : σ3 124 51 = s p 14 := (f3 _ _ (by unfold FEb; omega)).trans w51
      have hob := fOpn_bd (row := s 36) (s 32 11 - m).toNat
      have t46 := pt_124_46 q3.pt
      have etop : 0 < s 32 11 - m → rRk (σ3 142 (s 32 11 - m - 1)) = fHdr s1 := fun z => by
        rw [B3.2.1 _ (by omega) (by omega), rRk_k (z6 _ (by omega) (by omega))]
        unfold fHdr
        rw [a6, if_pos (by omega), a1]
      have ehd0 : s 32 11 - m ≤ 0 → fHdr s1 = 0 := fun z => by unfold fHdr; rw [a6, if_neg (by omega)]
      conv => whnf
      refine ⟨Nat.le_of_ble_eq_true rfl, Nat.le_of_ble_eq_true rfl, ?_⟩
      refine r_rank ?_
      try rw [ekr]
      conv => whnf
      refine ⟨fun g => ?_, fun g => ?_⟩
      · simp only [sx_cc, Classical.not_not] at g
        conv => whnf
        refine ⟨Nat.le_of_ble_eq_true rfl, Nat.le_of_ble_eq_true rfl, (by first | assumption | rfl), ?_⟩
        refine r_cnt e51 z2 (fun hk9 => ?_) (fun hk9 => ?_)
        · skip
          conv => whnf
          refine ⟨fun g => ?_, fun g => ?_⟩
          · skip
            conv => whnf
            refine ⟨Nat.le_of_ble_eq_true rfl, Nat.le_of_ble_eq_true rfl, (by first | assumption | rfl), ?_⟩
            refine r_waits (rQ_up q3 (by unfold FRd; omega)) (n := s1 32 11) (by rw [up_n (by omega)]; omega) (by omega) ?_
            conv => whnf
            refine ⟨(by first | assumption | rfl), by omega, ?_⟩
            try simp (disch := omega) only [Int.cast_ofNat_Int, up_s, up_a, up_i, mp_a, mp_ge]
            try simp only [w50]
            try simp only [b1]
            try simp only [e50]
            try simp only [e51]
            try simp only [t46]
            try simp only [ekk]
            try simp only [lk_142]
            conv => whnf
            refine ⟨Nat.le_of_ble_eq_true rfl, Nat.le_of_ble_eq_true rfl, ?_⟩
            refine r_rank ?_
            try rw [ekr]
            conv => whnf
            refine ⟨fun g => ?_, fun g => ?_⟩
            · simp only [sx_cc, Classical.not_not] at g
              conv => whnf
              refine ⟨(by first | assumption | rfl), by omega, ?_⟩
              try simp (disch := omega) only [Int.cast_ofNat_Int, up_s, up_a, up_i, mp_a, mp_ge]
              try simp only [w50]
              try simp only [b1]
              try simp only [e50]
              try simp only [e51]
              try simp only [t46]
              try simp only [ekk]
              try simp only [lk_142]
              conv => whnf
              refine ⟨Nat.le_of_ble_eq_true rfl, Nat.le_of_ble_eq_true rfl, (by first | assumption | rfl), ?_⟩
              refine r_tok (tx := tx) (n9 := n9) (i := i) (by repeat (first | exact q3 | refine rQ_up ?_ (by unfold FRd; omega))) (fun σ9 hf9 hq9 => ?_)
              conv => whnf
              refine ⟨fun q9 => by first | (simp at q9; done) | omega, ?_⟩
              rcases hout with ⟨hz, h5, h6, es⟩ | ⟨hz, h5, h6, h7⟩ | ⟨hz, h5, h6, h7⟩
              · skip
                have hJ := eInv_rel hp (by first | exact hk1 | exact hr1) hI hr
                have hCr := eC_rel hp (by first | exact hk1 | exact hr1) hI hr hc0 h13 B3 f3
                refine hS hz _ (by
                  rw [es]
                  exact eC_push (s := s1) (r := σ3) (t := kT tx n9 i) hCr hJ.1 (by rw [up_n (by omega), up_s]) (fun j z => by rw [up_n (by omega), up_n (by omega), up_n (by omega), up_n (by omega)]) (by rw [up_n (by omega), up_n (by omega), up_s]) (by rw [up_n (by omega), up_n (by omega), up_n (by omega), up_n (by omega)]) (funext fun j => by rw [up_n (by omega), up_n (by omega), up_n (by omega), up_n (by omega)]) (funext fun j => by rw [up_n (by omega), up_n (by omega), up_n (by omega), up_n (by omega)]) (by rw [hf9 _ _ (by unfold FRt; omega), up_n (by omega), up_n (by omega), up_s]) (by rw [hf9 _ _ (by unfold FRt; omega), up_n (by omega), up_n (by omega), up_n (by omega), up_s]) (fun j z => by rw [hf9 _ _ (by unfold FRt; omega), up_n (by omega), up_n (by omega), up_n (by omega), up_n (by omega), up_n (by omega)]) (fun a j z => by rw [hf9 _ _ (by unfold FRt; omega), up_n (by omega), up_n (by omega), up_n (by omega), up_n (by omega), up_n (by omega)])
                    (by rw [hf9 _ _ (by unfold FRt; omega), up_n (by omega), up_n (by omega), up_n (by omega), up_n (by omega), up_n (by omega), up_n (by omega), up_n (by omega), up_n (by omega), up_n (by omega)]; exact hCr.2.2.1) (by rw [hf9 _ _ (by unfold FRt; omega), up_n (by omega), up_n (by omega), up_n (by omega), up_n (by omega), up_s, up_n (by omega), up_n (by omega), up_n (by omega), up_s]; omega) (by rw [hf9 _ _ (by unfold FRt; omega), up_n (by omega), up_s, up_s]) (fun _ => by
                      rw [hf9 _ _ (by unfold FRt; omega), up_s, fHdr_push (s := s1) (i := kT tx n9 i) (by rw [up_n (by omega), up_s]) (by omega) (by rw [up_n (by omega), up_n (by omega), up_s])]
                      have h39 : ¬ fRk (kT tx n9 i) = 3 := fun z => h19 (fRk_3 z)
                      omega)) hq9 (fun a j z9 => by unfold FEs at z9; rw [hf9 a j (by unfold FRt; omega)]; (repeat (first | rw [up_n (by omega)])); exact f3 a j (by unfold FEb; omega))
              · omega
              · omega
            · simp only [sx_cc, Classical.not_not] at g
              conv => whnf
              refine ⟨(by first | assumption | rfl), by omega, ?_⟩
              try simp (disch := omega) only [Int.cast_ofNat_Int, up_s, up_a, up_i, mp_a, mp_ge]
              try simp only [w50]
              try simp only [b1]
              try simp only [e50]
              try simp only [e51]
              try simp only [t46]
              try simp only [ekk]
              try simp only [lk_142]
              conv => whnf
              refine ⟨Nat.le_of_ble_eq_true rfl, Nat.le_of_ble_eq_true rfl, (by first | assumption | rfl), ?_⟩
              refine r_tok (tx := tx) (n9 := n9) (i := i) (by repeat (first | exact q3 | refine rQ_up ?_ (by unfold FRd; omega))) (fun σ9 hf9 hq9 => ?_)
              conv => whnf
              refine ⟨fun q9 => by first | (simp at q9; done) | omega, ?_⟩
              rcases hout with ⟨hz, h5, h6, es⟩ | ⟨hz, h5, h6, h7⟩ | ⟨hz, h5, h6, h7⟩
              · skip
                have hJ := eInv_rel hp (by first | exact hk1 | exact hr1) hI hr
                have hCr := eC_rel hp (by first | exact hk1 | exact hr1) hI hr hc0 h13 B3 f3
                refine hS hz _ (by
                  rw [es]
                  exact eC_push (s := s1) (r := σ3) (t := kT tx n9 i) hCr hJ.1 (by rw [up_n (by omega), up_s]) (fun j z => by rw [up_n (by omega), up_n (by omega), up_n (by omega), up_n (by omega)]) (by rw [up_n (by omega), up_n (by omega), up_s]) (by rw [up_n (by omega), up_n (by omega), up_n (by omega), up_n (by omega)]) (funext fun j => by rw [up_n (by omega), up_n (by omega), up_n (by omega), up_n (by omega)]) (funext fun j => by rw [up_n (by omega), up_n (by omega), up_n (by omega), up_n (by omega)]) (by rw [hf9 _ _ (by unfold FRt; omega), up_n (by omega), up_n (by omega), up_s]) (by rw [hf9 _ _ (by unfold FRt; omega), up_n (by omega), up_n (by omega), up_n (by omega), up_s]) (fun j z => by rw [hf9 _ _ (by unfold FRt; omega), up_n (by omega), up_n (by omega), up_n (by omega), up_n (by omega), up_n (by omega)]) (fun a j z => by rw [hf9 _ _ (by unfold FRt; omega), up_n (by omega), up_n (by omega), up_n (by omega), up_n (by omega), up_n (by omega)])
                    (by rw [hf9 _ _ (by unfold FRt; omega), up_n (by omega), up_n (by omega), up_n (by omega), up_n (by omega), up_n (by omega), up_n (by omega), up_n (by omega), up_n (by omega), up_n (by omega)]; exact hCr.2.2.1) (by rw [hf9 _ _ (by unfold FRt; omega), up_n (by omega), up_n (by omega), up_n (by omega), up_n (by omega), up_s, up_n (by omega), up_n (by omega), up_n (by omega), up_s]; omega) (by rw [hf9 _ _ (by unfold FRt; omega), up_n (by omega), up_s, up_s]) (fun _ => by
                      rw [hf9 _ _ (by unfold FRt; omega), up_s, fHdr_push (s := s1) (i := kT tx n9 i) (by rw [up_n (by omega), up_s]) (by omega) (by rw [up_n (by omega), up_n (by omega), up_s])]
                      have h39 : ¬ fRk (kT tx n9 i) = 3 := fun z => h19 (fRk_3 z)
                      omega)) hq9 (fun a j z9 => by unfold FEs at z9; rw [hf9 a j (by unfold FRt; omega)]; (repeat (first | rw [up_n (by omega)])); exact f3 a j (by unfold FEb; omega))
              · omega
              · omega
          · exact absurd g (by simp [sx_cc])
        · skip
          conv => whnf
          refine ⟨fun g => ?_, fun g => ?_⟩
          · exact absurd g (by simp [sx_cc])
          · skip
            conv => whnf
            refine ⟨fun q9 => by first | (simp at q9; done) | omega, ?_⟩
            rcases hout with ⟨hz, h5, h6, _⟩ | ⟨hz, h5, h6, h7⟩ | ⟨hz, h5, h6, h7⟩
            · omega
            · omega
            · refine hF hz _ (fun a j z9 => by unfold FEq at z9; rw [up_n (by omega), up_n (by omega)]; exact f3 a j (by unfold FEb; omega)) ⟨by rw [up_n (by omega), up_s, h7], by rw [up_s, f3 _ _ (by unfold FEb; omega), ha]⟩
      · simp only [sx_cc, Classical.not_not] at g
        conv => whnf
        refine ⟨(by first | assumption | rfl), ?_⟩
        try simp (disch := omega) only [Int.cast_ofNat_Int, up_s, up_a, up_i, mp_a, mp_ge]
        try simp only [w50]
        try simp only [b1]
        try simp only [e50]
        try simp only [e51]
        try simp only [t46]
        try simp only [ekk]
        try simp only [lk_142]
        conv => whnf
        refine ⟨fun g => ?_, fun g => ?_⟩
        · simp only [sx_cc, Classical.not_not] at g
          have ehd := ehd0 (by omega)
          conv => whnf
          refine ⟨Nat.le_of_ble_eq_true rfl, Nat.le_of_ble_eq_true rfl, (by first | assumption | rfl), ?_⟩
          refine r_cnt e51 z2 (fun hk9 => ?_) (fun hk9 => ?_)
          · skip
            conv => whnf
            refine ⟨fun g => ?_, fun g => ?_⟩
            · skip
              conv => whnf
              refine ⟨Nat.le_of_ble_eq_true rfl, Nat.le_of_ble_eq_true rfl, (by first | assumption | rfl), ?_⟩
              refine r_waits (rQ_up q3 (by unfold FRd; omega)) (n := s1 32 11) (by rw [up_n (by omega)]; omega) (by omega) ?_
              conv => whnf
              refine ⟨(by first | assumption | rfl), by omega, ?_⟩
              try simp (disch := omega) only [Int.cast_ofNat_Int, up_s, up_a, up_i, mp_a, mp_ge]
              try simp only [w50]
              try simp only [b1]
              try simp only [e50]
              try simp only [e51]
              try simp only [t46]
              try simp only [ekk]
              try simp only [lk_142]
              conv => whnf
              refine ⟨Nat.le_of_ble_eq_true rfl, Nat.le_of_ble_eq_true rfl, ?_⟩
              refine r_rank ?_
              try rw [ekr]
              conv => whnf
              refine ⟨fun g => ?_, fun g => ?_⟩
              · simp only [sx_cc, Classical.not_not] at g
                conv => whnf
                refine ⟨(by first | assumption | rfl), by omega, ?_⟩
                try simp (disch := omega) only [Int.cast_ofNat_Int, up_s, up_a, up_i, mp_a, mp_ge]
                try simp only [w50]
                try simp only [b1]
                try simp only [e50]
                try simp only [e51]
                try simp only [t46]
                try simp only [ekk]
                try simp only [lk_142]
                conv => whnf
                refine ⟨Nat.le_of_ble_eq_true rfl, Nat.le_of_ble_eq_true rfl, (by first | assumption | rfl), ?_⟩
                refine r_tok (tx := tx) (n9 := n9) (i := i) (by repeat (first | exact q3 | refine rQ_up ?_ (by unfold FRd; omega))) (fun σ9 hf9 hq9 => ?_)
                conv => whnf
                refine ⟨fun q9 => by first | (simp at q9; done) | omega, ?_⟩
                rcases hout with ⟨hz, h5, h6, es⟩ | ⟨hz, h5, h6, h7⟩ | ⟨hz, h5, h6, h7⟩
                · skip
                  have hJ := eInv_rel hp (by first | exact hk1 | exact hr1) hI hr
                  have hCr := eC_rel hp (by first | exact hk1 | exact hr1) hI hr hc0 h13 B3 f3
                  refine hS hz _ (by
                    rw [es]
                    exact eC_push (s := s1) (r := σ3) (t := kT tx n9 i) hCr hJ.1 (by rw [up_n (by omega), up_s]) (fun j z => by rw [up_n (by omega), up_n (by omega), up_n (by omega), up_n (by omega)]) (by rw [up_n (by omega), up_n (by omega), up_s]) (by rw [up_n (by omega), up_n (by omega), up_n (by omega), up_n (by omega)]) (funext fun j => by rw [up_n (by omega), up_n (by omega), up_n (by omega), up_n (by omega)]) (funext fun j => by rw [up_n (by omega), up_n (by omega), up_n (by omega), up_n (by omega)]) (by rw [hf9 _ _ (by unfold FRt; omega), up_n (by omega), up_n (by omega), up_s]) (by rw [hf9 _ _ (by unfold FRt; omega), up_n (by omega), up_n (by omega), up_n (by omega), up_s]) (fun j z => by rw [hf9 _ _ (by unfold FRt; omega), up_n (by omega), up_n (by omega), up_n (by omega), up_n (by omega), up_n (by omega)]) (fun a j z => by rw [hf9 _ _ (by unfold FRt; omega), up_n (by omega), up_n (by omega), up_n (by omega), up_n (by omega), up_n (by omega)])
                      (by rw [hf9 _ _ (by unfold FRt; omega), up_n (by omega), up_n (by omega), up_n (by omega), up_n (by omega), up_n (by omega), up_n (by omega), up_n (by omega), up_n (by omega), up_n (by omega)]; exact hCr.2.2.1) (by rw [hf9 _ _ (by unfold FRt; omega), up_n (by omega), up_n (by omega), up_n (by omega), up_n (by omega), up_s, up_n (by omega), up_n (by omega), up_n (by omega), up_s]; omega) (by rw [hf9 _ _ (by unfold FRt; omega), up_n (by omega), up_s, up_s]) (fun _ => by
                        rw [hf9 _ _ (by unfold FRt; omega), up_s, fHdr_push (s := s1) (i := kT tx n9 i) (by rw [up_n (by omega), up_s]) (by omega) (by rw [up_n (by omega), up_n (by omega), up_s])]
                        have h39 : ¬ fRk (kT tx n9 i) = 3 := fun z => h19 (fRk_3 z)
                        omega)) hq9 (fun a j z9 => by unfold FEs at z9; rw [hf9 a j (by unfold FRt; omega)]; (repeat (first | rw [up_n (by omega)])); exact f3 a j (by unfold FEb; omega))
                · omega
                · omega
              · simp only [sx_cc, Classical.not_not] at g
                conv => whnf
                refine ⟨(by first | assumption | rfl), by omega, ?_⟩
                try simp (disch := omega) only [Int.cast_ofNat_Int, up_s, up_a, up_i, mp_a, mp_ge]
                try simp only [w50]
                try simp only [b1]
                try simp only [e50]
                try simp only [e51]
                try simp only [t46]
                try simp only [ekk]
                try simp only [lk_142]
                conv => whnf
                refine ⟨Nat.le_of_ble_eq_true rfl, Nat.le_of_ble_eq_true rfl, (by first | assumption | rfl), ?_⟩
                refine r_tok (tx := tx) (n9 := n9) (i := i) (by repeat (first | exact q3 | refine rQ_up ?_ (by unfold FRd; omega))) (fun σ9 hf9 hq9 => ?_)
                conv => whnf
                refine ⟨fun q9 => by first | (simp at q9; done) | omega, ?_⟩
                rcases hout with ⟨hz, h5, h6, es⟩ | ⟨hz, h5, h6, h7⟩ | ⟨hz, h5, h6, h7⟩
                · skip
                  have hJ := eInv_rel hp (by first | exact hk1 | exact hr1) hI hr
                  have hCr := eC_rel hp (by first | exact hk1 | exact hr1) hI hr hc0 h13 B3 f3
                  refine hS hz _ (by
                    rw [es]
                    exact eC_push (s := s1) (r := σ3) (t := kT tx n9 i) hCr hJ.1 (by rw [up_n (by omega), up_s]) (fun j z => by rw [up_n (by omega), up_n (by omega), up_n (by omega), up_n (by omega)]) (by rw [up_n (by omega), up_n (by omega), up_s]) (by rw [up_n (by omega), up_n (by omega), up_n (by omega), up_n (by omega)]) (funext fun j => by rw [up_n (by omega), up_n (by omega), up_n (by omega), up_n (by omega)]) (funext fun j => by rw [up_n (by omega), up_n (by omega), up_n (by omega), up_n (by omega)]) (by rw [hf9 _ _ (by unfold FRt; omega), up_n (by omega), up_n (by omega), up_s]) (by rw [hf9 _ _ (by unfold FRt; omega), up_n (by omega), up_n (by omega), up_n (by omega), up_s]) (fun j z => by rw [hf9 _ _ (by unfold FRt; omega), up_n (by omega), up_n (by omega), up_n (by omega), up_n (by omega), up_n (by omega)]) (fun a j z => by rw [hf9 _ _ (by unfold FRt; omega), up_n (by omega), up_n (by omega), up_n (by omega), up_n (by omega), up_n (by omega)])
                      (by rw [hf9 _ _ (by unfold FRt; omega), up_n (by omega), up_n (by omega), up_n (by omega), up_n (by omega), up_n (by omega), up_n (by omega), up_n (by omega), up_n (by omega), up_n (by omega)]; exact hCr.2.2.1) (by rw [hf9 _ _ (by unfold FRt; omega), up_n (by omega), up_n (by omega), up_n (by omega), up_n (by omega), up_s, up_n (by omega), up_n (by omega), up_n (by omega), up_s]; omega) (by rw [hf9 _ _ (by unfold FRt; omega), up_n (by omega), up_s, up_s]) (fun _ => by
                        rw [hf9 _ _ (by unfold FRt; omega), up_s, fHdr_push (s := s1) (i := kT tx n9 i) (by rw [up_n (by omega), up_s]) (by omega) (by rw [up_n (by omega), up_n (by omega), up_s])]
                        have h39 : ¬ fRk (kT tx n9 i) = 3 := fun z => h19 (fRk_3 z)
                        omega)) hq9 (fun a j z9 => by unfold FEs at z9; rw [hf9 a j (by unfold FRt; omega)]; (repeat (first | rw [up_n (by omega)])); exact f3 a j (by unfold FEb; omega))
                · omega
                · omega
            · exact absurd g (by simp [sx_cc])
          · skip
            conv => whnf
            refine ⟨fun g => ?_, fun g => ?_⟩
            · exact absurd g (by simp [sx_cc])
            · skip
              conv => whnf
              refine ⟨fun q9 => by first | (simp at q9; done) | omega, ?_⟩
              rcases hout with ⟨hz, h5, h6, _⟩ | ⟨hz, h5, h6, h7⟩ | ⟨hz, h5, h6, h7⟩
              · omega
              · omega
              · refine hF hz _ (fun a j z9 => by unfold FEq at z9; rw [up_n (by omega), up_n (by omega)]; exact f3 a j (by unfold FEb; omega)) ⟨by rw [up_n (by omega), up_s, h7], by rw [up_s, f3 _ _ (by unfold FEb; omega), ha]⟩
        · simp only [sx_cc, Classical.not_not] at g
          have et9 := etop (by omega)
          conv => whnf
          refine ⟨(by first | assumption | rfl), ?_⟩
          try simp (disch := omega) only [Int.cast_ofNat_Int, up_s, up_a, up_i, mp_a, mp_ge]
          try simp only [w50]
          try simp only [b1]
          try simp only [e50]
          try simp only [e51]
          try simp only [t46]
          try simp only [ekk]
          try simp only [lk_142]
          conv => whnf
          refine ⟨(by first | assumption | rfl), ?_⟩
          try simp (disch := omega) only [Int.cast_ofNat_Int, up_s, up_a, up_i, mp_a, mp_ge]
          try simp only [w50]
          try simp only [b1]
          try simp only [e50]
          try simp only [e51]
          try simp only [t46]
          try simp only [ekk]
          try simp only [lk_142]
          conv => whnf
          refine ⟨⟨by omega, by omega⟩, ?_⟩
          conv => whnf
          refine ⟨sx_ixI (by first | assumption | rfl) (by omega) (by omega), ?_⟩
          try simp (disch := omega) only [Int.cast_ofNat_Int, up_s, up_a, up_i, mp_a, mp_ge]
          try simp only [w50]
          try simp only [b1]
          try simp only [e50]
          try simp only [e51]
          try simp only [t46]
          try simp only [ekk]
          try simp only [lk_142]
          conv => whnf
          refine ⟨Nat.le_of_ble_eq_true rfl, Nat.le_of_ble_eq_true rfl, ?_⟩
          refine r_rank ?_
          try rw [ekr]
          conv => whnf
          refine ⟨fun g => ?_, fun g => ?_⟩
          · simp only [sx_cc, Classical.not_not] at g
            have hne : ¬ fHdr s1 = 4 := by omega
            skip
            conv => whnf
            refine ⟨Nat.le_of_ble_eq_true rfl, Nat.le_of_ble_eq_true rfl, (by first | assumption | rfl), ?_⟩
            refine r_cnt e51 z2 (fun hk9 => ?_) (fun hk9 => ?_)
            · skip
              conv => whnf
              refine ⟨fun g => ?_, fun g => ?_⟩
              · skip
                conv => whnf
                refine ⟨Nat.le_of_ble_eq_true rfl, Nat.le_of_ble_eq_true rfl, (by first | assumption | rfl), ?_⟩
                refine r_waits (rQ_up q3 (by unfold FRd; omega)) (n := s1 32 11) (by rw [up_n (by omega)]; omega) (by omega) ?_
                conv => whnf
                refine ⟨(by first | assumption | rfl), by omega, ?_⟩
                try simp (disch := omega) only [Int.cast_ofNat_Int, up_s, up_a, up_i, mp_a, mp_ge]
                try simp only [w50]
                try simp only [b1]
                try simp only [e50]
                try simp only [e51]
                try simp only [t46]
                try simp only [ekk]
                try simp only [lk_142]
                conv => whnf
                refine ⟨Nat.le_of_ble_eq_true rfl, Nat.le_of_ble_eq_true rfl, ?_⟩
                refine r_rank ?_
                try rw [ekr]
                conv => whnf
                refine ⟨fun g => ?_, fun g => ?_⟩
                · simp only [sx_cc, Classical.not_not] at g
                  conv => whnf
                  refine ⟨(by first | assumption | rfl), by omega, ?_⟩
                  try simp (disch := omega) only [Int.cast_ofNat_Int, up_s, up_a, up_i, mp_a, mp_ge]
                  try simp only [w50]
                  try simp only [b1]
                  try simp only [e50]
                  try simp only [e51]
                  try simp only [t46]
                  try simp only [ekk]
                  try simp only [lk_142]
                  conv => whnf
                  refine ⟨Nat.le_of_ble_eq_true rfl, Nat.le_of_ble_eq_true rfl, (by first | assumption | rfl), ?_⟩
                  refine r_tok (tx := tx) (n9 := n9) (i := i) (by repeat (first | exact q3 | refine rQ_up ?_ (by unfold FRd; omega))) (fun σ9 hf9 hq9 => ?_)
                  conv => whnf
                  refine ⟨fun q9 => by first | (simp at q9; done) | omega, ?_⟩
                  rcases hout with ⟨hz, h5, h6, es⟩ | ⟨hz, h5, h6, h7⟩ | ⟨hz, h5, h6, h7⟩
                  · skip
                    have hJ := eInv_rel hp (by first | exact hk1 | exact hr1) hI hr
                    have hCr := eC_rel hp (by first | exact hk1 | exact hr1) hI hr hc0 h13 B3 f3
                    refine hS hz _ (by
                      rw [es]
                      exact eC_push (s := s1) (r := σ3) (t := kT tx n9 i) hCr hJ.1 (by rw [up_n (by omega), up_s]) (fun j z => by rw [up_n (by omega), up_n (by omega), up_n (by omega), up_n (by omega)]) (by rw [up_n (by omega), up_n (by omega), up_s]) (by rw [up_n (by omega), up_n (by omega), up_n (by omega), up_n (by omega)]) (funext fun j => by rw [up_n (by omega), up_n (by omega), up_n (by omega), up_n (by omega)]) (funext fun j => by rw [up_n (by omega), up_n (by omega), up_n (by omega), up_n (by omega)]) (by rw [hf9 _ _ (by unfold FRt; omega), up_n (by omega), up_n (by omega), up_s]) (by rw [hf9 _ _ (by unfold FRt; omega), up_n (by omega), up_n (by omega), up_n (by omega), up_s]) (fun j z => by rw [hf9 _ _ (by unfold FRt; omega), up_n (by omega), up_n (by omega), up_n (by omega), up_n (by omega), up_n (by omega)]) (fun a j z => by rw [hf9 _ _ (by unfold FRt; omega), up_n (by omega), up_n (by omega), up_n (by omega), up_n (by omega), up_n (by omega)])
                        (by rw [hf9 _ _ (by unfold FRt; omega), up_n (by omega), up_n (by omega), up_n (by omega), up_n (by omega), up_n (by omega), up_n (by omega), up_n (by omega), up_n (by omega), up_n (by omega)]; exact hCr.2.2.1) (by rw [hf9 _ _ (by unfold FRt; omega), up_n (by omega), up_n (by omega), up_n (by omega), up_n (by omega), up_s, up_n (by omega), up_n (by omega), up_n (by omega), up_s]; omega) (by rw [hf9 _ _ (by unfold FRt; omega), up_n (by omega), up_s, up_s]) (fun _ => by
                          rw [hf9 _ _ (by unfold FRt; omega), up_s, fHdr_push (s := s1) (i := kT tx n9 i) (by rw [up_n (by omega), up_s]) (by omega) (by rw [up_n (by omega), up_n (by omega), up_s])]
                          have h39 : ¬ fRk (kT tx n9 i) = 3 := fun z => h19 (fRk_3 z)
                          omega)) hq9 (fun a j z9 => by unfold FEs at z9; rw [hf9 a j (by unfold FRt; omega)]; (repeat (first | rw [up_n (by omega)])); exact f3 a j (by unfold FEb; omega))
                  · omega
                  · omega
                · simp only [sx_cc, Classical.not_not] at g
                  conv => whnf
                  refine ⟨(by first | assumption | rfl), by omega, ?_⟩
                  try simp (disch := omega) only [Int.cast_ofNat_Int, up_s, up_a, up_i, mp_a, mp_ge]
                  try simp only [w50]
                  try simp only [b1]
                  try simp only [e50]
                  try simp only [e51]
                  try simp only [t46]
                  try simp only [ekk]
                  try simp only [lk_142]
                  conv => whnf
                  refine ⟨Nat.le_of_ble_eq_true rfl, Nat.le_of_ble_eq_true rfl, (by first | assumption | rfl), ?_⟩
                  refine r_tok (tx := tx) (n9 := n9) (i := i) (by repeat (first | exact q3 | refine rQ_up ?_ (by unfold FRd; omega))) (fun σ9 hf9 hq9 => ?_)
                  conv => whnf
                  refine ⟨fun q9 => by first | (simp at q9; done) | omega, ?_⟩
                  rcases hout with ⟨hz, h5, h6, es⟩ | ⟨hz, h5, h6, h7⟩ | ⟨hz, h5, h6, h7⟩
                  · skip
                    have hJ := eInv_rel hp (by first | exact hk1 | exact hr1) hI hr
                    have hCr := eC_rel hp (by first | exact hk1 | exact hr1) hI hr hc0 h13 B3 f3
                    refine hS hz _ (by
                      rw [es]
                      exact eC_push (s := s1) (r := σ3) (t := kT tx n9 i) hCr hJ.1 (by rw [up_n (by omega), up_s]) (fun j z => by rw [up_n (by omega), up_n (by omega), up_n (by omega), up_n (by omega)]) (by rw [up_n (by omega), up_n (by omega), up_s]) (by rw [up_n (by omega), up_n (by omega), up_n (by omega), up_n (by omega)]) (funext fun j => by rw [up_n (by omega), up_n (by omega), up_n (by omega), up_n (by omega)]) (funext fun j => by rw [up_n (by omega), up_n (by omega), up_n (by omega), up_n (by omega)]) (by rw [hf9 _ _ (by unfold FRt; omega), up_n (by omega), up_n (by omega), up_s]) (by rw [hf9 _ _ (by unfold FRt; omega), up_n (by omega), up_n (by omega), up_n (by omega), up_s]) (fun j z => by rw [hf9 _ _ (by unfold FRt; omega), up_n (by omega), up_n (by omega), up_n (by omega), up_n (by omega), up_n (by omega)]) (fun a j z => by rw [hf9 _ _ (by unfold FRt; omega), up_n (by omega), up_n (by omega), up_n (by omega), up_n (by omega), up_n (by omega)])
                        (by rw [hf9 _ _ (by unfold FRt; omega), up_n (by omega), up_n (by omega), up_n (by omega), up_n (by omega), up_n (by omega), up_n (by omega), up_n (by omega), up_n (by omega), up_n (by omega)]; exact hCr.2.2.1) (by rw [hf9 _ _ (by unfold FRt; omega), up_n (by omega), up_n (by omega), up_n (by omega), up_n (by omega), up_s, up_n (by omega), up_n (by omega), up_n (by omega), up_s]; omega) (by rw [hf9 _ _ (by unfold FRt; omega), up_n (by omega), up_s, up_s]) (fun _ => by
                          rw [hf9 _ _ (by unfold FRt; omega), up_s, fHdr_push (s := s1) (i := kT tx n9 i) (by rw [up_n (by omega), up_s]) (by omega) (by rw [up_n (by omega), up_n (by omega), up_s])]
                          have h39 : ¬ fRk (kT tx n9 i) = 3 := fun z => h19 (fRk_3 z)
                          omega)) hq9 (fun a j z9 => by unfold FEs at z9; rw [hf9 a j (by unfold FRt; omega)]; (repeat (first | rw [up_n (by omega)])); exact f3 a j (by unfold FEb; omega))
                  · omega
                  · omega
              · exact absurd g (by simp [sx_cc])
            · skip
              conv => whnf
              refine ⟨fun g => ?_, fun g => ?_⟩
              · exact absurd g (by simp [sx_cc])
              · skip
                conv => whnf
                refine ⟨fun q9 => by first | (simp at q9; done) | omega, ?_⟩
                rcases hout with ⟨hz, h5, h6, _⟩ | ⟨hz, h5, h6, h7⟩ | ⟨hz, h5, h6, h7⟩
                · omega
                · omega
                · refine hF hz _ (fun a j z9 => by unfold FEq at z9; rw [up_n (by omega), up_n (by omega)]; exact f3 a j (by unfold FEb; omega)) ⟨by rw [up_n (by omega), up_s, h7], by rw [up_s, f3 _ _ (by unfold FEb; omega), ha]⟩
          · simp only [sx_cc, Classical.not_not] at g
            have hhd : fHdr s1 = 4 := by omega
            skip
            conv => whnf
            refine ⟨Nat.le_of_ble_eq_true rfl, Nat.le_of_ble_eq_true rfl, (by first | assumption | rfl), ?_⟩
            refine r_wrong ?_
            conv => whnf
            refine ⟨fun q9 => by first | (simp at q9; done) | omega, ?_⟩
            rcases hout with ⟨hz, h5, _⟩ | ⟨hz, h5, h6, h7⟩ | ⟨hz, h5, _⟩
            · exact absurd ⟨by omega, hhd⟩ h5
            · refine hF hz _ (fun a j z9 => by unfold FEq at z9; rw [up_n (by omega), up_n (by omega)]; exact f3 a j (by unfold FEb; omega)) ⟨by rw [up_n (by omega), up_s, h7], by rw [up_s, f3 _ _ (by unfold FEb; omega), ha]⟩
            · exact absurd ⟨by omega, hhd⟩ h5
end SXR8
