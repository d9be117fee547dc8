/-! WHAT A LAW'S TELLING LEAVES (by wip/whole) -/
section SXQ4
variable {X : sx_X} {Q : sx_R} {σ σ0 σ' σ1 σ2 s s' : sx_S} {tx : Int → Int} {n9 p i lo hi : Int} {code num : Int → Int}
theorem eStk_push {t : Int} (hp : 2 ≤ p ∧ p ≤ 17) (hn : 0 ≤ s 32 11) (hk : eStk p s lo) (e11 : s' 32 11 = s 32 11 + 1) (e14 : s' 32 14 = s 32 14) (er : ∀ j : Int, ¬ j = s 32 11 → s' 36 j = s 36 j) (et : s' 36 (s 32 11) = t) (ec : s' (p + 11) = s (p + 11)) (em : s' (p + 12) = s (p + 12)) (hd : (if t = 19 ∨ t = 23 then (0 : Int) else 1) + (if s' 32 13 = 0 then 1 else 0) = if s 32 13 = 0 then 1 else 0) (hz : s' 32 13 = 0 → s 32 13 = 0) : eStk p s' lo := by
  obtain ⟨k0, k1, k2, k3⟩ := hk
  have h1 := fBn_s (r := s' 36) (n := s 32 11) hn
  rw [et, fBn_cg (r := s 36) (s 32 11).toNat (fun j y0 y1 => er j (by omega))] at h1
  unfold eStk
  rw [e11, e14, ec, em, h1]
  exact ⟨k0, k1, by omega, fun z => k3 (hz z)⟩
theorem eStk_step {j : Int} (hp : 2 ≤ p ∧ p ≤ 17) (hv : kT tx n9 j = 21 → 0 ≤ kV tx n9 j) (hI : eInv p s) (hk : eStk p s lo) (h : zStep p tx n9 s s' j) : eInv p s' ∧ eStk p s' lo ∧ fr (FEv p) s s' ∧ ∀ y : Int, y < s 32 14 → s' (p + 11) y = s (p + 11) y ∧ s' (p + 12) y = s (p + 12) y := by
  obtain ⟨h0, h1, s1, h2, hf⟩ := h
  suffices hh : eInv p s1 ∧ eStk p s1 lo ∧ fr (FEv p) s s1 ∧ ∀ y : Int, y < s 32 14 → s1 (p + 11) y = s (p + 11) y ∧ s1 (p + 12) y = s (p + 12) y by
    refine ⟨eInv_fr hh.1 hf hp, eStk_fr hp hh.2.1 (fun a y z => hf a y (by unfold FXa; omega)), fun a y z => (hf a y (by unfold FEv at z; unfold FXa; omega)).trans (hh.2.2.1 a y z), fun y y1 => ?_⟩
    rw [hf (p + 11) y (by unfold FXa; omega), hf (p + 12) y (by unfold FXa; omega)]
    exact hh.2.2.2 y y1
  have hz := hI
  obtain ⟨z0, z1, z2, z3, z4, z5, z6, z7⟩ := hz
  have hb := fBn_bd (r := s 36) (s 32 11).toNat
  rcases h2 with ⟨g13, ho⟩ | ⟨g13, ho⟩
  · refine ⟨eInv_opd hp hI ho, ?_, zOpd_fr hp ho, ?_⟩
    · rcases ho with ⟨t1, t2, t3, rfl⟩ | ⟨t1, t2, t3, rfl⟩ | ⟨t1, t3, rfl⟩ | ⟨t1, t2, t3, rfl⟩
      · exact eStk_leaf (c := 21) (v := kV tx n9 j) hp hk g13 (Or.inl rfl) (fun _ => ⟨hv t1, t2⟩) (by omega) (by rw [up_n (by omega), up_n (by omega), up_n (by omega), up_n (by omega), up_n (by omega)]) up_s (by rw [up_n (by omega), up_s]) (funext fun y => by rw [up_n (by omega), up_n (by omega), up_n (by omega), up_n (by omega), up_n (by omega)]) (fun y => by
          rw [up_n (by omega), up_n (by omega), up_n (by omega)]
          by_cases e9 : y = s 32 14
          · rw [if_pos e9, e9, up_s]
          · rw [if_neg e9, up_n (by omega), up_n (by omega)]) (fun y => by
          rw [up_n (by omega), up_n (by omega)]
          by_cases e9 : y = s 32 14
          · rw [if_pos e9, e9, up_s]
          · rw [if_neg e9, up_n (by omega), up_n (by omega), up_n (by omega)])
      · exact eStk_leaf (c := kT tx n9 j) (v := 0) hp hk g13 (Or.inr ⟨t1, t2⟩) (fun z => by omega) (by omega) (by rw [up_n (by omega), up_n (by omega), up_n (by omega), up_n (by omega), up_n (by omega)]) up_s (by rw [up_n (by omega), up_s]) (funext fun y => by rw [up_n (by omega), up_n (by omega), up_n (by omega), up_n (by omega), up_n (by omega)]) (fun y => by
          rw [up_n (by omega), up_n (by omega), up_n (by omega)]
          by_cases e9 : y = s 32 14
          · rw [if_pos e9, e9, up_s]
          · rw [if_neg e9, up_n (by omega), up_n (by omega)]) (fun y => by
          rw [up_n (by omega), up_n (by omega)]
          by_cases e9 : y = s 32 14
          · rw [if_pos e9, e9, up_s]
          · rw [if_neg e9, up_n (by omega), up_n (by omega), up_n (by omega)])
      · have e13 : (sx_up (sx_up (sx_up s 32 12 (s 32 12 + 1)) 36 (s 32 11) 23) 32 11 (s 32 11 + 1)) 32 13 = s 32 13 := by rw [up_n (by omega), up_n (by omega), up_n (by omega)]
        exact eStk_push (t := 23) hp z0 hk up_s (by rw [up_n (by omega), up_n (by omega), up_n (by omega)]) (fun y e9 => by rw [up_n (by omega), up_n (by omega), up_n (by omega)]) (by rw [up_n (by omega), up_s]) (funext fun y => by rw [up_n (by omega), up_n (by omega), up_n (by omega)]) (funext fun y => by rw [up_n (by omega), up_n (by omega), up_n (by omega)]) (by rw [e13, if_pos (Or.inr rfl)]; omega) (fun z => by rw [e13] at z; exact z)
      · have e13 : (sx_up (sx_up (sx_up s p 14 (s p 14 + 1)) 36 (s 32 11) 19) 32 11 (s 32 11 + 1)) 32 13 = s 32 13 := by rw [up_n (by omega), up_n (by omega), up_n (by omega)]
        exact eStk_push (t := 19) hp z0 hk up_s (by rw [up_n (by omega), up_n (by omega), up_n (by omega)]) (fun y e9 => by rw [up_n (by omega), up_n (by omega), up_n (by omega)]) (by rw [up_n (by omega), up_s]) (funext fun y => by rw [up_n (by omega), up_n (by omega), up_n (by omega)]) (funext fun y => by rw [up_n (by omega), up_n (by omega), up_n (by omega)]) (by rw [e13, if_pos (Or.inl rfl)]; omega) (fun z => by rw [e13] at z; exact z)
    · intro y y1
      rcases ho with ⟨t1, t2, t3, rfl⟩ | ⟨t1, t2, t3, rfl⟩ | ⟨t1, t3, rfl⟩ | ⟨t1, t2, t3, rfl⟩
      · constructor <;> rw [up_n (by omega), up_n (by omega), up_n (by omega), up_n (by omega), up_n (by omega)]
      · constructor <;> rw [up_n (by omega), up_n (by omega), up_n (by omega), up_n (by omega), up_n (by omega)]
      · constructor <;> rw [up_n (by omega), up_n (by omega), up_n (by omega)]
      · constructor <;> rw [up_n (by omega), up_n (by omega), up_n (by omega)]
  · refine ⟨eInv_opt hp hI ho, ?_, zOpt_fr hp ho, ?_⟩
    · rcases ho with ⟨t1, t2, s2, m, hr, hn, rfl⟩ | ⟨t1, t2, s2, m, hr, t3, t4, rfl⟩
      · have hJ := eInv_rel hp (by decide) hI hr
        have hS := eStk_rel hp (by decide) hI hr hk g13
        obtain ⟨a1, a2, a3, a4, a5, a6, a7, a8, a9⟩ := rel_inv hp (by decide) hI hr
        obtain ⟨y0, y1, y2, y3, y4, y5, y6, y7⟩ := hJ
        have r4 := hr.2.2.2.2.1
        have e23 : s2 36 (s2 32 11 - 1) = 23 := fRk_23 (y6 _ (by omega) (by omega)) (by
          rcases r4 with r4 | r4
          · omega
          · rw [a1, a6]; exact r4)
        have h5 := fBn_s (r := s2 36) (n := s2 32 11 - 1) (by omega)
        rw [e23, if_pos (Or.inr rfl), show s2 32 11 - 1 + 1 = s2 32 11 by omega] at h5
        obtain ⟨k0, k1, k2, k3⟩ := hS
        refine ⟨?_, ?_, ?_, ?_⟩
        · rw [up_n (by omega), up_n (by omega)]; exact k0
        · rw [up_n (by omega), up_n (by omega), show (sx_up (sx_up s2 32 11 (s2 32 11 - 1)) 32 12 (s 32 12 - 1)) (p + 11) = s2 (p + 11) from funext fun y => by rw [up_n (by omega), up_n (by omega)], show (sx_up (sx_up s2 32 11 (s2 32 11 - 1)) 32 12 (s 32 12 - 1)) (p + 12) = s2 (p + 12) from funext fun y => by rw [up_n (by omega), up_n (by omega)]]; exact k1
        · rw [show (sx_up (sx_up s2 32 11 (s2 32 11 - 1)) 32 12 (s 32 12 - 1)) (p + 11) = s2 (p + 11) from funext fun y => by rw [up_n (by omega), up_n (by omega)], show (sx_up (sx_up s2 32 11 (s2 32 11 - 1)) 32 12 (s 32 12 - 1)) 36 = s2 36 from funext fun y => by rw [up_n (by omega), up_n (by omega)], show (sx_up (sx_up s2 32 11 (s2 32 11 - 1)) 32 12 (s 32 12 - 1)) 32 14 = s2 32 14 by rw [up_n (by omega), up_n (by omega)], show (sx_up (sx_up s2 32 11 (s2 32 11 - 1)) 32 12 (s 32 12 - 1)) 32 13 = s2 32 13 by rw [up_n (by omega), up_n (by omega)], show (sx_up (sx_up s2 32 11 (s2 32 11 - 1)) 32 12 (s 32 12 - 1)) 32 11 = s2 32 11 - 1 by rw [up_n (by omega), up_s]]
          omega
        · rw [show (sx_up (sx_up s2 32 11 (s2 32 11 - 1)) 32 12 (s 32 12 - 1)) (p + 11) = s2 (p + 11) from funext fun y => by rw [up_n (by omega), up_n (by omega)], show (sx_up (sx_up s2 32 11 (s2 32 11 - 1)) 32 12 (s 32 12 - 1)) 32 14 = s2 32 14 by rw [up_n (by omega), up_n (by omega)], show (sx_up (sx_up s2 32 11 (s2 32 11 - 1)) 32 12 (s 32 12 - 1)) 32 13 = s2 32 13 by rw [up_n (by omega), up_n (by omega)]]
          exact k3
      · have hk1 := fR5_1 t1
        have hS := eStk_rel hp hk1 hI hr hk g13
        obtain ⟨a1, a2, a3, a4, a5, a6, a7, a8, a9⟩ := rel_inv hp hk1 hI hr
        have hsn := fRk_sn t1
        have e13 : (sx_up (sx_up (sx_up (sx_up s2 p 14 (s2 p 14 + 1)) 36 (s2 32 11) (kT tx n9 j)) 32 11 (s2 32 11 + 1)) 32 13 1) 32 13 = 1 := up_s
        exact eStk_push (s := s2) (t := kT tx n9 j) hp (by omega) hS (by rw [up_n (by omega), up_s]) (by rw [up_n (by omega), up_n (by omega), up_n (by omega), up_n (by omega)]) (fun y e9 => by rw [up_n (by omega), up_n (by omega), up_n (by omega), up_n (by omega)]) (by rw [up_n (by omega), up_n (by omega), up_s]) (funext fun y => by rw [up_n (by omega), up_n (by omega), up_n (by omega), up_n (by omega)]) (funext fun y => by rw [up_n (by omega), up_n (by omega), up_n (by omega), up_n (by omega)]) (by rw [e13, a3, if_pos g13, if_neg (by omega), if_neg (by omega)]; omega) (fun z => by rw [e13] at z; omega)
    · intro y y1
      rcases ho with ⟨t1, t2, s2, m, hr, hn, rfl⟩ | ⟨t1, t2, s2, m, hr, t3, t4, rfl⟩
      · constructor <;> rw [up_n (by omega), up_n (by omega)] <;> exact hr.2.1 _ _ (by unfold FRl; omega)
      · constructor <;> rw [up_n (by omega), up_n (by omega), up_n (by omega), up_n (by omega)] <;> exact hr.2.1 _ _ (by unfold FRl; omega)
theorem kI_bd (h : 0 ≤ i ∧ i ≤ n9) : ∀ m : Nat, 0 ≤ kI tx n9 m i ∧ kI tx n9 m i ≤ n9
  | 0 => h
  | m + 1 => kE_in (kI_bd h m)
/-- all along a law -/
theorem zTr_inv {E : Nat → sx_S} {m : Nat} (hp : 2 ≤ p ∧ p ≤ 17) (hn : n9 ≤ 700) (hi : 0 ≤ i ∧ i ≤ n9) (e0 : E 0 = zE0 s) (hkn : s 32 14 = s p 14) (hk6 : 0 ≤ s p 14 ∧ s p 14 ≤ 64) (h : zTr p tx n9 i E m) : ∀ c : Nat, c ≤ m → eInv p (E c) ∧ eStk p (E c) (s 32 14) ∧ fr (FEv p) s (E c) ∧ ∀ y : Int, y < s 32 14 → E c (p + 11) y = s (p + 11) y ∧ E c (p + 12) y = s (p + 12) y
  | 0, _ => by
    rw [e0]
    have c11 : (zE0 s) 32 11 = 0 := by unfold zE0; rw [up_n (by omega), up_n (by omega), up_s]
    have c12 : (zE0 s) 32 12 = 0 := by unfold zE0; rw [up_n (by omega), up_s]
    have c13 : (zE0 s) 32 13 = 1 := up_s
    have c14 : (zE0 s) 32 14 = s 32 14 := by unfold zE0; rw [up_n (by omega), up_n (by omega), up_n (by omega)]
    have cp : (zE0 s) p 14 = s p 14 := by unfold zE0; rw [up_n (by omega), up_n (by omega), up_n (by omega)]
    refine ⟨?_, ?_, fun a y z => by unfold FEv at z; unfold zE0; rw [up_n (by omega), up_n (by omega), up_n (by omega)], fun y _ => by unfold zE0; constructor <;> rw [up_n (by omega), up_n (by omega), up_n (by omega)]⟩
    · unfold eInv
      rw [c11, c12, c13, c14, cp]
      exact ⟨by decide, by omega, hk6, by rw [hkn]; show s p 14 + (0 - 0) = _; omega, rfl, by decide, fun j y0 y1 => by omega, Or.inr rfl⟩
    · unfold eStk
      rw [c11, c13, c14]
      refine ⟨by omega, fun j y0 y1 => by omega, ?_, fun z => by omega⟩
      unfold dpF
      rw [show (s 32 14 - s 32 14).toNat = 0 by omega]
      rfl
  | c + 1, hc => by
    have h1 := zTr_inv hp hn hi e0 hkn hk6 h c (by omega)
    have h2 := eStk_step hp (fun z => (kV_nn hn (kI_bd hi c) z).1) h1.1 h1.2.1 (h c (by omega))
    have k0 := h1.2.1.1
    refine ⟨h2.1, h2.2.1, fun a y z => (h2.2.2.1 a y z).trans (h1.2.2.1 a y z), fun y y1 => ?_⟩
    have h3 := h2.2.2.2 y (by omega)
    have h4 := h1.2.2.2 y y1
    exact ⟨h3.1.trans h4.1, h3.2.trans h4.2⟩
/-- at a law's end -/
theorem law_end {j : Int} (hp : 2 ≤ p ∧ p ≤ 17) (hn : n9 ≤ 700) (hi : 0 ≤ i ∧ i ≤ n9) (hkn : s 32 14 = s p 14) (hk6 : 0 ≤ s p 14 ∧ s p 14 ≤ 64) (h : zExS p tx n9 s i s' j) : s' 32 14 = s' p 14 ∧ s 32 14 < s' 32 14 ∧ s' 32 14 ≤ 64 ∧ (∀ y : Int, s 32 14 ≤ y → y < s' 32 14 → cV (s' (p + 11)) (s' (p + 12)) (s 32 14) y) ∧ dpF (s' (p + 11)) (s 32 14) (s' 32 14) = 1 ∧ ixF (s' (p + 11)) (s 32 14) (s' 32 14) 0 = s' 32 14 - 1 ∧ ∀ y : Int, y < s 32 14 → s' (p + 11) y = s (p + 11) y ∧ s' (p + 12) y = s (p + 12) y := by
  obtain ⟨E, m, e0, ht, ej, h22, h13, h12, q, hr⟩ := h
  obtain ⟨hI, hk, hf, hc⟩ := zTr_inv hp hn hi e0 hkn hk6 ht m (Nat.le_refl _)
  have hJ := eInv_rel hp (by decide) hI hr
  have hS := eStk_rel hp (by decide) hI hr hk h13
  obtain ⟨a1, a2, a3, a4, a5, a6, a7, a8, a9⟩ := rel_inv hp (by decide) hI hr
  obtain ⟨y0, y1, y2, y3, y4, y5, y6, y7⟩ := hJ
  have r4 := hr.2.2.2.2.1
  have hn0 : s' 32 11 = 0 := by
    rcases r4 with r4 | r4
    · omega
    · apply Classical.byContradiction
      intro hne
      have e23 : s' 36 (s' 32 11 - 1) = 23 := fRk_23 (y6 _ (by omega) (by omega)) (by rw [a1, a6]; exact r4)
      have h5 := fOpn_s (r := s' 36) (n := s' 32 11 - 1) (by omega)
      rw [e23, if_pos rfl, show s' 32 11 - 1 + 1 = s' 32 11 by omega] at h5
      have h6 := fOpn_bd (row := s' 36) (s' 32 11 - 1).toNat
      omega
  obtain ⟨k0, k1, k2, k3⟩ := hS
  have h13' : s' 32 13 = 0 := a3.trans h13
  have k4 := k3 h13'
  rw [hn0, if_pos h13'] at k2
  have k5 : dpF (s' (p + 11)) (s 32 14) (s' 32 14) = 1 := k2
  rw [k5] at k4
  have hkl := hk.1
  refine ⟨by omega, k4.1, by omega, k1, k5, k4.2, fun y y1 => ?_⟩
  have h7 := hc y y1
  have h8 : s' (p + 11) y = E m (p + 11) y := hr.2.1 _ _ (by unfold FRl; omega)
  have h9 : s' (p + 12) y = E m (p + 12) y := hr.2.1 _ _ (by unfold FRl; omega)
  exact ⟨h8.trans h7.1, h9.trans h7.2⟩
end SXQ4
