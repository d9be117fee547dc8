/-! A LAW IS TOLD, class side (by wip/whole) -/
section SXP8
variable {X : sx_X} {Q : sx_R} {σ σ0 σ' σ1 σ2 : sx_S} {tx : Int → Int} {n9 p i : Int} {F : Option (Int × Int)}
theorem fOpn_cg {r r' : Int → Int} : ∀ k : Nat, (∀ j : Int, 0 ≤ j → j < k → r' j = r j) → fOpn r' k = fOpn r k
  | 0, _ => rfl
  | k + 1, h => by
    show fOpn r' k + (if r' (k : Int) = 23 then 1 else 0) = fOpn r k + (if r (k : Int) = 23 then 1 else 0)
    rw [fOpn_cg k (fun j y0 y1 => h j y0 (by omega)), h k (by omega) (by omega)]
theorem fOpn_s {r : Int → Int} {n : Int} (h : 0 ≤ n) : fOpn r (n + 1).toNat = fOpn r n.toNat + if r n = 23 then 1 else 0 := by
  rw [show (n + 1).toNat = n.toNat + 1 by omega]
  show fOpn r n.toNat + (if r ((n.toNat : Nat) : Int) = 23 then 1 else 0) = _
  rw [show ((n.toNat : Nat) : Int) = n by omega]
theorem fOpn_pop {r : Int → Int} {n : Int} : ∀ m : Nat, (m : Int) ≤ n → (∀ j : Int, n - m ≤ j → j < n → ¬ r j = 23) → fOpn r n.toNat = fOpn r (n - m).toNat
  | 0, _, _ => by rw [show n - ((0 : Nat) : Int) = n by omega]
  | m + 1, h, ha => by
    rw [fOpn_pop m (by omega) (fun j y0 y1 => ha j (by omega) y1)]
    have h1 := fOpn_s (r := r) (n := n - (m + 1 : Nat)) (by omega)
    rw [if_neg (ha _ (by omega) (by omega)), show n - ((m + 1 : Nat) : Int) + 1 = n - (m : Int) by omega] at h1
    omega
theorem fRk_23 {t : Int} (h : pSn t) (h1 : fRk t < 1) : t = 23 := by
  unfold pSn at h
  unfold fRk at h1
  repeat' split at h1
  all_goals omega
theorem fRk_n23 {t k : Int} (hk : 1 ≤ k) (h1 : k ≤ fRk t) : ¬ t = 23 := by
  intro z
  rw [z, show fRk 23 = 0 from rfl] at h1
  omega
theorem fRk_sn {t : Int} (h1 : 1 ≤ fRk t) : pSn t ∧ ¬ t = 23 := by
  unfold fRk at h1
  unfold pSn
  repeat' split at h1
  all_goals omega
theorem fR5_1 {r : Int} (h : 1 ≤ r) : 1 ≤ fR5 r := by unfold fR5; split <;> omega
theorem eInv_fr (h : eInv p σ) (hf : fr FXa σ σ') (hp : 2 ≤ p ∧ p ≤ 17) : eInv p σ' := by
  unfold eInv
  rw [hf 32 11 (by unfold FXa; omega), hf 32 14 (by unfold FXa; omega), hf p 14 (by unfold FXa; omega), hf 32 12 (by unfold FXa; omega), hf 32 13 (by unfold FXa; omega), show σ' 36 = σ 36 from funext fun j => hf 36 j (by unfold FXa; omega)]
  exact h
/-- what letting go keeps -/
theorem rel_inv {s1 : sx_S} {m k : Int} (hp : 2 ≤ p ∧ p ≤ 17) (hk : 1 ≤ k) (hI : eInv p σ) (hr : pRel p k σ s1 m) : s1 36 = σ 36 ∧ s1 32 12 = σ 32 12 ∧ s1 32 13 = σ 32 13 ∧ s1 p 14 = σ p 14 ∧ s1 32 14 = σ 32 14 + m ∧ s1 32 11 = σ 32 11 - m ∧ fOpn (σ 36) (σ 32 11 - m).toNat = σ 32 12 ∧ (0 ≤ m ∧ m ≤ σ 32 11) ∧ s1 32 14 + (s1 32 11 - σ 32 12) = σ p 14 := by
  obtain ⟨z0, z1, z2, z3, z4, z5, z6, z7⟩ := hI
  obtain ⟨r0, r1, r2, r3, r4, r5, r6⟩ := hr
  have hpop := fOpn_pop (r := σ 36) (n := σ 32 11) m.toNat (by omega) (fun j y0 y1 => fRk_n23 hk (r3 j (by omega) y1))
  rw [show σ 32 11 - ((m.toNat : Nat) : Int) = σ 32 11 - m by omega] at hpop
  have hb := fOpn_bd (row := σ 36) (σ 32 11 - m).toNat
  have r7 := (r6 (by omega)).1
  refine ⟨funext fun j => r1 36 j (by unfold FRl; omega), r1 _ _ (by unfold FRl; omega), r1 _ _ (by unfold FRl; omega), r1 _ _ (by unfold FRl; omega), r7, r2, by omega, by omega, by omega⟩
/-- a sign more is held -/
theorem eInv_push (hp : 2 ≤ p ∧ p ≤ 17) (hI : eInv p σ) {t d o : Int} (ht : pSn t) (ho : o = if t = 23 then 1 else 0) (hd : σ p 14 + d ≤ 64 ∧ d = 1 - o) (h8 : σ 32 12 + o ≤ 8) (e11 : σ' 32 11 = σ 32 11 + 1) (e12 : σ' 32 12 = σ 32 12 + o) (e14 : σ' p 14 = σ p 14 + d) (ea : ∀ a j : Int, a = 32 ∧ (j = 13 ∨ j = 14) → σ' a j = σ a j) (er : ∀ j : Int, ¬ j = σ 32 11 → σ' 36 j = σ 36 j) (en : σ' 36 (σ 32 11) = t) : eInv p σ' := by
  obtain ⟨z0, z1, z2, z3, z4, z5, z6, z7⟩ := hI
  have ho2 : 0 ≤ o ∧ o ≤ 1 := by rw [ho]; split <;> omega
  have h1 := fOpn_s (r := σ' 36) (n := σ 32 11) z0
  rw [en, ← ho, fOpn_cg (r := σ 36) (σ 32 11).toNat (fun j y0 y1 => er j (by omega))] at h1
  unfold eInv
  rw [e11, e12, e14, ea 32 14 (by omega), ea 32 13 (by omega), h1]
  refine ⟨by omega, z1, by omega, by omega, by omega, by omega, fun j y0 y1 => ?_, z7⟩
  by_cases e9 : j = σ 32 11
  · rw [e9, en]; exact ht
  · rw [er j e9]; exact z6 j y0 (by omega)
theorem eInv_opd (hp : 2 ≤ p ∧ p ≤ 17) {t v : Int} (hI : eInv p σ) (h : zOpd p σ σ' t v) : eInv p σ' := by
  have hI0 := hI
  obtain ⟨z0, z1, z2, z3, z4, z5, z6, z7⟩ := hI
  rcases h with ⟨h1, h2, h3, rfl⟩ | ⟨h1, h2, h3, rfl⟩ | ⟨h1, h3, rfl⟩ | ⟨h1, h2, h3, rfl⟩
  · have e36 : ∀ j : Int, (sx_up (sx_up (sx_up (sx_up (sx_up σ p 14 (σ p 14 + 1)) (p + 11) (σ 32 14) 21) (p + 12) (σ 32 14) v) 32 14 (σ 32 14 + 1)) 32 13 0) 36 j = σ 36 j := fun j => by rw [up_n (by omega), up_n (by omega), up_n (by omega), up_n (by omega), up_n (by omega)]
    have er := funext e36
    unfold eInv
    rw [er]
    rw [show (sx_up (sx_up (sx_up (sx_up (sx_up σ p 14 (σ p 14 + 1)) (p + 11) (σ 32 14) 21) (p + 12) (σ 32 14) v) 32 14 (σ 32 14 + 1)) 32 13 0) 32 11 = σ 32 11 by rw [up_n (by omega), up_n (by omega), up_n (by omega), up_n (by omega), up_n (by omega)],
      show (sx_up (sx_up (sx_up (sx_up (sx_up σ p 14 (σ p 14 + 1)) (p + 11) (σ 32 14) 21) (p + 12) (σ 32 14) v) 32 14 (σ 32 14 + 1)) 32 13 0) 32 14 = σ 32 14 + 1 by rw [up_n (by omega), up_s],
      show (sx_up (sx_up (sx_up (sx_up (sx_up σ p 14 (σ p 14 + 1)) (p + 11) (σ 32 14) 21) (p + 12) (σ 32 14) v) 32 14 (σ 32 14 + 1)) 32 13 0) p 14 = σ p 14 + 1 by rw [up_n (by omega), up_n (by omega), up_n (by omega), up_n (by omega), up_s],
      show (sx_up (sx_up (sx_up (sx_up (sx_up σ p 14 (σ p 14 + 1)) (p + 11) (σ 32 14) 21) (p + 12) (σ 32 14) v) 32 14 (σ 32 14 + 1)) 32 13 0) 32 12 = σ 32 12 by rw [up_n (by omega), up_n (by omega), up_n (by omega), up_n (by omega), up_n (by omega)],
      show (sx_up (sx_up (sx_up (sx_up (sx_up σ p 14 (σ p 14 + 1)) (p + 11) (σ 32 14) 21) (p + 12) (σ 32 14) v) 32 14 (σ 32 14 + 1)) 32 13 0) 32 13 = 0 by rw [up_s]]
    exact ⟨z0, by omega, by omega, by omega, z4, z5, z6, Or.inl rfl⟩
  · have e36 : ∀ j : Int, (sx_up (sx_up (sx_up (sx_up (sx_up σ p 14 (σ p 14 + 1)) (p + 11) (σ 32 14) t) (p + 12) (σ 32 14) 0) 32 14 (σ 32 14 + 1)) 32 13 0) 36 j = σ 36 j := fun j => by rw [up_n (by omega), up_n (by omega), up_n (by omega), up_n (by omega), up_n (by omega)]
    have er := funext e36
    unfold eInv
    rw [er]
    rw [show (sx_up (sx_up (sx_up (sx_up (sx_up σ p 14 (σ p 14 + 1)) (p + 11) (σ 32 14) t) (p + 12) (σ 32 14) 0) 32 14 (σ 32 14 + 1)) 32 13 0) 32 11 = σ 32 11 by rw [up_n (by omega), up_n (by omega), up_n (by omega), up_n (by omega), up_n (by omega)],
      show (sx_up (sx_up (sx_up (sx_up (sx_up σ p 14 (σ p 14 + 1)) (p + 11) (σ 32 14) t) (p + 12) (σ 32 14) 0) 32 14 (σ 32 14 + 1)) 32 13 0) 32 14 = σ 32 14 + 1 by rw [up_n (by omega), up_s],
      show (sx_up (sx_up (sx_up (sx_up (sx_up σ p 14 (σ p 14 + 1)) (p + 11) (σ 32 14) t) (p + 12) (σ 32 14) 0) 32 14 (σ 32 14 + 1)) 32 13 0) p 14 = σ p 14 + 1 by rw [up_n (by omega), up_n (by omega), up_n (by omega), up_n (by omega), up_s],
      show (sx_up (sx_up (sx_up (sx_up (sx_up σ p 14 (σ p 14 + 1)) (p + 11) (σ 32 14) t) (p + 12) (σ 32 14) 0) 32 14 (σ 32 14 + 1)) 32 13 0) 32 12 = σ 32 12 by rw [up_n (by omega), up_n (by omega), up_n (by omega), up_n (by omega), up_n (by omega)],
      show (sx_up (sx_up (sx_up (sx_up (sx_up σ p 14 (σ p 14 + 1)) (p + 11) (σ 32 14) t) (p + 12) (σ 32 14) 0) 32 14 (σ 32 14 + 1)) 32 13 0) 32 13 = 0 by rw [up_s]]
    exact ⟨z0, by omega, by omega, by omega, z4, z5, z6, Or.inl rfl⟩
  · exact eInv_push hp hI0 (t := 23) (d := 0) (o := 1) (by decide) (by decide) (by omega) (by omega) (by rw [up_s]) (by rw [up_n (by omega), up_n (by omega), up_s]) (by rw [up_n (by omega), up_n (by omega), up_n (by omega)]; omega) (fun a j z9 => by rw [up_n (by omega), up_n (by omega), up_n (by omega)]) (fun j z9 => by rw [up_n (by omega), up_n (by omega), up_n (by omega)]) (by rw [up_n (by omega), up_s])
  · exact eInv_push hp hI0 (t := 19) (d := 1) (o := 0) (by decide) (by decide) (by omega) (by omega) (by rw [up_s]) (by rw [up_n (by omega), up_n (by omega), up_n (by omega)]; omega) (by rw [up_n (by omega), up_n (by omega), up_s]) (fun a j z9 => by rw [up_n (by omega), up_n (by omega), up_n (by omega)]) (fun j z9 => by rw [up_n (by omega), up_n (by omega), up_n (by omega)]) (by rw [up_n (by omega), up_s])
theorem eInv_rel {s1 : sx_S} {m k : Int} (hp : 2 ≤ p ∧ p ≤ 17) (hk : 1 ≤ k) (hI : eInv p σ) (hr : pRel p k σ s1 m) : eInv p s1 := by
  obtain ⟨a1, a2, a3, a4, a5, a6, a7, a8, a9⟩ := rel_inv hp hk hI hr
  obtain ⟨z0, z1, z2, z3, z4, z5, z6, z7⟩ := hI
  unfold eInv
  rw [a1, a2, a3, a4, a5, a6, a7]
  exact ⟨by omega, by omega, z2, by omega, rfl, z5, fun j y0 y1 => z6 j y0 (by omega), z7⟩
theorem eInv_opt (hp : 2 ≤ p ∧ p ≤ 17) {t : Int} (hI : eInv p σ) (h : zOpt p σ σ' t) : eInv p σ' := by
  rcases h with ⟨h1, h2, s1, m, hr, hn, rfl⟩ | ⟨h1, h2, s1, m, hr, h3, h4, rfl⟩
  · have hJ := eInv_rel hp (by decide) hI hr
    obtain ⟨a1, a2, a3, a4, a5, a6, a7, a8, a9⟩ := rel_inv hp (by decide) hI hr
    obtain ⟨z0, z1, z2, z3, z4, z5, z6, z7⟩ := hJ
    obtain ⟨r0, r1, r2, r3, r4, r5, r6⟩ := hr
    have e23 : s1 36 (s1 32 11 - 1) = 23 := fRk_23 (z6 _ (by omega) (by omega)) (by
      rcases r4 with r4 | r4
      · omega
      · rw [a1, a6]; exact r4)
    have h5 := fOpn_s (r := s1 36) (n := s1 32 11 - 1) (by omega)
    rw [e23, if_pos rfl, show s1 32 11 - 1 + 1 = s1 32 11 by omega] at h5
    unfold eInv
    rw [show (sx_up (sx_up s1 32 11 (s1 32 11 - 1)) 32 12 (σ 32 12 - 1)) 36 = s1 36 from funext fun j => by rw [up_n (by omega), up_n (by omega)], show (sx_up (sx_up s1 32 11 (s1 32 11 - 1)) 32 12 (σ 32 12 - 1)) 32 11 = s1 32 11 - 1 by rw [up_n (by omega), up_s], show (sx_up (sx_up s1 32 11 (s1 32 11 - 1)) 32 12 (σ 32 12 - 1)) 32 12 = σ 32 12 - 1 by rw [up_s], show (sx_up (sx_up s1 32 11 (s1 32 11 - 1)) 32 12 (σ 32 12 - 1)) 32 14 = s1 32 14 by rw [up_n (by omega), up_n (by omega)], show (sx_up (sx_up s1 32 11 (s1 32 11 - 1)) 32 12 (σ 32 12 - 1)) 32 13 = s1 32 13 by rw [up_n (by omega), up_n (by omega)], show (sx_up (sx_up s1 32 11 (s1 32 11 - 1)) 32 12 (σ 32 12 - 1)) p 14 = s1 p 14 by rw [up_n (by omega), up_n (by omega)]]
    exact ⟨by omega, z1, z2, by omega, by omega, by omega, fun j y0 y1 => z6 j y0 (by omega), z7⟩
  · have hk := fR5_1 h1
    have hJ := eInv_rel hp hk hI hr
    obtain ⟨a1, a2, a3, a4, a5, a6, a7, a8, a9⟩ := rel_inv hp hk hI hr
    have hs := fRk_sn h1
    have hI8 := hI.2.2.2.2.2.1
    have hpz : eInv p (sx_up (sx_up (sx_up s1 p 14 (s1 p 14 + 1)) 36 (s1 32 11) t) 32 11 (s1 32 11 + 1)) := eInv_push hp hJ (t := t) (d := 1) (o := 0) hs.1 (by rw [if_neg hs.2]) (by omega) (by omega) (by rw [up_s]) (by rw [up_n (by omega), up_n (by omega), up_n (by omega)]; omega) (by rw [up_n (by omega), up_n (by omega), up_s]) (fun a j z9 => by rw [up_n (by omega), up_n (by omega), up_n (by omega)]) (fun j z9 => by rw [up_n (by omega), up_n (by omega), up_n (by omega)]) (by rw [up_n (by omega), up_s])
    obtain ⟨z0, z1, z2, z3, z4, z5, z6, z7⟩ := hpz
    exact ⟨by rw [up_n (by omega)]; exact z0, by rw [up_n (by omega)]; exact z1, by rw [up_n (by omega)]; exact z2, by rw [up_n (a := 32) (b := 32) (j := 14) (by omega), up_n (a := 32) (b := 32) (j := 11) (by omega), up_n (a := 32) (b := p) (by omega), show (sx_up (sx_up (sx_up (sx_up s1 p 14 (s1 p 14 + 1)) 36 (s1 32 11) t) 32 11 (s1 32 11 + 1)) 32 13 1) 36 = (sx_up (sx_up (sx_up s1 p 14 (s1 p 14 + 1)) 36 (s1 32 11) t) 32 11 (s1 32 11 + 1)) 36 from funext fun j => by rw [up_n (by omega)]]; exact z3, by rw [up_n (a := 32) (b := 32) (j := 11) (by omega), up_n (a := 32) (b := 32) (j := 12) (by omega), show (sx_up (sx_up (sx_up (sx_up s1 p 14 (s1 p 14 + 1)) 36 (s1 32 11) t) 32 11 (s1 32 11 + 1)) 32 13 1) 36 = (sx_up (sx_up (sx_up s1 p 14 (s1 p 14 + 1)) 36 (s1 32 11) t) 32 11 (s1 32 11 + 1)) 36 from funext fun j => by rw [up_n (by omega)]]; exact z4, by rw [up_n (by omega)]; exact z5, fun j y0 y1 => by rw [up_n (by omega)] at y1 ⊢; exact z6 j y0 y1, Or.inr up_s⟩
end SXP8
