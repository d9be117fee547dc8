/-! LINE BY LINE: outcomes (by wip/whole) -/
section SXS2
variable {X : sx_X} {Q : sx_R} {σ σ0 σ' σ1 σ2 s s' s1 s2 r r' s3 : sx_S} {tx : Int → Int} {n9 p i lo e' : Int} {O : Option (Int × Int)}
theorem cpl_law {K e : Int} (hp : 2 ≤ p ∧ p ≤ 17) (hn : n9 ≤ 700) (hi : 0 ≤ i ∧ i ≤ n9) (hc : cpl p s r) (hw : wT p s) (hK : 0 ≤ K ∧ K < 3) (hu : ¬ s (p + 13) K < s (p + 14) K) (f2 : fr (FLw p K) s s2) (g13 : s2 (p + 13) K = s 32 14) (hx : zExS p tx n9 s2 i s3 e) (f3 : fr (FEv p) s2 s3) (hC : eC p s3 r' (s 32 14)) (hr : ∀ a j : Int, ¬ ((a = 124 ∧ (j = 4 ∨ j = 5 ∨ (7 ≤ j ∧ j ≤ 11) ∨ j = 22 ∨ (48 ≤ j ∧ j ≤ 53))) ∨ (139 ≤ a ∧ a ≤ 141 ∧ 64 + s 32 14 ≤ j) ∨ a = 142 ∨ a = 143 ∨ (136 ≤ a ∧ a ≤ 138 ∧ j = 3 + fLk K)) → r' a j = r a j) (u136 : r' 136 (3 + fLk K) = 1) (u137 : r' 137 (3 + fLk K) = s 32 14) (u138 : r' 138 (3 + fLk K) = s3 32 14) : cpl p (sx_up s3 (p + 14) K (s3 32 14)) r' := by
  obtain ⟨⟨c18, c19, c20, c21, c22, c51, c23⟩, ⟨c24, c25, c26, c27, c28, c29⟩, ck, cg, cfn, cwn, chl, chb, clw, ckn⟩ := hc
  have hwe := hw.2.2.1
  have hk6 := hw.2.1
  have hlk := hw.2.2.2.2.2.2.2.2.2.2.2.2.2
  have b1 : s2 32 14 = s 32 14 := f2 _ _ (by unfold FLw; omega)
  have b2 : s2 p 14 = s p 14 := f2 _ _ (by unfold FLw; omega)
  obtain ⟨l1, l2, l3, l4, l5, l6, l7⟩ := law_end hp hn hi (by omega) (by omega) hx
  have u : ∀ a j : Int, ¬ ((a = 32 ∧ (j = 0 ∨ j = 1 ∨ (11 ≤ j ∧ j ≤ 14))) ∨ a = 36 ∨ (a = p ∧ j = 14) ∨ (p + 11 ≤ a ∧ a ≤ p + 14) ∨ a = 33) → (sx_up s3 (p + 14) K (s3 32 14)) a j = s a j := fun a j z => by rw [up_n (by omega), f3 a j (by unfold FEv; omega), f2 a j (by unfold FLw; omega)]
  have u11 : (sx_up s3 (p + 14) K (s3 32 14)) (p + 11) = s3 (p + 11) := funext fun j => by rw [up_n (by omega)]
  have u12 : (sx_up s3 (p + 14) K (s3 32 14)) (p + 12) = s3 (p + 12) := funext fun j => by rw [up_n (by omega)]
  have u13 : ∀ k : Int, ¬ k = K → (sx_up s3 (p + 14) K (s3 32 14)) (p + 13) k = s (p + 13) k := fun k z => by rw [up_n (by omega), f3 _ _ (by unfold FEv; omega), f2 _ _ (by unfold FLw; omega)]
  have u13K : (sx_up s3 (p + 14) K (s3 32 14)) (p + 13) K = s 32 14 := by rw [up_n (by omega), f3 _ _ (by unfold FEv; omega)]; exact g13
  have u14 : ∀ k : Int, ¬ k = K → (sx_up s3 (p + 14) K (s3 32 14)) (p + 14) k = s (p + 14) k := fun k z => by rw [up_n (by omega), f3 _ _ (by unfold FEv; omega), f2 _ _ (by unfold FLw; omega)]
  have u14K : (sx_up s3 (p + 14) K (s3 32 14)) (p + 14) K = s3 32 14 := up_s
  have g11 : ∀ y : Int, y < s 32 14 → s3 (p + 11) y = s (p + 11) y := fun y z => (l7 y (by omega)).1.trans (f2 _ _ (by unfold FLw; omega))
  have g12 : ∀ y : Int, y < s 32 14 → s3 (p + 12) y = s (p + 12) y := fun y z => (l7 y (by omega)).2.trans (f2 _ _ (by unfold FLw; omega))
  have e22 := hC.2.2.2.2.2.1
  have e51 := hC.2.2.2.1
  have eko := hC.2.2.2.2.2.2.2.2.1
  have hlt : s 32 14 < s3 32 14 := by omega
  refine ⟨⟨?_, ?_, ?_, ?_, ?_, ?_, ?_⟩, ⟨?_, ?_, ?_, ?_, ?_, ?_⟩, fun c y0 y1 => ?_, fun c y0 y1 => ?_, fun f y0 y1 => ?_, fun f y0 y1 => ?_, fun f y0 y1 => ?_, fun f y0 y1 => ?_, fun k y0 y1 => ?_, fun k y y0 y1 z0 z1 => ?_⟩
  · rw [hr _ _ (by omega), u _ _ (by omega)]; exact c18
  · rw [hr _ _ (by omega), u _ _ (by omega)]; exact c19
  · rw [hr _ _ (by omega), u _ _ (by omega)]; exact c20
  · rw [hr _ _ (by omega), u _ _ (by omega)]; exact c21
  · rw [up_n (by omega)]; exact e22
  · rw [up_n (by omega)]; exact e51
  · rw [hr _ _ (by omega), u _ _ (by omega)]; exact c23
  · rw [hr _ _ (by omega), u _ _ (by omega)]; exact c24
  · rw [hr _ _ (by omega), u _ _ (by omega)]; exact c25
  · rw [hr _ _ (by omega), u _ _ (by omega)]; exact c26
  · rw [hr _ _ (by omega), u _ _ (by omega)]; exact c27
  · rw [hr _ _ (by omega), u _ _ (by omega)]; exact c28
  · rw [hr _ _ (by omega), u _ _ (by omega)]; exact c29
  · rw [hr _ _ (by omega), u _ _ (by omega)]; exact ck c y0 y1
  · rw [hr _ _ (by omega), u _ _ (by omega)]; exact cg c y0 y1
  · rw [u _ _ (by omega)] at y1
    rw [hr _ _ (by omega), u _ _ (by omega)]; exact cfn f y0 y1
  · rw [u _ _ (by omega)] at y1
    rw [hr 130 _ (by omega), hr 131 _ (by omega), hr 132 _ (by omega), hr 133 _ (by omega), hr 134 _ (by omega), u (p + 4) _ (by omega), u (p + 5) _ (by omega), u (p + 6) _ (by omega), u (p + 7) _ (by omega), u (p + 8) _ (by omega)]; exact cwn f y0 y1
  · rw [hr _ _ (by omega), u _ _ (by omega)]; exact chl f y0 y1
  · rw [hr _ _ (by omega)]; exact chb f y0 y1
  · by_cases e9 : k = K
    · rw [e9, u13K, u14K]
      exact Or.inr ⟨u136, hlt, u137, u138⟩
    · have h9 : ¬ 3 + fLk k = 3 + fLk K := fun z => e9 (fLk_inj ⟨y0, y1⟩ hK (by omega))
      rw [u13 k e9, u14 k e9, hr 136 _ (by omega), hr 137 _ (by omega), hr 138 _ (by omega)]
      exact clw k y0 y1
  · rw [u11, u12]
    by_cases e9 : k = K
    · rw [e9, u13K] at z0 ⊢
      rw [e9, u14K] at z1
      exact eko y z0 z1
    · rw [u13 k e9] at z0 ⊢
      rw [u14 k e9] at z1
      have hle : s (p + 14) k ≤ s 32 14 := by
        rcases hlk k y0 y1 with h | ⟨_, _, h, _⟩
        · omega
        · exact h
      have hst := ckn k y y0 y1 z0 z1
      have hdy := dp_cg (code := s (p + 11)) (code' := s3 (p + 11)) (lo := s (p + 13) k) (i := y) (fun j _ z => g11 j (by omega)) z0
      unfold kdF ptF otF at *
      rw [hr 139 _ (by omega), hr 140 _ (by omega), hr 141 _ (by omega), hdy.1, hdy.2, g11 y (by omega), g12 y (by omega)]
      exact hst
def zLine (p : Int) (tx : Int → Int) (n9 : Int) (s : sx_S) (i : Int) (s' : sx_S) (e' : Int) (O : Option (Int × Int)) : Prop := (O = none ∧ pLnS p tx n9 s s' i e') ∨ (∃ k pl : Int, O = some (k, pl) ∧ pLnF p tx n9 s i k pl)
abbrev FXz (a j : Int) : Prop := FXa a j ∨ (a = 32 ∧ j = 2)
theorem some_eq {k pl k' pl' : Int} (h : (some (k, pl) : Option (Int × Int)) = some (k', pl')) : k = k' ∧ pl = pl' := by
  have := Option.some.inj h
  exact ⟨congrArg Prod.fst this, congrArg Prod.snd this⟩
theorem lf_fd_F {k pl : Int} (H : zLine p tx n9 s i s' e' O) (t0 : kT tx n9 i = 0)  (hz : zField p s tx n9 i = some (k, pl)) : O = some (k, pl) := by
  rcases H with ⟨hO, s1, e, hl, _⟩ | ⟨k', pl', hO, hl⟩
  · exfalso
    rcases hl with ⟨a0, az, ae, af, a1, a2, a3⟩ | ⟨a0, az, ae, af, a1, a2, a3⟩ | ⟨a0, ax, az, ae, af, a1, a2, a3, a4⟩ | ⟨a0, ax, az, ae, af, a1, a2, a3, a4, a5, a6, a7⟩ | ⟨a0, ax, m, am, an, ak, ae, af, a1, a2⟩ | ⟨a0, az, ae, af, a1, a2⟩ | ⟨a0, az, af⟩
    · (rw [az] at hz; exact absurd hz (by simp))
    · omega
    · omega
    · omega
    · omega
    · omega
    · omega
  · rcases hl with ⟨b0, bz⟩ | ⟨b0, bz⟩ | ⟨b0, bz⟩ | ⟨b0, bz⟩ | ⟨b0, bz⟩ | ⟨b0, bz⟩ | ⟨b0, bz⟩ | ⟨b0, bz⟩
    · (rw [or_some hz] at bz; rw [hO]; obtain ⟨e1, e2⟩ := some_eq bz; rw [e1, e2])
    · omega
    · omega
    · omega
    · omega
    · omega
    · omega
    · omega
theorem lf_fd_S (H : zLine p tx n9 s i s' e' O) (t0 : kT tx n9 i = 0)  (hz : zField p s tx n9 i = none) : (kT tx n9 (kE tx n9 (kE tx n9 (kE tx n9 i))) = 22 → O = none ∧ e' = kE tx n9 (kE tx n9 (kE tx n9 (kE tx n9 i))) ∧ ∃ s1 : sx_S, fr FXz s1 s' ∧ fr (FZf p) s s1 ∧ s1 32 6 = 1 ∧ s1 p 0 = nV tx n9 1 8 (kE tx n9 i) ∧ s1 p 1 = nV tx n9 1 6 (kE tx n9 (kE tx n9 i))) ∧ (¬ kT tx n9 (kE tx n9 (kE tx n9 (kE tx n9 i))) = 22 → O = some (1, kS tx n9 (kE tx n9 (kE tx n9 (kE tx n9 i))))) := by
  rcases H with ⟨hO, s1, e, hl, h22, he, hf, _⟩ | ⟨k', pl', hO, hl⟩
  · rcases hl with ⟨a0, az, ae, af, a1, a2, a3⟩ | ⟨a0, az, ae, af, a1, a2, a3⟩ | ⟨a0, ax, az, ae, af, a1, a2, a3, a4⟩ | ⟨a0, ax, az, ae, af, a1, a2, a3, a4, a5, a6, a7⟩ | ⟨a0, ax, m, am, an, ak, ae, af, a1, a2⟩ | ⟨a0, az, ae, af, a1, a2⟩ | ⟨a0, az, af⟩
    · (subst ae; exact ⟨fun _ => ⟨hO, he, s1, hf, ⟨af, a1, a2, a3⟩⟩, fun z => absurd h22 z⟩)
    · omega
    · omega
    · omega
    · omega
    · omega
    · omega
  · rcases hl with ⟨b0, bz⟩ | ⟨b0, bz⟩ | ⟨b0, bz⟩ | ⟨b0, bz⟩ | ⟨b0, bz⟩ | ⟨b0, bz⟩ | ⟨b0, bz⟩ | ⟨b0, bz⟩
    · (by_cases e9 : kT tx n9 (kE tx n9 (kE tx n9 (kE tx n9 i))) = 22
       · rw [hz, fBq_0 (fun z => z e9)] at bz; exact absurd bz (by simp)
       · rw [hz, fBq_1 e9] at bz; obtain ⟨e1, e2⟩ := some_eq bz; exact ⟨fun z => absurd z e9, fun _ => by rw [hO, ← e1, ← e2]⟩)
    · omega
    · omega
    · omega
    · omega
    · omega
    · omega
    · omega
theorem lf_kd_F {k pl : Int} (H : zLine p tx n9 s i s' e' O) (t0 : kT tx n9 i = 1 ∨ kT tx n9 i = 2)  (hz : zKind p (kT tx n9 i) s tx n9 i = some (k, pl)) : O = some (k, pl) := by
  rcases H with ⟨hO, s1, e, hl, _⟩ | ⟨k', pl', hO, hl⟩
  · exfalso
    rcases hl with ⟨a0, az, ae, af, a1, a2, a3⟩ | ⟨a0, az, ae, af, a1, a2, a3⟩ | ⟨a0, ax, az, ae, af, a1, a2, a3, a4⟩ | ⟨a0, ax, az, ae, af, a1, a2, a3, a4, a5, a6, a7⟩ | ⟨a0, ax, m, am, an, ak, ae, af, a1, a2⟩ | ⟨a0, az, ae, af, a1, a2⟩ | ⟨a0, az, af⟩
    · omega
    · (rw [az] at hz; exact absurd hz (by simp))
    · omega
    · omega
    · omega
    · omega
    · omega
  · rcases hl with ⟨b0, bz⟩ | ⟨b0, bz⟩ | ⟨b0, bz⟩ | ⟨b0, bz⟩ | ⟨b0, bz⟩ | ⟨b0, bz⟩ | ⟨b0, bz⟩ | ⟨b0, bz⟩
    · omega
    · (rw [or_some hz] at bz; rw [hO]; obtain ⟨e1, e2⟩ := some_eq bz; rw [e1, e2])
    · omega
    · omega
    · omega
    · omega
    · omega
    · omega
theorem lf_kd_S (H : zLine p tx n9 s i s' e' O) (t0 : kT tx n9 i = 1 ∨ kT tx n9 i = 2)  (hz : zKind p (kT tx n9 i) s tx n9 i = none) : (kT tx n9 (kE tx n9 (kE tx n9 (kE tx n9 i))) = 22 → O = none ∧ e' = kE tx n9 (kE tx n9 (kE tx n9 (kE tx n9 i))) ∧ ∃ s1 : sx_S, fr FXz s1 s' ∧ fr (FZk p (kT tx n9 i) (zCell p s tx n9 (kE tx n9 i))) s s1 ∧ s1 32 9 = 1 ∧ s1 (p + 1) (zCell p s tx n9 (kE tx n9 i)) = kT tx n9 i ∧ s1 35 (kT tx n9 i) = s 35 (kT tx n9 i) + 1) ∧ (¬ kT tx n9 (kE tx n9 (kE tx n9 (kE tx n9 i))) = 22 → O = some (1, kS tx n9 (kE tx n9 (kE tx n9 (kE tx n9 i))))) := by
  rcases H with ⟨hO, s1, e, hl, h22, he, hf, _⟩ | ⟨k', pl', hO, hl⟩
  · rcases hl with ⟨a0, az, ae, af, a1, a2, a3⟩ | ⟨a0, az, ae, af, a1, a2, a3⟩ | ⟨a0, ax, az, ae, af, a1, a2, a3, a4⟩ | ⟨a0, ax, az, ae, af, a1, a2, a3, a4, a5, a6, a7⟩ | ⟨a0, ax, m, am, an, ak, ae, af, a1, a2⟩ | ⟨a0, az, ae, af, a1, a2⟩ | ⟨a0, az, af⟩
    · omega
    · (subst ae; exact ⟨fun _ => ⟨hO, he, s1, hf, ⟨af, a1, a2, a3⟩⟩, fun z => absurd h22 z⟩)
    · omega
    · omega
    · omega
    · omega
    · omega
  · rcases hl with ⟨b0, bz⟩ | ⟨b0, bz⟩ | ⟨b0, bz⟩ | ⟨b0, bz⟩ | ⟨b0, bz⟩ | ⟨b0, bz⟩ | ⟨b0, bz⟩ | ⟨b0, bz⟩
    · omega
    · (by_cases e9 : kT tx n9 (kE tx n9 (kE tx n9 (kE tx n9 i))) = 22
       · rw [hz, fBq_0 (fun z => z e9)] at bz; exact absurd bz (by simp)
       · rw [hz, fBq_1 e9] at bz; obtain ⟨e1, e2⟩ := some_eq bz; exact ⟨fun z => absurd z e9, fun _ => by rw [hO, ← e1, ← e2]⟩)
    · omega
    · omega
    · omega
    · omega
    · omega
    · omega
theorem lf_fm_F {k pl : Int} (H : zLine p tx n9 s i s' e' O) (t0 : kT tx n9 i = 3) (h3 : s p 4 < 3) (hz : zFarm p s tx n9 i = some (k, pl)) : O = some (k, pl) := by
  rcases H with ⟨hO, s1, e, hl, _⟩ | ⟨k', pl', hO, hl⟩
  · exfalso
    rcases hl with ⟨a0, az, ae, af, a1, a2, a3⟩ | ⟨a0, az, ae, af, a1, a2, a3⟩ | ⟨a0, ax, az, ae, af, a1, a2, a3, a4⟩ | ⟨a0, ax, az, ae, af, a1, a2, a3, a4, a5, a6, a7⟩ | ⟨a0, ax, m, am, an, ak, ae, af, a1, a2⟩ | ⟨a0, az, ae, af, a1, a2⟩ | ⟨a0, az, af⟩
    · omega
    · omega
    · (rw [az] at hz; exact absurd hz (by simp))
    · omega
    · omega
    · omega
    · omega
  · rcases hl with ⟨b0, bz⟩ | ⟨b0, bz⟩ | ⟨b0, bz⟩ | ⟨b0, bz⟩ | ⟨b0, bz⟩ | ⟨b0, bz⟩ | ⟨b0, bz⟩ | ⟨b0, bz⟩
    · omega
    · omega
    · (rcases bz with ⟨bq, _⟩ | ⟨_, bz⟩; omega; rw [or_some hz] at bz; rw [hO]; obtain ⟨e1, e2⟩ := some_eq bz; rw [e1, e2])
    · omega
    · omega
    · omega
    · omega
    · omega
theorem lf_fm_S (H : zLine p tx n9 s i s' e' O) (t0 : kT tx n9 i = 3) (h3 : s p 4 < 3) (hz : zFarm p s tx n9 i = none) : (kT tx n9 (kE tx n9 (kE tx n9 (kE tx n9 (kE tx n9 (kE tx n9 (kE tx n9 i)))))) = 22 → O = none ∧ e' = kE tx n9 (kE tx n9 (kE tx n9 (kE tx n9 (kE tx n9 (kE tx n9 (kE tx n9 i)))))) ∧ ∃ s1 : sx_S, fr FXz s1 s' ∧ fr (FZm p (s p 4)) s s1 ∧ s1 32 9 = 1 ∧ (∀ c : Int, s1 (p + 2) c = if pRc (s p 0) (nV tx n9 0 (s p 0 - 1) (kE tx n9 (kE tx n9 i))) (nV tx n9 (nV tx n9 0 (s p 0 - 1) (kE tx n9 (kE tx n9 i))) (s p 0 - 1) (kE tx n9 (kE tx n9 (kE tx n9 (kE tx n9 i))))) (nV tx n9 0 (s p 1 - 1) (kE tx n9 (kE tx n9 (kE tx n9 i)))) (nV tx n9 (nV tx n9 0 (s p 1 - 1) (kE tx n9 (kE tx n9 (kE tx n9 i)))) (s p 1 - 1) (kE tx n9 (kE tx n9 (kE tx n9 (kE tx n9 (kE tx n9 i))))) + 1) (nV tx n9 0 (s p 0 - 1) (kE tx n9 (kE tx n9 i))) c then s p 4 else s (p + 2) c) ∧ s1 (p + 3) (s p 4) = aV tx n9 (kE tx n9 i) ∧ s1 p 4 = s p 4 + 1) ∧ (¬ kT tx n9 (kE tx n9 (kE tx n9 (kE tx n9 (kE tx n9 (kE tx n9 (kE tx n9 i)))))) = 22 → O = some (1, kS tx n9 (kE tx n9 (kE tx n9 (kE tx n9 (kE tx n9 (kE tx n9 (kE tx n9 i)))))))) := by
  rcases H with ⟨hO, s1, e, hl, h22, he, hf, _⟩ | ⟨k', pl', hO, hl⟩
  · rcases hl with ⟨a0, az, ae, af, a1, a2, a3⟩ | ⟨a0, az, ae, af, a1, a2, a3⟩ | ⟨a0, ax, az, ae, af, a1, a2, a3, a4⟩ | ⟨a0, ax, az, ae, af, a1, a2, a3, a4, a5, a6, a7⟩ | ⟨a0, ax, m, am, an, ak, ae, af, a1, a2⟩ | ⟨a0, az, ae, af, a1, a2⟩ | ⟨a0, az, af⟩
    · omega
    · omega
    · (subst ae; exact ⟨fun _ => ⟨hO, he, s1, hf, ⟨af, a1, a2, a3, a4⟩⟩, fun z => absurd h22 z⟩)
    · omega
    · omega
    · omega
    · omega
  · rcases hl with ⟨b0, bz⟩ | ⟨b0, bz⟩ | ⟨b0, bz⟩ | ⟨b0, bz⟩ | ⟨b0, bz⟩ | ⟨b0, bz⟩ | ⟨b0, bz⟩ | ⟨b0, bz⟩
    · omega
    · omega
    · (rcases bz with ⟨bq, _⟩ | ⟨_, bz⟩; omega; by_cases e9 : kT tx n9 (kE tx n9 (kE tx n9 (kE tx n9 (kE tx n9 (kE tx n9 (kE tx n9 i)))))) = 22
       · rw [hz, fBq_0 (fun z => z e9)] at bz; exact absurd bz (by simp)
       · rw [hz, fBq_1 e9] at bz; obtain ⟨e1, e2⟩ := some_eq bz; exact ⟨fun z => absurd z e9, fun _ => by rw [hO, ← e1, ← e2]⟩)
    · omega
    · omega
    · omega
    · omega
    · omega
theorem lf_wk_F {k pl : Int} (H : zLine p tx n9 s i s' e' O) (t0 : kT tx n9 i = 4) (h5 : s p 6 < 5) (hz : zWalk p s tx n9 i = some (k, pl)) : O = some (k, pl) := by
  rcases H with ⟨hO, s1, e, hl, _⟩ | ⟨k', pl', hO, hl⟩
  · exfalso
    rcases hl with ⟨a0, az, ae, af, a1, a2, a3⟩ | ⟨a0, az, ae, af, a1, a2, a3⟩ | ⟨a0, ax, az, ae, af, a1, a2, a3, a4⟩ | ⟨a0, ax, az, ae, af, a1, a2, a3, a4, a5, a6, a7⟩ | ⟨a0, ax, m, am, an, ak, ae, af, a1, a2⟩ | ⟨a0, az, ae, af, a1, a2⟩ | ⟨a0, az, af⟩
    · omega
    · omega
    · omega
    · (rw [az] at hz; exact absurd hz (by simp))
    · omega
    · omega
    · omega
  · rcases hl with ⟨b0, bz⟩ | ⟨b0, bz⟩ | ⟨b0, bz⟩ | ⟨b0, bz⟩ | ⟨b0, bz⟩ | ⟨b0, bz⟩ | ⟨b0, bz⟩ | ⟨b0, bz⟩
    · omega
    · omega
    · omega
    · (rcases bz with ⟨bq, _⟩ | ⟨_, bz⟩; omega; rw [or_some hz] at bz; rw [hO]; obtain ⟨e1, e2⟩ := some_eq bz; rw [e1, e2])
    · omega
    · omega
    · omega
    · omega
theorem lf_wk_S (H : zLine p tx n9 s i s' e' O) (t0 : kT tx n9 i = 4) (h5 : s p 6 < 5) (hz : zWalk p s tx n9 i = none) : (kT tx n9 (kE tx n9 (kE tx n9 (kE tx n9 (kE tx n9 (kE tx n9 (kE tx n9 (kE tx n9 i))))))) = 22 → O = none ∧ e' = kE tx n9 (kE tx n9 (kE tx n9 (kE tx n9 (kE tx n9 (kE tx n9 (kE tx n9 (kE tx n9 i))))))) ∧ ∃ s1 : sx_S, fr FXz s1 s' ∧ fr (FZw p (s p 6)) s s1 ∧ s1 32 9 = 1 ∧ s1 (p + 4) (s p 6) = aV tx n9 (kE tx n9 i) ∧ s1 (p + 5) (s p 6) = fFind (s (p + 3)) (aV tx n9 (kE tx n9 (kE tx n9 i))) (s p 4).toNat ∧ s1 (p + 6) (s p 6) = nV tx n9 1 60 (kE tx n9 (kE tx n9 (kE tx n9 i))) ∧ s1 (p + 7) (s p 6) = nV tx n9 1 3 (kE tx n9 (kE tx n9 (kE tx n9 (kE tx n9 i)))) ∧ s1 (p + 8) (s p 6) = zCell p s tx n9 (kE tx n9 (kE tx n9 (kE tx n9 (kE tx n9 (kE tx n9 i))))) ∧ s1 p 6 = s p 6 + 1) ∧ (¬ kT tx n9 (kE tx n9 (kE tx n9 (kE tx n9 (kE tx n9 (kE tx n9 (kE tx n9 (kE tx n9 i))))))) = 22 → O = some (1, kS tx n9 (kE tx n9 (kE tx n9 (kE tx n9 (kE tx n9 (kE tx n9 (kE tx n9 (kE tx n9 i))))))))) := by
  rcases H with ⟨hO, s1, e, hl, h22, he, hf, _⟩ | ⟨k', pl', hO, hl⟩
  · rcases hl with ⟨a0, az, ae, af, a1, a2, a3⟩ | ⟨a0, az, ae, af, a1, a2, a3⟩ | ⟨a0, ax, az, ae, af, a1, a2, a3, a4⟩ | ⟨a0, ax, az, ae, af, a1, a2, a3, a4, a5, a6, a7⟩ | ⟨a0, ax, m, am, an, ak, ae, af, a1, a2⟩ | ⟨a0, az, ae, af, a1, a2⟩ | ⟨a0, az, af⟩
    · omega
    · omega
    · omega
    · (subst ae; exact ⟨fun _ => ⟨hO, he, s1, hf, ⟨af, a1, a2, a3, a4, a5, a6, a7⟩⟩, fun z => absurd h22 z⟩)
    · omega
    · omega
    · omega
  · rcases hl with ⟨b0, bz⟩ | ⟨b0, bz⟩ | ⟨b0, bz⟩ | ⟨b0, bz⟩ | ⟨b0, bz⟩ | ⟨b0, bz⟩ | ⟨b0, bz⟩ | ⟨b0, bz⟩
    · omega
    · omega
    · omega
    · (rcases bz with ⟨bq, _⟩ | ⟨_, bz⟩; omega; by_cases e9 : kT tx n9 (kE tx n9 (kE tx n9 (kE tx n9 (kE tx n9 (kE tx n9 (kE tx n9 (kE tx n9 i))))))) = 22
       · rw [hz, fBq_0 (fun z => z e9)] at bz; exact absurd bz (by simp)
       · rw [hz, fBq_1 e9] at bz; obtain ⟨e1, e2⟩ := some_eq bz; exact ⟨fun z => absurd z e9, fun _ => by rw [hO, ← e1, ← e2]⟩)
    · omega
    · omega
    · omega
    · omega
theorem lf_sd_F {k pl : Int} (H : zLine p tx n9 s i s' e' O) (t0 : kT tx n9 i = 6)  (hz : zSeed p s tx n9 i = some (k, pl)) : O = some (k, pl) := by
  rcases H with ⟨hO, s1, e, hl, _⟩ | ⟨k', pl', hO, hl⟩
  · exfalso
    rcases hl with ⟨a0, az, ae, af, a1, a2, a3⟩ | ⟨a0, az, ae, af, a1, a2, a3⟩ | ⟨a0, ax, az, ae, af, a1, a2, a3, a4⟩ | ⟨a0, ax, az, ae, af, a1, a2, a3, a4, a5, a6, a7⟩ | ⟨a0, ax, m, am, an, ak, ae, af, a1, a2⟩ | ⟨a0, az, ae, af, a1, a2⟩ | ⟨a0, az, af⟩
    · omega
    · omega
    · omega
    · omega
    · omega
    · (rw [az] at hz; exact absurd hz (by simp))
    · omega
  · rcases hl with ⟨b0, bz⟩ | ⟨b0, bz⟩ | ⟨b0, bz⟩ | ⟨b0, bz⟩ | ⟨b0, bz⟩ | ⟨b0, bz⟩ | ⟨b0, bz⟩ | ⟨b0, bz⟩
    · omega
    · omega
    · omega
    · omega
    · omega
    · (rw [or_some hz] at bz; rw [hO]; obtain ⟨e1, e2⟩ := some_eq bz; rw [e1, e2])
    · omega
    · omega
theorem lf_sd_S (H : zLine p tx n9 s i s' e' O) (t0 : kT tx n9 i = 6)  (hz : zSeed p s tx n9 i = none) : (kT tx n9 (kE tx n9 (kE tx n9 i)) = 22 → O = none ∧ e' = kE tx n9 (kE tx n9 (kE tx n9 i)) ∧ ∃ s1 : sx_S, fr FXz s1 s' ∧ fr (FZs p) s s1 ∧ s1 32 8 = 1 ∧ s1 p 13 = nV tx n9 0 99999 (kE tx n9 i)) ∧ (¬ kT tx n9 (kE tx n9 (kE tx n9 i)) = 22 → O = some (1, kS tx n9 (kE tx n9 (kE tx n9 i)))) := by
  rcases H with ⟨hO, s1, e, hl, h22, he, hf, _⟩ | ⟨k', pl', hO, hl⟩
  · rcases hl with ⟨a0, az, ae, af, a1, a2, a3⟩ | ⟨a0, az, ae, af, a1, a2, a3⟩ | ⟨a0, ax, az, ae, af, a1, a2, a3, a4⟩ | ⟨a0, ax, az, ae, af, a1, a2, a3, a4, a5, a6, a7⟩ | ⟨a0, ax, m, am, an, ak, ae, af, a1, a2⟩ | ⟨a0, az, ae, af, a1, a2⟩ | ⟨a0, az, af⟩
    · omega
    · omega
    · omega
    · omega
    · omega
    · (subst ae; exact ⟨fun _ => ⟨hO, he, s1, hf, ⟨af, a1, a2⟩⟩, fun z => absurd h22 z⟩)
    · omega
  · rcases hl with ⟨b0, bz⟩ | ⟨b0, bz⟩ | ⟨b0, bz⟩ | ⟨b0, bz⟩ | ⟨b0, bz⟩ | ⟨b0, bz⟩ | ⟨b0, bz⟩ | ⟨b0, bz⟩
    · omega
    · omega
    · omega
    · omega
    · omega
    · (by_cases e9 : kT tx n9 (kE tx n9 (kE tx n9 i)) = 22
       · rw [hz, fBq_0 (fun z => z e9)] at bz; exact absurd bz (by simp)
       · rw [hz, fBq_1 e9] at bz; obtain ⟨e1, e2⟩ := some_eq bz; exact ⟨fun z => absurd z e9, fun _ => by rw [hO, ← e1, ← e2]⟩)
    · omega
    · omega
theorem lf_fm0 (H : zLine p tx n9 s i s' e' O) (t0 : kT tx n9 i = 3) (h3 : 3 ≤ s p 4) : O = some (2, kS tx n9 i) := by
  rcases H with ⟨hO, s1, e, hl, _⟩ | ⟨k', pl', hO, hl⟩
  · exfalso
    rcases hl with ⟨a0, az, ae, af, a1, a2, a3⟩ | ⟨a0, az, ae, af, a1, a2, a3⟩ | ⟨a0, ax, az, ae, af, a1, a2, a3, a4⟩ | ⟨a0, ax, az, ae, af, a1, a2, a3, a4, a5, a6, a7⟩ | ⟨a0, ax, m9, am, an, ak, ae, af, a1, a2⟩ | ⟨a0, az, ae, af, a1, a2⟩ | ⟨a0, az, af⟩
    · omega
    · omega
    · omega
    · omega
    · omega
    · omega
    · omega
  · rcases hl with ⟨b0, bz⟩ | ⟨b0, bz⟩ | ⟨b0, bz⟩ | ⟨b0, bz⟩ | ⟨b0, bz⟩ | ⟨b0, bz⟩ | ⟨b0, bz⟩ | ⟨b0, bz⟩
    · omega
    · omega
    · (rcases bz with ⟨_, b1, b2⟩ | ⟨b1, _⟩; (rw [hO, b1, b2]); omega)
    · omega
    · omega
    · omega
    · omega
    · omega
theorem lf_wk0 (H : zLine p tx n9 s i s' e' O) (t0 : kT tx n9 i = 4) (h3 : 5 ≤ s p 6) : O = some (2, kS tx n9 i) := by
  rcases H with ⟨hO, s1, e, hl, _⟩ | ⟨k', pl', hO, hl⟩
  · exfalso
    rcases hl with ⟨a0, az, ae, af, a1, a2, a3⟩ | ⟨a0, az, ae, af, a1, a2, a3⟩ | ⟨a0, ax, az, ae, af, a1, a2, a3, a4⟩ | ⟨a0, ax, az, ae, af, a1, a2, a3, a4, a5, a6, a7⟩ | ⟨a0, ax, m9, am, an, ak, ae, af, a1, a2⟩ | ⟨a0, az, ae, af, a1, a2⟩ | ⟨a0, az, af⟩
    · omega
    · omega
    · omega
    · omega
    · omega
    · omega
    · omega
  · rcases hl with ⟨b0, bz⟩ | ⟨b0, bz⟩ | ⟨b0, bz⟩ | ⟨b0, bz⟩ | ⟨b0, bz⟩ | ⟨b0, bz⟩ | ⟨b0, bz⟩ | ⟨b0, bz⟩
    · omega
    · omega
    · omega
    · (rcases bz with ⟨_, b1, b2⟩ | ⟨b1, _⟩; (rw [hO, b1, b2]); omega)
    · omega
    · omega
    · omega
    · omega
theorem lf_df (H : zLine p tx n9 s i s' e' O) (t0 : 8 ≤ kT tx n9 i) : O = some (1, kS tx n9 i) := by
  rcases H with ⟨hO, s1, e, hl, _⟩ | ⟨k', pl', hO, hl⟩
  · exfalso
    rcases hl with ⟨a0, az, ae, af, a1, a2, a3⟩ | ⟨a0, az, ae, af, a1, a2, a3⟩ | ⟨a0, ax, az, ae, af, a1, a2, a3, a4⟩ | ⟨a0, ax, az, ae, af, a1, a2, a3, a4, a5, a6, a7⟩ | ⟨a0, ax, m9, am, an, ak, ae, af, a1, a2⟩ | ⟨a0, az, ae, af, a1, a2⟩ | ⟨a0, az, af⟩
    · omega
    · omega
    · omega
    · omega
    · omega
    · omega
    · omega
  · rcases hl with ⟨b0, bz⟩ | ⟨b0, bz⟩ | ⟨b0, bz⟩ | ⟨b0, bz⟩ | ⟨b0, bz⟩ | ⟨b0, bz⟩ | ⟨b0, bz⟩ | ⟨b0, bz⟩
    · omega
    · omega
    · omega
    · omega
    · omega
    · omega
    · omega
    · (rw [hO, bz.1, bz.2])
theorem lf_ca_F {k pl : Int} (H : zLine p tx n9 s i s' e' O) (t0 : kT tx n9 i = 5) (hz : zCastF s tx n9 i k pl) : O = some (k, pl) := by
  rcases H with ⟨hO, s1, e, hl, _⟩ | ⟨k', pl', hO, hl⟩
  · exfalso
    rcases hl with ⟨a0, az, ae, af, a1, a2, a3⟩ | ⟨a0, az, ae, af, a1, a2, a3⟩ | ⟨a0, ax, az, ae, af, a1, a2, a3, a4⟩ | ⟨a0, ax, az, ae, af, a1, a2, a3, a4, a5, a6, a7⟩ | ⟨a0, ax, m9, am, an, ak, ae, af, a1, a2⟩ | ⟨a0, az, ae, af, a1, a2⟩ | ⟨a0, az, af⟩
    · omega
    · omega
    · omega
    · omega
    · exact zCast_no hz ⟨am, ax, an, ak⟩
    · omega
    · omega
  · rcases hl with ⟨b0, bz⟩ | ⟨b0, bz⟩ | ⟨b0, bz⟩ | ⟨b0, bz⟩ | ⟨b0, bz⟩ | ⟨b0, bz⟩ | ⟨b0, bz⟩ | ⟨b0, bz⟩
    · omega
    · omega
    · omega
    · omega
    · (rcases bz with bz | ⟨b1, m, b2, b3, b4, _⟩; (obtain ⟨e1, e2⟩ := zCast_u hz bz; rw [hO, e1, e2]); exact (zCast_no hz ⟨b2, b1, b3, b4⟩).elim)
    · omega
    · omega
    · omega
theorem lf_ca_S {m : Int} (H : zLine p tx n9 s i s' e' O) (t0 : kT tx n9 i = 5) (hz : zCastS s tx n9 i m) : (kT tx n9 (kI tx n9 m.toNat (kE tx n9 i)) = 22 → O = none ∧ e' = kE tx n9 (kI tx n9 m.toNat (kE tx n9 i)) ∧ ∃ s1 : sx_S, fr FXz s1 s' ∧ fr (FZc p m) s s1 ∧ s1 32 7 = 1 ∧ (∀ q : Int, 0 ≤ q → q < m → s1 (p + 10) q = nV tx n9 0 100 (kI tx n9 q.toNat (kE tx n9 i)))) ∧ (¬ kT tx n9 (kI tx n9 m.toNat (kE tx n9 i)) = 22 → O = some (1, kS tx n9 (kI tx n9 m.toNat (kE tx n9 i)))) := by
  rcases H with ⟨hO, s1, e, hl, h22, he, hf, _⟩ | ⟨k', pl', hO, hl⟩
  · rcases hl with ⟨a0, az, ae, af, a1, a2, a3⟩ | ⟨a0, az, ae, af, a1, a2, a3⟩ | ⟨a0, ax, az, ae, af, a1, a2, a3, a4⟩ | ⟨a0, ax, az, ae, af, a1, a2, a3, a4, a5, a6, a7⟩ | ⟨a0, ax, m9, am, an, ak, ae, af, a1, a2⟩ | ⟨a0, az, ae, af, a1, a2⟩ | ⟨a0, az, af⟩
    · omega
    · omega
    · omega
    · omega
    · (have em := zCast_m hz ⟨am, ax, an, ak⟩; subst em; subst ae; exact ⟨fun _ => ⟨hO, he, s1, hf, af, a1, a2⟩, fun z => absurd h22 z⟩)
    · omega
    · omega
  · rcases hl with ⟨b0, bz⟩ | ⟨b0, bz⟩ | ⟨b0, bz⟩ | ⟨b0, bz⟩ | ⟨b0, bz⟩ | ⟨b0, bz⟩ | ⟨b0, bz⟩ | ⟨b0, bz⟩
    · omega
    · omega
    · omega
    · omega
    · (rcases bz with bz | ⟨b1, m', b2, b3, b4, b5, b6, b7⟩; (exact (zCast_no bz hz).elim); (have em := zCast_m hz ⟨b2, b1, b3, b4⟩; subst em; exact ⟨fun z => absurd z b5, fun _ => by rw [hO, b6, b7]⟩))
    · omega
    · omega
    · omega
end SXS2
