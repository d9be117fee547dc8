/-! THE PLAN THAT IS TOLD (by wip/whole) -/
section SXQ5
variable {X : sx_X} {Q : sx_R} {σ σ0 σ' σ1 σ2 s s' s1 : sx_S} {tx : Int → Int} {n9 p i lo hi : Int} {code num : Int → Int}
/-- law k is not told or well told -/
def pLk (p : Int) (s : sx_S) (k : Int) : Prop := s (p + 14) k ≤ s (p + 13) k ∨ (0 ≤ s (p + 13) k ∧ s (p + 13) k < s (p + 14) k ∧ s (p + 14) k ≤ s 32 14 ∧ (∀ y : Int, s (p + 13) k ≤ y → y < s (p + 14) k → cV (s (p + 11)) (s (p + 12)) (s (p + 13) k) y) ∧ dpF (s (p + 11)) (s (p + 13) k) (s (p + 14) k) = 1 ∧ ixF (s (p + 11)) (s (p + 13) k) (s (p + 14) k) 0 = s (p + 14) k - 1)
def wT (p : Int) (s : sx_S) : Prop := wZ p s ∧ (0 ≤ s p 14 ∧ s p 14 ≤ 64) ∧ s 32 14 = s p 14 ∧ (0 ≤ s p 13 ∧ s p 13 ≤ 99999) ∧ (∀ c : Int, 0 ≤ c → c < 48 → 0 ≤ s (p + 1) c ∧ s (p + 1) c ≤ 2) ∧ (∀ c : Int, 0 ≤ c → c < 48 → -1 ≤ s (p + 2) c ∧ s (p + 2) c < s p 4) ∧ (∀ f : Int, 0 ≤ f → f < s p 6 → 0 ≤ s (p + 5) f ∧ s (p + 5) f < s p 4) ∧ (∀ f : Int, 0 ≤ f → f < s p 6 → 1 ≤ s (p + 6) f ∧ s (p + 6) f ≤ 60) ∧ (∀ f : Int, 0 ≤ f → f < s p 6 → 1 ≤ s (p + 7) f ∧ s (p + 7) f ≤ 3) ∧ (∀ f : Int, 0 ≤ f → f < s p 6 → 0 ≤ s (p + 8) f ∧ s (p + 8) f < s p 0 * s p 1) ∧ (∀ f : Int, 0 ≤ f → f < 24 → 0 ≤ s (p + 10) f ∧ s (p + 10) f ≤ 100) ∧ (s 32 9 = 0 → s p 4 = 0 ∧ s p 6 = 0) ∧ hHb p s ∧ (∀ k : Int, 0 ≤ k → k < 3 → pLk p s k)
theorem or_n {a b : Option (Int × Int)} (h : a.or b = none) : a = none ∧ b = none := by
  cases a with
  | none => exact ⟨rfl, h⟩
  | some q => exact absurd h (by simp)
theorem fBq_n {b : Prop} [Decidable b] {k s : Int} (h : fBq b k s = none) : ¬ b := fun z => by rw [fBq_1 z] at h; exact absurd h (by simp)
theorem wT_fr (hp : 2 ≤ p ∧ p ≤ 17) (h : wT p s) (hf : ∀ a j : Int, ¬ (a < 2 ∨ (a = 33) ∨ (a = 32 ∧ (j = 0 ∨ j = 1 ∨ j = 2))) → s1 a j = s a j) : wT p s1 := by
  have wz : wZ p s := h.1
  obtain ⟨⟨z0, z1, z2, z3, z4, z5⟩, hk, hwe, hsd, hki, hgr, hfo, hwg, hga, hho, hhl, hhc, hhb, hlw⟩ := h
  exact ⟨⟨by rw [hf (p) (0) (by omega)]; exact z0,
    by rw [hf (p) (1) (by omega)]; exact z1,
    by rw [hf (p) (4) (by omega)]; exact z2,
    by rw [hf (p) (6) (by omega)]; exact z3,
    by rw [hf (35) (1) (by omega)]; exact z4,
    by rw [hf (35) (2) (by omega)]; exact z5⟩, by rw [hf (p) (14) (by omega)]; exact hk,
    by rw [hf (32) (14) (by omega), hf (p) (14) (by omega)]; exact hwe,
    by rw [hf (p) (13) (by omega)]; exact hsd,
    fun c y0 y1 => by rw [hf (p + 1) (c) (by omega)]; exact hki c y0 y1,
    fun c y0 y1 => by rw [hf (p + 2) (c) (by omega), hf (p) (4) (by omega)]; exact hgr c y0 y1,
    fun f y0 y1 => by rw [hf (p) (6) (by omega)] at y1; rw [hf (p + 5) (f) (by omega), hf (p) (4) (by omega)]; exact hfo f y0 y1,
    fun f y0 y1 => by rw [hf (p) (6) (by omega)] at y1; rw [hf (p + 6) (f) (by omega)]; exact hwg f y0 y1,
    fun f y0 y1 => by rw [hf (p) (6) (by omega)] at y1; rw [hf (p + 7) (f) (by omega)]; exact hga f y0 y1,
    fun f y0 y1 => by rw [hf (p) (6) (by omega)] at y1; rw [hf (p + 8) (f) (by omega), hf (p) (0) (by omega), hf (p) (1) (by omega)]; exact hho f y0 y1,
    fun f y0 y1 => by rw [hf (p + 10) (f) (by omega)]; exact hhl f y0 y1,
    by rw [hf (32) (9) (by omega), hf (p) (4) (by omega), hf (p) (6) (by omega)]; exact hhc,
    fun f y0 y1 => by rw [hf (p + 8) (f) (by omega)]; exact hhb f y0 y1,
    fun k y0 y1 => by unfold pLk; rw [hf (p + 13) (k) (by omega), hf (p + 14) (k) (by omega), hf (32) (14) (by omega), show s1 (p + 11) = s (p + 11) from funext fun j => hf (p + 11) (j) (by omega), show s1 (p + 12) = s (p + 12) from funext fun j => hf (p + 12) (j) (by omega)]; exact hlw k y0 y1⟩
theorem wT_field (hp : 2 ≤ p ∧ p ≤ 17) (h : wT p s) (hz : zField p s tx n9 i = none) (hf : fr (FZf p) s s1) (v0 : s1 p 0 = nV tx n9 1 8 (kE tx n9 i)) (v1 : s1 p 1 = nV tx n9 1 6 (kE tx n9 (kE tx n9 i))) : wT p s1 := by
  have wz : wZ p s := h.1
  obtain ⟨⟨z0, z1, z2, z3, z4, z5⟩, hk, hwe, hsd, hki, hgr, hfo, hwg, hga, hho, hhl, hhc, hhb, hlw⟩ := h
  have h9 := fBq_n (or_n (or_n hz).2).1
  have hh := hhc (by omega)
  exact ⟨⟨by rw [v0]; exact nV_bd (by decide),
    by rw [v1]; exact nV_bd (by decide),
    by rw [hf (p) (4) (by unfold FZf FNx; omega)]; exact z2,
    by rw [hf (p) (6) (by unfold FZf FNx; omega)]; exact z3,
    by rw [hf (35) (1) (by unfold FZf FNx; omega)]; exact z4,
    by rw [hf (35) (2) (by unfold FZf FNx; omega)]; exact z5⟩, by rw [hf (p) (14) (by unfold FZf FNx; omega)]; exact hk,
    by rw [hf (32) (14) (by unfold FZf FNx; omega), hf (p) (14) (by unfold FZf FNx; omega)]; exact hwe,
    by rw [hf (p) (13) (by unfold FZf FNx; omega)]; exact hsd,
    fun c y0 y1 => by rw [hf (p + 1) (c) (by unfold FZf FNx; omega)]; exact hki c y0 y1,
    fun c y0 y1 => by rw [hf (p + 2) (c) (by unfold FZf FNx; omega), hf (p) (4) (by unfold FZf FNx; omega)]; exact hgr c y0 y1,
    fun f y0 y1 => by rw [hf (p) (6) (by unfold FZf FNx; omega)] at y1; rw [hf (p + 5) (f) (by unfold FZf FNx; omega), hf (p) (4) (by unfold FZf FNx; omega)]; exact hfo f y0 y1,
    fun f y0 y1 => by rw [hf (p) (6) (by unfold FZf FNx; omega)] at y1; rw [hf (p + 6) (f) (by unfold FZf FNx; omega)]; exact hwg f y0 y1,
    fun f y0 y1 => by rw [hf (p) (6) (by unfold FZf FNx; omega)] at y1; rw [hf (p + 7) (f) (by unfold FZf FNx; omega)]; exact hga f y0 y1,
    fun f y0 y1 => by rw [hf p 6 (by unfold FZf FNx; omega)] at y1; omega,
    fun f y0 y1 => by rw [hf (p + 10) (f) (by unfold FZf FNx; omega)]; exact hhl f y0 y1,
    by rw [hf (32) (9) (by unfold FZf FNx; omega), hf (p) (4) (by unfold FZf FNx; omega), hf (p) (6) (by unfold FZf FNx; omega)]; exact hhc,
    fun f y0 y1 => by rw [hf (p + 8) (f) (by unfold FZf FNx; omega)]; exact hhb f y0 y1,
    fun k y0 y1 => by unfold pLk; rw [hf (p + 13) (k) (by unfold FZf FNx; omega), hf (p + 14) (k) (by unfold FZf FNx; omega), hf (32) (14) (by unfold FZf FNx; omega), show s1 (p + 11) = s (p + 11) from funext fun j => hf (p + 11) (j) (by unfold FZf FNx; omega), show s1 (p + 12) = s (p + 12) from funext fun j => hf (p + 12) (j) (by unfold FZf FNx; omega)]; exact hlw k y0 y1⟩
theorem wT_seed (hp : 2 ≤ p ∧ p ≤ 17) (h : wT p s) (hf : fr (FZs p) s s1) (v0 : s1 p 13 = nV tx n9 0 99999 (kE tx n9 i)) : wT p s1 := by
  have wz : wZ p s := h.1
  obtain ⟨⟨z0, z1, z2, z3, z4, z5⟩, hk, hwe, hsd, hki, hgr, hfo, hwg, hga, hho, hhl, hhc, hhb, hlw⟩ := h
  exact ⟨⟨by rw [hf (p) (0) (by unfold FZs FNx; omega)]; exact z0,
    by rw [hf (p) (1) (by unfold FZs FNx; omega)]; exact z1,
    by rw [hf (p) (4) (by unfold FZs FNx; omega)]; exact z2,
    by rw [hf (p) (6) (by unfold FZs FNx; omega)]; exact z3,
    by rw [hf (35) (1) (by unfold FZs FNx; omega)]; exact z4,
    by rw [hf (35) (2) (by unfold FZs FNx; omega)]; exact z5⟩, by rw [hf (p) (14) (by unfold FZs FNx; omega)]; exact hk,
    by rw [hf (32) (14) (by unfold FZs FNx; omega), hf (p) (14) (by unfold FZs FNx; omega)]; exact hwe,
    by rw [v0]; exact nV_bd (by decide),
    fun c y0 y1 => by rw [hf (p + 1) (c) (by unfold FZs FNx; omega)]; exact hki c y0 y1,
    fun c y0 y1 => by rw [hf (p + 2) (c) (by unfold FZs FNx; omega), hf (p) (4) (by unfold FZs FNx; omega)]; exact hgr c y0 y1,
    fun f y0 y1 => by rw [hf (p) (6) (by unfold FZs FNx; omega)] at y1; rw [hf (p + 5) (f) (by unfold FZs FNx; omega), hf (p) (4) (by unfold FZs FNx; omega)]; exact hfo f y0 y1,
    fun f y0 y1 => by rw [hf (p) (6) (by unfold FZs FNx; omega)] at y1; rw [hf (p + 6) (f) (by unfold FZs FNx; omega)]; exact hwg f y0 y1,
    fun f y0 y1 => by rw [hf (p) (6) (by unfold FZs FNx; omega)] at y1; rw [hf (p + 7) (f) (by unfold FZs FNx; omega)]; exact hga f y0 y1,
    fun f y0 y1 => by rw [hf (p) (6) (by unfold FZs FNx; omega)] at y1; rw [hf (p + 8) (f) (by unfold FZs FNx; omega), hf (p) (0) (by unfold FZs FNx; omega), hf (p) (1) (by unfold FZs FNx; omega)]; exact hho f y0 y1,
    fun f y0 y1 => by rw [hf (p + 10) (f) (by unfold FZs FNx; omega)]; exact hhl f y0 y1,
    by rw [hf (32) (9) (by unfold FZs FNx; omega), hf (p) (4) (by unfold FZs FNx; omega), hf (p) (6) (by unfold FZs FNx; omega)]; exact hhc,
    fun f y0 y1 => by rw [hf (p + 8) (f) (by unfold FZs FNx; omega)]; exact hhb f y0 y1,
    fun k y0 y1 => by unfold pLk; rw [hf (p + 13) (k) (by unfold FZs FNx; omega), hf (p + 14) (k) (by unfold FZs FNx; omega), hf (32) (14) (by unfold FZs FNx; omega), show s1 (p + 11) = s (p + 11) from funext fun j => hf (p + 11) (j) (by unfold FZs FNx; omega), show s1 (p + 12) = s (p + 12) from funext fun j => hf (p + 12) (j) (by unfold FZs FNx; omega)]; exact hlw k y0 y1⟩
theorem wT_kind (hp : 2 ≤ p ∧ p ≤ 17) (h : wT p s) {k : Int} (hk9 : k = 1 ∨ k = 2) (hz : zKind p k s tx n9 i = none) (hf : fr (FZk p k (zCell p s tx n9 (kE tx n9 i))) s s1) (v9 : s1 32 9 = 1) (v1 : s1 (p + 1) (zCell p s tx n9 (kE tx n9 i)) = k) (v2 : s1 35 k = s 35 k + 1) : wT p s1 := by
  have wz : wZ p s := h.1
  obtain ⟨⟨z0, z1, z2, z3, z4, z5⟩, hk, hwe, hsd, hki, hgr, hfo, hwg, hga, hho, hhl, hhc, hhb, hlw⟩ := h
  have h9 := fBq_n (or_n hz).1
  have zc := zCell_bd (tx := tx) (n9 := n9) (i := kE tx n9 i) wz
  generalize zCell p s tx n9 (kE tx n9 i) = c9 at *
  exact ⟨⟨by rw [hf (p) (0) (by unfold FZk FNx; omega)]; exact z0,
    by rw [hf (p) (1) (by unfold FZk FNx; omega)]; exact z1,
    by rw [hf (p) (4) (by unfold FZk FNx; omega)]; exact z2,
    by rw [hf (p) (6) (by unfold FZk FNx; omega)]; exact z3,
    by
      by_cases e9 : k = 1
      · rw [e9] at v2 h9; rw [v2]; omega
      · rw [hf 35 1 (by unfold FZk FNx; omega)]; exact z4,
    by
      by_cases e9 : k = 2
      · rw [e9] at v2 h9; rw [v2]; omega
      · rw [hf 35 2 (by unfold FZk FNx; omega)]; exact z5⟩, by rw [hf (p) (14) (by unfold FZk FNx; omega)]; exact hk,
    by rw [hf (32) (14) (by unfold FZk FNx; omega), hf (p) (14) (by unfold FZk FNx; omega)]; exact hwe,
    by rw [hf (p) (13) (by unfold FZk FNx; omega)]; exact hsd,
    fun c y0 y1 => by
      by_cases e9 : c = c9
      · rw [e9, v1]; omega
      · rw [hf (p + 1) c (by unfold FZk FNx; omega)]; exact hki c y0 y1,
    fun c y0 y1 => by rw [hf (p + 2) (c) (by unfold FZk FNx; omega), hf (p) (4) (by unfold FZk FNx; omega)]; exact hgr c y0 y1,
    fun f y0 y1 => by rw [hf (p) (6) (by unfold FZk FNx; omega)] at y1; rw [hf (p + 5) (f) (by unfold FZk FNx; omega), hf (p) (4) (by unfold FZk FNx; omega)]; exact hfo f y0 y1,
    fun f y0 y1 => by rw [hf (p) (6) (by unfold FZk FNx; omega)] at y1; rw [hf (p + 6) (f) (by unfold FZk FNx; omega)]; exact hwg f y0 y1,
    fun f y0 y1 => by rw [hf (p) (6) (by unfold FZk FNx; omega)] at y1; rw [hf (p + 7) (f) (by unfold FZk FNx; omega)]; exact hga f y0 y1,
    fun f y0 y1 => by rw [hf (p) (6) (by unfold FZk FNx; omega)] at y1; rw [hf (p + 8) (f) (by unfold FZk FNx; omega), hf (p) (0) (by unfold FZk FNx; omega), hf (p) (1) (by unfold FZk FNx; omega)]; exact hho f y0 y1,
    fun f y0 y1 => by rw [hf (p + 10) (f) (by unfold FZk FNx; omega)]; exact hhl f y0 y1,
    fun z => by omega,
    fun f y0 y1 => by rw [hf (p + 8) (f) (by unfold FZk FNx; omega)]; exact hhb f y0 y1,
    fun k y0 y1 => by unfold pLk; rw [hf (p + 13) (k) (by unfold FZk FNx; omega), hf (p + 14) (k) (by unfold FZk FNx; omega), hf (32) (14) (by unfold FZk FNx; omega), show s1 (p + 11) = s (p + 11) from funext fun j => hf (p + 11) (j) (by unfold FZk FNx; omega), show s1 (p + 12) = s (p + 12) from funext fun j => hf (p + 12) (j) (by unfold FZk FNx; omega)]; exact hlw k y0 y1⟩
theorem wT_farm (hp : 2 ≤ p ∧ p ≤ 17) (h : wT p s) {q : Int → Prop} [DecidablePred q] (h3 : s p 4 < 3) (hf : fr (FZm p (s p 4)) s s1) (v9 : s1 32 9 = 1) (v1 : ∀ c : Int, s1 (p + 2) c = if q c then s p 4 else s (p + 2) c) (v2 : s1 p 4 = s p 4 + 1) : wT p s1 := by
  have wz : wZ p s := h.1
  obtain ⟨⟨z0, z1, z2, z3, z4, z5⟩, hk, hwe, hsd, hki, hgr, hfo, hwg, hga, hho, hhl, hhc, hhb, hlw⟩ := h
  exact ⟨⟨by rw [hf (p) (0) (by unfold FZm FNx; omega)]; exact z0,
    by rw [hf (p) (1) (by unfold FZm FNx; omega)]; exact z1,
    by rw [v2]; omega,
    by rw [hf (p) (6) (by unfold FZm FNx; omega)]; exact z3,
    by rw [hf (35) (1) (by unfold FZm FNx; omega)]; exact z4,
    by rw [hf (35) (2) (by unfold FZm FNx; omega)]; exact z5⟩, by rw [hf (p) (14) (by unfold FZm FNx; omega)]; exact hk,
    by rw [hf (32) (14) (by unfold FZm FNx; omega), hf (p) (14) (by unfold FZm FNx; omega)]; exact hwe,
    by rw [hf (p) (13) (by unfold FZm FNx; omega)]; exact hsd,
    fun c y0 y1 => by rw [hf (p + 1) (c) (by unfold FZm FNx; omega)]; exact hki c y0 y1,
    fun c y0 y1 => by rw [v1, v2]; have := hgr c y0 y1; split <;> omega,
    fun f y0 y1 => by rw [hf p 6 (by unfold FZm FNx; omega)] at y1; rw [hf (p + 5) f (by unfold FZm FNx; omega), v2]; have := hfo f y0 y1; omega,
    fun f y0 y1 => by rw [hf (p) (6) (by unfold FZm FNx; omega)] at y1; rw [hf (p + 6) (f) (by unfold FZm FNx; omega)]; exact hwg f y0 y1,
    fun f y0 y1 => by rw [hf (p) (6) (by unfold FZm FNx; omega)] at y1; rw [hf (p + 7) (f) (by unfold FZm FNx; omega)]; exact hga f y0 y1,
    fun f y0 y1 => by rw [hf (p) (6) (by unfold FZm FNx; omega)] at y1; rw [hf (p + 8) (f) (by unfold FZm FNx; omega), hf (p) (0) (by unfold FZm FNx; omega), hf (p) (1) (by unfold FZm FNx; omega)]; exact hho f y0 y1,
    fun f y0 y1 => by rw [hf (p + 10) (f) (by unfold FZm FNx; omega)]; exact hhl f y0 y1,
    fun z => by omega,
    fun f y0 y1 => by rw [hf (p + 8) (f) (by unfold FZm FNx; omega)]; exact hhb f y0 y1,
    fun k y0 y1 => by unfold pLk; rw [hf (p + 13) (k) (by unfold FZm FNx; omega), hf (p + 14) (k) (by unfold FZm FNx; omega), hf (32) (14) (by unfold FZm FNx; omega), show s1 (p + 11) = s (p + 11) from funext fun j => hf (p + 11) (j) (by unfold FZm FNx; omega), show s1 (p + 12) = s (p + 12) from funext fun j => hf (p + 12) (j) (by unfold FZm FNx; omega)]; exact hlw k y0 y1⟩
theorem wT_walk (hp : 2 ≤ p ∧ p ≤ 17) (h : wT p s) (h5 : s p 6 < 5) (hz : zWalk p s tx n9 i = none) (hf : fr (FZw p (s p 6)) s s1) (v9 : s1 32 9 = 1) (v2 : s1 (p + 5) (s p 6) = fFind (s (p + 3)) (aV tx n9 (kE tx n9 (kE tx n9 i))) (s p 4).toNat) (v3 : s1 (p + 6) (s p 6) = nV tx n9 1 60 (kE tx n9 (kE tx n9 (kE tx n9 i)))) (v4 : s1 (p + 7) (s p 6) = nV tx n9 1 3 (kE tx n9 (kE tx n9 (kE tx n9 (kE tx n9 i))))) (v5 : s1 (p + 8) (s p 6) = zCell p s tx n9 (kE tx n9 (kE tx n9 (kE tx n9 (kE tx n9 (kE tx n9 i)))))) (v6 : s1 p 6 = s p 6 + 1) : wT p s1 := by
  have wz : wZ p s := h.1
  obtain ⟨⟨z0, z1, z2, z3, z4, z5⟩, hk, hwe, hsd, hki, hgr, hfo, hwg, hga, hho, hhl, hhc, hhb, hlw⟩ := h
  have h9 := fBq_n (or_n (or_n (or_n (or_n hz).2).2).2).1
  have hl9 := fFind_lt (s (p + 3)) (aV tx n9 (kE tx n9 (kE tx n9 i))) (s p 4).toNat
  have zc := zCell_bd (tx := tx) (n9 := n9) (i := (kE tx n9 (kE tx n9 (kE tx n9 (kE tx n9 (kE tx n9 i)))))) wz
  exact ⟨⟨by rw [hf (p) (0) (by unfold FZw FNx; omega)]; exact z0,
    by rw [hf (p) (1) (by unfold FZw FNx; omega)]; exact z1,
    by rw [hf (p) (4) (by unfold FZw FNx; omega)]; exact z2,
    by rw [v6]; omega,
    by rw [hf (35) (1) (by unfold FZw FNx; omega)]; exact z4,
    by rw [hf (35) (2) (by unfold FZw FNx; omega)]; exact z5⟩, by rw [hf (p) (14) (by unfold FZw FNx; omega)]; exact hk,
    by rw [hf (32) (14) (by unfold FZw FNx; omega), hf (p) (14) (by unfold FZw FNx; omega)]; exact hwe,
    by rw [hf (p) (13) (by unfold FZw FNx; omega)]; exact hsd,
    fun c y0 y1 => by rw [hf (p + 1) (c) (by unfold FZw FNx; omega)]; exact hki c y0 y1,
    fun c y0 y1 => by rw [hf (p + 2) (c) (by unfold FZw FNx; omega), hf (p) (4) (by unfold FZw FNx; omega)]; exact hgr c y0 y1,
    fun f y0 y1 => by
      rw [v6] at y1
      rw [hf p 4 (by unfold FZw FNx; omega)]
      by_cases e9 : f = s p 6
      · rw [e9, v2]; omega
      · rw [hf (p + 5) f (by unfold FZw FNx; omega)]; exact hfo f y0 (by omega),
    fun f y0 y1 => by
      rw [v6] at y1
      by_cases e9 : f = s p 6
      · rw [e9, v3]; exact nV_bd (by decide)
      · rw [hf (p + 6) f (by unfold FZw FNx; omega)]; exact hwg f y0 (by omega),
    fun f y0 y1 => by
      rw [v6] at y1
      by_cases e9 : f = s p 6
      · rw [e9, v4]; exact nV_bd (by decide)
      · rw [hf (p + 7) f (by unfold FZw FNx; omega)]; exact hga f y0 (by omega),
    fun f y0 y1 => by
      rw [v6] at y1
      rw [hf p 0 (by unfold FZw FNx; omega), hf p 1 (by unfold FZw FNx; omega)]
      by_cases e9 : f = s p 6
      · rw [e9, v5]; omega
      · rw [hf (p + 8) f (by unfold FZw FNx; omega)]; exact hho f y0 (by omega),
    fun f y0 y1 => by rw [hf (p + 10) (f) (by unfold FZw FNx; omega)]; exact hhl f y0 y1,
    fun z => by omega,
    fun f y0 y1 => by
      by_cases e9 : f = s p 6
      · rw [e9, v5]; omega
      · rw [hf (p + 8) f (by unfold FZw FNx; omega)]; exact hhb f y0 y1,
    fun k y0 y1 => by unfold pLk; rw [hf (p + 13) (k) (by unfold FZw FNx; omega), hf (p + 14) (k) (by unfold FZw FNx; omega), hf (32) (14) (by unfold FZw FNx; omega), show s1 (p + 11) = s (p + 11) from funext fun j => hf (p + 11) (j) (by unfold FZw FNx; omega), show s1 (p + 12) = s (p + 12) from funext fun j => hf (p + 12) (j) (by unfold FZw FNx; omega)]; exact hlw k y0 y1⟩
theorem wT_cast (hp : 2 ≤ p ∧ p ≤ 17) (h : wT p s) {m : Int} (hm : 1 ≤ m ∧ m ≤ 24) (hf : fr (FZc p m) s s1) (v : ∀ q : Int, 0 ≤ q → q < m → s1 (p + 10) q = nV tx n9 0 100 (kI tx n9 q.toNat (kE tx n9 i))) : wT p s1 := by
  have wz : wZ p s := h.1
  obtain ⟨⟨z0, z1, z2, z3, z4, z5⟩, hk, hwe, hsd, hki, hgr, hfo, hwg, hga, hho, hhl, hhc, hhb, hlw⟩ := h
  exact ⟨⟨by rw [hf (p) (0) (by unfold FZc FNx; omega)]; exact z0,
    by rw [hf (p) (1) (by unfold FZc FNx; omega)]; exact z1,
    by rw [hf (p) (4) (by unfold FZc FNx; omega)]; exact z2,
    by rw [hf (p) (6) (by unfold FZc FNx; omega)]; exact z3,
    by rw [hf (35) (1) (by unfold FZc FNx; omega)]; exact z4,
    by rw [hf (35) (2) (by unfold FZc FNx; omega)]; exact z5⟩, by rw [hf (p) (14) (by unfold FZc FNx; omega)]; exact hk,
    by rw [hf (32) (14) (by unfold FZc FNx; omega), hf (p) (14) (by unfold FZc FNx; omega)]; exact hwe,
    by rw [hf (p) (13) (by unfold FZc FNx; omega)]; exact hsd,
    fun c y0 y1 => by rw [hf (p + 1) (c) (by unfold FZc FNx; omega)]; exact hki c y0 y1,
    fun c y0 y1 => by rw [hf (p + 2) (c) (by unfold FZc FNx; omega), hf (p) (4) (by unfold FZc FNx; omega)]; exact hgr c y0 y1,
    fun f y0 y1 => by rw [hf (p) (6) (by unfold FZc FNx; omega)] at y1; rw [hf (p + 5) (f) (by unfold FZc FNx; omega), hf (p) (4) (by unfold FZc FNx; omega)]; exact hfo f y0 y1,
    fun f y0 y1 => by rw [hf (p) (6) (by unfold FZc FNx; omega)] at y1; rw [hf (p + 6) (f) (by unfold FZc FNx; omega)]; exact hwg f y0 y1,
    fun f y0 y1 => by rw [hf (p) (6) (by unfold FZc FNx; omega)] at y1; rw [hf (p + 7) (f) (by unfold FZc FNx; omega)]; exact hga f y0 y1,
    fun f y0 y1 => by rw [hf (p) (6) (by unfold FZc FNx; omega)] at y1; rw [hf (p + 8) (f) (by unfold FZc FNx; omega), hf (p) (0) (by unfold FZc FNx; omega), hf (p) (1) (by unfold FZc FNx; omega)]; exact hho f y0 y1,
    fun f y0 y1 => by
      by_cases e9 : f < m
      · rw [v f y0 e9]; exact nV_bd (by decide)
      · rw [hf (p + 10) f (by unfold FZc FNx; omega)]; exact hhl f y0 y1,
    by rw [hf (32) (9) (by unfold FZc FNx; omega), hf (p) (4) (by unfold FZc FNx; omega), hf (p) (6) (by unfold FZc FNx; omega)]; exact hhc,
    fun f y0 y1 => by rw [hf (p + 8) (f) (by unfold FZc FNx; omega)]; exact hhb f y0 y1,
    fun k y0 y1 => by unfold pLk; rw [hf (p + 13) (k) (by unfold FZc FNx; omega), hf (p + 14) (k) (by unfold FZc FNx; omega), hf (32) (14) (by unfold FZc FNx; omega), show s1 (p + 11) = s (p + 11) from funext fun j => hf (p + 11) (j) (by unfold FZc FNx; omega), show s1 (p + 12) = s (p + 12) from funext fun j => hf (p + 12) (j) (by unfold FZc FNx; omega)]; exact hlw k y0 y1⟩
theorem wT_law (hp : 2 ≤ p ∧ p ≤ 17) (h : wT p s) (hn : n9 ≤ 700) (hi : 0 ≤ i ∧ i ≤ n9) {e : Int} (hz : zLawS p tx n9 s i s1 e) (hf : fr (FLa p) s s1) : wT p s1 := by
  have hwe0 := h.2.2.1
  have wz : wZ p s := h.1
  obtain ⟨⟨z0, z1, z2, z3, z4, z5⟩, hk, hwe, hsd, hki, hgr, hfo, hwg, hga, hho, hhl, hhc, hhb, hlw⟩ := h
  obtain ⟨hK, hu, s2, s3, f2, g13, hx, f3, rfl⟩ := hz
  generalize kT tx n9 (kE tx n9 i) - 8 = K at *
  have b1 : s2 32 14 = s 32 14 := f2 _ _ (by unfold FLw; omega)
  have b2 : s2 p 14 = s p 14 := f2 _ _ (by unfold FLw; omega)
  have hle := law_end hp hn (kE_in (kE_in hi)) (by omega) (by omega) hx
  obtain ⟨c1, c2, c3, c4, c5, c6, c7⟩ := hle
  have d11 : (sx_up s3 (p + 14) K (s3 32 14)) (p + 11) = s3 (p + 11) := funext fun j => by rw [up_n (by omega)]
  have d12 : (sx_up s3 (p + 14) K (s3 32 14)) (p + 12) = s3 (p + 12) := funext fun j => by rw [up_n (by omega)]
  have d14 : (sx_up s3 (p + 14) K (s3 32 14)) 32 14 = s3 32 14 := by rw [up_n (by omega)]
  have dp14 : (sx_up s3 (p + 14) K (s3 32 14)) p 14 = s3 p 14 := by rw [up_n (by omega)]
  exact ⟨⟨by rw [hf (p) (0) (by unfold FLa; omega)]; exact z0,
    by rw [hf (p) (1) (by unfold FLa; omega)]; exact z1,
    by rw [hf (p) (4) (by unfold FLa; omega)]; exact z2,
    by rw [hf (p) (6) (by unfold FLa; omega)]; exact z3,
    by rw [hf (35) (1) (by unfold FLa; omega)]; exact z4,
    by rw [hf (35) (2) (by unfold FLa; omega)]; exact z5⟩, by rw [dp14]; omega,
    by rw [d14, dp14]; exact c1,
    by rw [hf (p) (13) (by unfold FLa; omega)]; exact hsd,
    fun c y0 y1 => by rw [hf (p + 1) (c) (by unfold FLa; omega)]; exact hki c y0 y1,
    fun c y0 y1 => by rw [hf (p + 2) (c) (by unfold FLa; omega), hf (p) (4) (by unfold FLa; omega)]; exact hgr c y0 y1,
    fun f y0 y1 => by rw [hf (p) (6) (by unfold FLa; omega)] at y1; rw [hf (p + 5) (f) (by unfold FLa; omega), hf (p) (4) (by unfold FLa; omega)]; exact hfo f y0 y1,
    fun f y0 y1 => by rw [hf (p) (6) (by unfold FLa; omega)] at y1; rw [hf (p + 6) (f) (by unfold FLa; omega)]; exact hwg f y0 y1,
    fun f y0 y1 => by rw [hf (p) (6) (by unfold FLa; omega)] at y1; rw [hf (p + 7) (f) (by unfold FLa; omega)]; exact hga f y0 y1,
    fun f y0 y1 => by rw [hf (p) (6) (by unfold FLa; omega)] at y1; rw [hf (p + 8) (f) (by unfold FLa; omega), hf (p) (0) (by unfold FLa; omega), hf (p) (1) (by unfold FLa; omega)]; exact hho f y0 y1,
    fun f y0 y1 => by rw [hf (p + 10) (f) (by unfold FLa; omega)]; exact hhl f y0 y1,
    by rw [hf (32) (9) (by unfold FLa; omega), hf (p) (4) (by unfold FLa; omega), hf (p) (6) (by unfold FLa; omega)]; exact hhc,
    fun f y0 y1 => by rw [hf (p + 8) (f) (by unfold FLa; omega)]; exact hhb f y0 y1,
    fun k y0 y1 => by
      have d13 : ∀ j : Int, (sx_up s3 (p + 14) K (s3 32 14)) (p + 13) j = s2 (p + 13) j := fun j => by rw [up_n (by omega)]; exact f3 _ _ (by unfold FEv; omega)
      unfold pLk
      rw [d11, d12, d13, d14]
      by_cases e9 : k = K
      · subst e9
        rw [up_s, g13, ← b1]
        exact Or.inr ⟨by omega, by omega, by omega, c4, c5, c6⟩
      · rw [up_n (by omega), f3 (p + 14) k (by unfold FEv; omega), f2 (p + 14) k (by unfold FLw; omega), f2 (p + 13) k (by unfold FLw; omega)]
        rcases hlw k y0 y1 with h1 | ⟨h1, h2, h3, h4, h5, h6⟩
        · exact Or.inl h1
        · have g11 : ∀ y : Int, y < s 32 14 → s3 (p + 11) y = s (p + 11) y := fun y z => (c7 y (by omega)).1.trans (f2 _ _ (by unfold FLw; omega))
          have g12 : ∀ y : Int, y < s 32 14 → s3 (p + 12) y = s (p + 12) y := fun y z => (c7 y (by omega)).2.trans (f2 _ _ (by unfold FLw; omega))
          have hd := dp_cg (code := s (p + 11)) (code' := s3 (p + 11)) (lo := s (p + 13) k) (i := s (p + 14) k) (fun y z0 z1 => g11 y (by omega)) (by omega)
          rw [hd.1, hd.2]
          exact Or.inr ⟨h1, h2, by omega, fun y z0 z1 => cV_cg z0 (fun x w0 w1 => g11 x (by omega)) (g12 y (by omega)) (h4 y z0 z1), h5, h6⟩⟩
theorem wT_line {e' : Int} (hp : 2 ≤ p ∧ p ≤ 17) (hn : n9 ≤ 700) (hi : 0 ≤ i ∧ i ≤ n9) (h : wT p s) (hl : pLnS p tx n9 s s' i e') : wT p s' := by
  obtain ⟨s1, e, hl, _, _, hf, _⟩ := hl
  refine wT_fr (s := s1) hp ?_ (fun a j z => hf a j (by unfold FXa; omega))
  rcases hl with ⟨_, hz, _, f, _, v0, v1⟩ | ⟨hk, hz, _, f, v9, v1, v2⟩ | ⟨_, h3, _, _, f, v9, v1, _, v2⟩ | ⟨_, h5, hz, _, f, v9, _, v2, v3, v4, v5, v6⟩ | ⟨_, _, m, hm, _, _, _, f, _, v⟩ | ⟨_, _, _, f, _, v⟩ | ⟨_, hz, f⟩
  · exact wT_field hp h hz f v0 v1
  · exact wT_kind hp h hk hz f v9 v1 v2
  · exact wT_farm hp h h3 f v9 v1 v2
  · exact wT_walk hp h h5 hz f v9 v2 v3 v4 v5 v6
  · exact wT_cast hp h hm f v
  · exact wT_seed hp h f v
  · exact wT_law hp h hn hi hz f
/-- the plan in the class's cells -/
noncomputable def fPl (p : Int) (s : sx_S) : aP := (s p 0, s p 1, s p 4, s p 6, s p 14, s p 13, s (p + 1), s (p + 2), s (p + 3), s (p + 4), s (p + 5), s (p + 6), s (p + 7), s (p + 8), s (p + 10), fun k nm => if s (p + 14) k ≤ s (p + 13) k then none else fLaw (kdF (s (p + 11))) (ptF (s (p + 11)) (s (p + 12)) (s (p + 13) k)) (otF (s (p + 11)) (s (p + 13) k)) nm (s (p + 13) k) (s (p + 14) k))
theorem wP_F (h : wT p s) : wP (fPl p s) := by
  obtain ⟨⟨z0, z1, z2, z3, z4, z5⟩, hk, hwe, hsd, hki, hgr, hfo, hwg, hga, hho, hhl, hhc, hhb, hlw⟩ := h
  have hc := cell_bd (x := s p 0 - 1) (y := s p 1 - 1) z0 z1 (by omega) (by omega)
  have h1 : s p 0 * s p 1 = (s p 1 - 1) * s p 0 + (s p 0 - 1) + 1 := by rw [Int.sub_mul, Int.mul_comm]; omega
  exact ⟨z0, z1, z2, z3, hk, hsd, ⟨by show 1 ≤ s p 0 * s p 1; omega, by show s p 0 * s p 1 ≤ 48; omega⟩, hki, hgr, hfo, hwg, hga, hho, hhl⟩
theorem cP_F (h : wT p s) : cP p s (fPl p s) := by
  obtain ⟨⟨z0, z1, z2, z3, z4, z5⟩, hk, hwe, hsd, hki, hgr, hfo, hwg, hga, hho, hhl, hhc, hhb, hlw⟩ := h
  refine ⟨rfl, rfl, rfl, rfl, rfl, rfl, fun _ _ _ => rfl, fun _ _ _ => rfl, fun _ _ _ => rfl, fun _ _ _ => rfl, fun _ _ _ => rfl, fun _ _ _ => rfl, fun _ _ _ => rfl, fun _ _ _ => rfl, hhb, fun _ _ _ => rfl, fun k nm k0 k1 _ => ?_⟩
  show pLw (s (p + 11)) (s (p + 12)) (s (p + 13)) (s (p + 14)) k nm (if s (p + 14) k ≤ s (p + 13) k then none else _)
  by_cases e : s (p + 14) k ≤ s (p + 13) k
  · rw [if_pos e]; exact Or.inl ⟨e, rfl⟩
  · rw [if_neg e]
    rcases hlw k k0 k1 with h1 | ⟨h1, h2, h3, h4, h5, h6⟩
    · omega
    · exact Or.inr ⟨_, _, _, _, _, h1, h2, by omega, pW_F h4 h5 h6, rfl⟩
end SXQ5
