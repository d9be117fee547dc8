/-! LINE BY LINE: reference beside class (by wip/whole) -/
section SXS1
variable {X : sx_X} {Q : sx_R} {σ σ0 σ' σ1 σ2 s s' s1 r r' s3 : sx_S} {tx : Int → Int} {n9 p i lo : Int} {O : Option (Int × Int)}
theorem cpl_fr (hp : 2 ≤ p ∧ p ≤ 17) (hc : cpl p s r) (hs : ∀ a j : Int, ¬ (a < 2 ∨ a = 33 ∨ (a = 32 ∧ (j = 0 ∨ j = 1 ∨ j = 2))) → s1 a j = s a j) (hr : ∀ a j : Int, ¬ (a = 124 ∧ (j = 4 ∨ j = 5 ∨ (7 ≤ j ∧ j ≤ 11) ∨ j = 45)) → r' a j = r a j) : cpl p s1 r' := by
  obtain ⟨⟨c18, c19, c20, c21, c22, c51, c23⟩, ⟨c24, c25, c26, c27, c28, c29⟩, ck, cg, cfn, cwn, chl, chb, clw, ckn⟩ := hc
  exact ⟨⟨(hr (124) (18) (by omega)).trans (c18.trans (hs (p) (0) (by omega)).symm),
    (hr (124) (19) (by omega)).trans (c19.trans (hs (p) (1) (by omega)).symm),
    (hr (124) (20) (by omega)).trans (c20.trans (hs (p) (4) (by omega)).symm),
    (hr (124) (21) (by omega)).trans (c21.trans (hs (p) (6) (by omega)).symm),
    (hr (124) (22) (by omega)).trans (c22.trans (hs (32) (14) (by omega)).symm),
    (hr (124) (51) (by omega)).trans (c51.trans (hs (p) (14) (by omega)).symm),
    (hr (124) (23) (by omega)).trans (c23.trans (hs (p) (13) (by omega)).symm)⟩, ⟨(hr (124) (24) (by omega)).trans (c24.trans (hs (35) (1) (by omega)).symm),
    (hr (124) (25) (by omega)).trans (c25.trans (hs (35) (2) (by omega)).symm),
    (hr (124) (26) (by omega)).trans (c26.trans (hs (32) (6) (by omega)).symm),
    (hr (124) (27) (by omega)).trans (c27.trans (hs (32) (7) (by omega)).symm),
    (hr (124) (28) (by omega)).trans (c28.trans (hs (32) (8) (by omega)).symm),
    (hr (124) (29) (by omega)).trans (c29.trans (hs (32) (9) (by omega)).symm)⟩, fun c y0 y1 => by rw [hr (127) (48 + c) (by omega), hs (p + 1) (c) (by omega)]; exact ck c y0 y1,
    fun c y0 y1 => by rw [hr (128) (48 + c) (by omega), hs (p + 2) (c) (by omega)]; exact cg c y0 y1,
    fun f y0 y1 => by rw [hs (p) (4) (by omega)] at y1; rw [hr (129) (3 + f) (by omega), hs (p + 3) (f) (by omega)]; exact cfn f y0 y1,
    fun f y0 y1 => by rw [hs (p) (6) (by omega)] at y1; rw [hr (130) (5 + f) (by omega), hr (131) (5 + f) (by omega), hr (132) (5 + f) (by omega), hr (133) (5 + f) (by omega), hr (134) (5 + f) (by omega), hs (p + 4) (f) (by omega), hs (p + 5) (f) (by omega), hs (p + 6) (f) (by omega), hs (p + 7) (f) (by omega), hs (p + 8) (f) (by omega)]; exact cwn f y0 y1,
    fun f y0 y1 => by rw [hr (135) (24 + f) (by omega), hs (p + 10) (f) (by omega)]; exact chl f y0 y1,
    fun f y0 y1 => by rw [hr (134) (5 + f) (by omega)]; exact chb f y0 y1,
    fun k y0 y1 => by rw [hr (136) (3 + fLk k) (by omega), hr (137) (3 + fLk k) (by omega), hr (138) (3 + fLk k) (by omega), hs (p + 14) (k) (by omega), hs (p + 13) (k) (by omega)]; exact clw k y0 y1,
    fun k y y0 y1 z0 z1 => by rw [hs (p + 13) (k) (by omega)] at z0; rw [hs (p + 14) (k) (by omega)] at z1; rw [show s1 (p + 11) = s (p + 11) from funext fun j => hs (p + 11) (j) (by omega), show s1 (p + 12) = s (p + 12) from funext fun j => hs (p + 12) (j) (by omega), hr (139) (64 + y) (by omega), hr (140) (64 + y) (by omega), hr (141) (64 + y) (by omega), hs (p + 13) (k) (by omega)]; exact ckn k y y0 y1 z0 z1⟩
theorem cpl_field (hp : 2 ≤ p ∧ p ≤ 17) (hc : cpl p s r) (hs : fr (FZf p) s s1) (hr : fr (fun a j => FRg a j ∨ (a = 124 ∧ (j = 18 ∨ j = 19 ∨ j = 26))) r r') (v6 : s1 32 6 = 1) (v0 : s1 p 0 = r' 124 18) (v1 : s1 p 1 = r' 124 19) (u26 : r' 124 26 = 1) : cpl p s1 r' := by
  obtain ⟨⟨c18, c19, c20, c21, c22, c51, c23⟩, ⟨c24, c25, c26, c27, c28, c29⟩, ck, cg, cfn, cwn, chl, chb, clw, ckn⟩ := hc
  exact ⟨⟨v0.symm,
    v1.symm,
    (hr (124) (20) (by unfold FRg; omega)).trans (c20.trans (hs (p) (4) (by unfold FZf FNx; omega)).symm),
    (hr (124) (21) (by unfold FRg; omega)).trans (c21.trans (hs (p) (6) (by unfold FZf FNx; omega)).symm),
    (hr (124) (22) (by unfold FRg; omega)).trans (c22.trans (hs (32) (14) (by unfold FZf FNx; omega)).symm),
    (hr (124) (51) (by unfold FRg; omega)).trans (c51.trans (hs (p) (14) (by unfold FZf FNx; omega)).symm),
    (hr (124) (23) (by unfold FRg; omega)).trans (c23.trans (hs (p) (13) (by unfold FZf FNx; omega)).symm)⟩, ⟨(hr (124) (24) (by unfold FRg; omega)).trans (c24.trans (hs (35) (1) (by unfold FZf FNx; omega)).symm),
    (hr (124) (25) (by unfold FRg; omega)).trans (c25.trans (hs (35) (2) (by unfold FZf FNx; omega)).symm),
    u26.trans v6.symm,
    (hr (124) (27) (by unfold FRg; omega)).trans (c27.trans (hs (32) (7) (by unfold FZf FNx; omega)).symm),
    (hr (124) (28) (by unfold FRg; omega)).trans (c28.trans (hs (32) (8) (by unfold FZf FNx; omega)).symm),
    (hr (124) (29) (by unfold FRg; omega)).trans (c29.trans (hs (32) (9) (by unfold FZf FNx; omega)).symm)⟩, fun c y0 y1 => by rw [hr (127) (48 + c) (by unfold FRg; omega), hs (p + 1) (c) (by unfold FZf FNx; omega)]; exact ck c y0 y1,
    fun c y0 y1 => by rw [hr (128) (48 + c) (by unfold FRg; omega), hs (p + 2) (c) (by unfold FZf FNx; omega)]; exact cg c y0 y1,
    fun f y0 y1 => by rw [hs (p) (4) (by unfold FZf FNx; omega)] at y1; rw [hr (129) (3 + f) (by unfold FRg; omega), hs (p + 3) (f) (by unfold FZf FNx; omega)]; exact cfn f y0 y1,
    fun f y0 y1 => by rw [hs (p) (6) (by unfold FZf FNx; omega)] at y1; rw [hr (130) (5 + f) (by unfold FRg; omega), hr (131) (5 + f) (by unfold FRg; omega), hr (132) (5 + f) (by unfold FRg; omega), hr (133) (5 + f) (by unfold FRg; omega), hr (134) (5 + f) (by unfold FRg; omega), hs (p + 4) (f) (by unfold FZf FNx; omega), hs (p + 5) (f) (by unfold FZf FNx; omega), hs (p + 6) (f) (by unfold FZf FNx; omega), hs (p + 7) (f) (by unfold FZf FNx; omega), hs (p + 8) (f) (by unfold FZf FNx; omega)]; exact cwn f y0 y1,
    fun f y0 y1 => by rw [hr (135) (24 + f) (by unfold FRg; omega), hs (p + 10) (f) (by unfold FZf FNx; omega)]; exact chl f y0 y1,
    fun f y0 y1 => by rw [hr (134) (5 + f) (by unfold FRg; omega)]; exact chb f y0 y1,
    fun k y0 y1 => by rw [hr (136) (3 + fLk k) (by unfold FRg; omega), hr (137) (3 + fLk k) (by unfold FRg; omega), hr (138) (3 + fLk k) (by unfold FRg; omega), hs (p + 14) (k) (by unfold FZf FNx; omega), hs (p + 13) (k) (by unfold FZf FNx; omega)]; exact clw k y0 y1,
    fun k y y0 y1 z0 z1 => by rw [hs (p + 13) (k) (by unfold FZf FNx; omega)] at z0; rw [hs (p + 14) (k) (by unfold FZf FNx; omega)] at z1; rw [show s1 (p + 11) = s (p + 11) from funext fun j => hs (p + 11) (j) (by unfold FZf FNx; omega), show s1 (p + 12) = s (p + 12) from funext fun j => hs (p + 12) (j) (by unfold FZf FNx; omega), hr (139) (64 + y) (by unfold FRg; omega), hr (140) (64 + y) (by unfold FRg; omega), hr (141) (64 + y) (by unfold FRg; omega), hs (p + 13) (k) (by unfold FZf FNx; omega)]; exact ckn k y y0 y1 z0 z1⟩
theorem cpl_seed (hp : 2 ≤ p ∧ p ≤ 17) (hc : cpl p s r) (hs : fr (FZs p) s s1) (hr : fr (fun a j => FRg a j ∨ (a = 124 ∧ (j = 23 ∨ j = 28))) r r') (v6 : s1 32 8 = 1) (v0 : s1 p 13 = r' 124 23) (u26 : r' 124 28 = 1) : cpl p s1 r' := by
  obtain ⟨⟨c18, c19, c20, c21, c22, c51, c23⟩, ⟨c24, c25, c26, c27, c28, c29⟩, ck, cg, cfn, cwn, chl, chb, clw, ckn⟩ := hc
  exact ⟨⟨(hr (124) (18) (by unfold FRg; omega)).trans (c18.trans (hs (p) (0) (by unfold FZs FNx; omega)).symm),
    (hr (124) (19) (by unfold FRg; omega)).trans (c19.trans (hs (p) (1) (by unfold FZs FNx; omega)).symm),
    (hr (124) (20) (by unfold FRg; omega)).trans (c20.trans (hs (p) (4) (by unfold FZs FNx; omega)).symm),
    (hr (124) (21) (by unfold FRg; omega)).trans (c21.trans (hs (p) (6) (by unfold FZs FNx; omega)).symm),
    (hr (124) (22) (by unfold FRg; omega)).trans (c22.trans (hs (32) (14) (by unfold FZs FNx; omega)).symm),
    (hr (124) (51) (by unfold FRg; omega)).trans (c51.trans (hs (p) (14) (by unfold FZs FNx; omega)).symm),
    v0.symm⟩, ⟨(hr (124) (24) (by unfold FRg; omega)).trans (c24.trans (hs (35) (1) (by unfold FZs FNx; omega)).symm),
    (hr (124) (25) (by unfold FRg; omega)).trans (c25.trans (hs (35) (2) (by unfold FZs FNx; omega)).symm),
    (hr (124) (26) (by unfold FRg; omega)).trans (c26.trans (hs (32) (6) (by unfold FZs FNx; omega)).symm),
    (hr (124) (27) (by unfold FRg; omega)).trans (c27.trans (hs (32) (7) (by unfold FZs FNx; omega)).symm),
    u26.trans v6.symm,
    (hr (124) (29) (by unfold FRg; omega)).trans (c29.trans (hs (32) (9) (by unfold FZs FNx; omega)).symm)⟩, fun c y0 y1 => by rw [hr (127) (48 + c) (by unfold FRg; omega), hs (p + 1) (c) (by unfold FZs FNx; omega)]; exact ck c y0 y1,
    fun c y0 y1 => by rw [hr (128) (48 + c) (by unfold FRg; omega), hs (p + 2) (c) (by unfold FZs FNx; omega)]; exact cg c y0 y1,
    fun f y0 y1 => by rw [hs (p) (4) (by unfold FZs FNx; omega)] at y1; rw [hr (129) (3 + f) (by unfold FRg; omega), hs (p + 3) (f) (by unfold FZs FNx; omega)]; exact cfn f y0 y1,
    fun f y0 y1 => by rw [hs (p) (6) (by unfold FZs FNx; omega)] at y1; rw [hr (130) (5 + f) (by unfold FRg; omega), hr (131) (5 + f) (by unfold FRg; omega), hr (132) (5 + f) (by unfold FRg; omega), hr (133) (5 + f) (by unfold FRg; omega), hr (134) (5 + f) (by unfold FRg; omega), hs (p + 4) (f) (by unfold FZs FNx; omega), hs (p + 5) (f) (by unfold FZs FNx; omega), hs (p + 6) (f) (by unfold FZs FNx; omega), hs (p + 7) (f) (by unfold FZs FNx; omega), hs (p + 8) (f) (by unfold FZs FNx; omega)]; exact cwn f y0 y1,
    fun f y0 y1 => by rw [hr (135) (24 + f) (by unfold FRg; omega), hs (p + 10) (f) (by unfold FZs FNx; omega)]; exact chl f y0 y1,
    fun f y0 y1 => by rw [hr (134) (5 + f) (by unfold FRg; omega)]; exact chb f y0 y1,
    fun k y0 y1 => by rw [hr (136) (3 + fLk k) (by unfold FRg; omega), hr (137) (3 + fLk k) (by unfold FRg; omega), hr (138) (3 + fLk k) (by unfold FRg; omega), hs (p + 14) (k) (by unfold FZs FNx; omega), hs (p + 13) (k) (by unfold FZs FNx; omega)]; exact clw k y0 y1,
    fun k y y0 y1 z0 z1 => by rw [hs (p + 13) (k) (by unfold FZs FNx; omega)] at z0; rw [hs (p + 14) (k) (by unfold FZs FNx; omega)] at z1; rw [show s1 (p + 11) = s (p + 11) from funext fun j => hs (p + 11) (j) (by unfold FZs FNx; omega), show s1 (p + 12) = s (p + 12) from funext fun j => hs (p + 12) (j) (by unfold FZs FNx; omega), hr (139) (64 + y) (by unfold FRg; omega), hr (140) (64 + y) (by unfold FRg; omega), hr (141) (64 + y) (by unfold FRg; omega), hs (p + 13) (k) (by unfold FZs FNx; omega)]; exact ckn k y y0 y1 z0 z1⟩
theorem cpl_kind1 (hp : 2 ≤ p ∧ p ≤ 17) (hc : cpl p s r) {c9 : Int} (hc9 : 0 ≤ c9 ∧ c9 < 48) (hs : fr (FZk p 1 c9) s s1) (hr : fr (fun a j => FRg a j ∨ (a = 124 ∧ (j = 24 ∨ j = 25 ∨ j = 29 ∨ j = 45)) ∨ (a = 127 ∧ j = 48 + c9)) r r') (v9 : s1 32 9 = 1) (u9 : r' 124 29 = 1) (v1 : s1 (p + 1) c9 = 1) (u1 : r' 127 (48 + c9) = 1) (v2 : s1 35 1 = s 35 1 + 1) (u24 : r' 124 24 = r 124 24 + 1) (u25 : r' 124 25 = r 124 25 + 0) : cpl p s1 r' := by
  obtain ⟨⟨c18, c19, c20, c21, c22, c51, c23⟩, ⟨c24, c25, c26, c27, c28, c29⟩, ck, cg, cfn, cwn, chl, chb, clw, ckn⟩ := hc
  exact ⟨⟨(hr (124) (18) (by unfold FRg; omega)).trans (c18.trans (hs (p) (0) (by unfold FZk FNx; omega)).symm),
    (hr (124) (19) (by unfold FRg; omega)).trans (c19.trans (hs (p) (1) (by unfold FZk FNx; omega)).symm),
    (hr (124) (20) (by unfold FRg; omega)).trans (c20.trans (hs (p) (4) (by unfold FZk FNx; omega)).symm),
    (hr (124) (21) (by unfold FRg; omega)).trans (c21.trans (hs (p) (6) (by unfold FZk FNx; omega)).symm),
    (hr (124) (22) (by unfold FRg; omega)).trans (c22.trans (hs (32) (14) (by unfold FZk FNx; omega)).symm),
    (hr (124) (51) (by unfold FRg; omega)).trans (c51.trans (hs (p) (14) (by unfold FZk FNx; omega)).symm),
    (hr (124) (23) (by unfold FRg; omega)).trans (c23.trans (hs (p) (13) (by unfold FZk FNx; omega)).symm)⟩, ⟨by rw [u24, c24, v2],
    by rw [u25, c25, hs 35 2 (by unfold FZk FNx; omega)]; omega,
    (hr (124) (26) (by unfold FRg; omega)).trans (c26.trans (hs (32) (6) (by unfold FZk FNx; omega)).symm),
    (hr (124) (27) (by unfold FRg; omega)).trans (c27.trans (hs (32) (7) (by unfold FZk FNx; omega)).symm),
    (hr (124) (28) (by unfold FRg; omega)).trans (c28.trans (hs (32) (8) (by unfold FZk FNx; omega)).symm),
    u9.trans v9.symm⟩, fun c y0 y1 => by
      by_cases e9 : c = c9
      · rw [e9, v1, u1]
      · rw [hr 127 (48 + c) (by unfold FRg; omega), hs (p + 1) c (by unfold FZk FNx; omega)]; exact ck c y0 y1,
    fun c y0 y1 => by rw [hr (128) (48 + c) (by unfold FRg; omega), hs (p + 2) (c) (by unfold FZk FNx; omega)]; exact cg c y0 y1,
    fun f y0 y1 => by rw [hs (p) (4) (by unfold FZk FNx; omega)] at y1; rw [hr (129) (3 + f) (by unfold FRg; omega), hs (p + 3) (f) (by unfold FZk FNx; omega)]; exact cfn f y0 y1,
    fun f y0 y1 => by rw [hs (p) (6) (by unfold FZk FNx; omega)] at y1; rw [hr (130) (5 + f) (by unfold FRg; omega), hr (131) (5 + f) (by unfold FRg; omega), hr (132) (5 + f) (by unfold FRg; omega), hr (133) (5 + f) (by unfold FRg; omega), hr (134) (5 + f) (by unfold FRg; omega), hs (p + 4) (f) (by unfold FZk FNx; omega), hs (p + 5) (f) (by unfold FZk FNx; omega), hs (p + 6) (f) (by unfold FZk FNx; omega), hs (p + 7) (f) (by unfold FZk FNx; omega), hs (p + 8) (f) (by unfold FZk FNx; omega)]; exact cwn f y0 y1,
    fun f y0 y1 => by rw [hr (135) (24 + f) (by unfold FRg; omega), hs (p + 10) (f) (by unfold FZk FNx; omega)]; exact chl f y0 y1,
    fun f y0 y1 => by rw [hr (134) (5 + f) (by unfold FRg; omega)]; exact chb f y0 y1,
    fun k y0 y1 => by rw [hr (136) (3 + fLk k) (by unfold FRg; omega), hr (137) (3 + fLk k) (by unfold FRg; omega), hr (138) (3 + fLk k) (by unfold FRg; omega), hs (p + 14) (k) (by unfold FZk FNx; omega), hs (p + 13) (k) (by unfold FZk FNx; omega)]; exact clw k y0 y1,
    fun k y y0 y1 z0 z1 => by rw [hs (p + 13) (k) (by unfold FZk FNx; omega)] at z0; rw [hs (p + 14) (k) (by unfold FZk FNx; omega)] at z1; rw [show s1 (p + 11) = s (p + 11) from funext fun j => hs (p + 11) (j) (by unfold FZk FNx; omega), show s1 (p + 12) = s (p + 12) from funext fun j => hs (p + 12) (j) (by unfold FZk FNx; omega), hr (139) (64 + y) (by unfold FRg; omega), hr (140) (64 + y) (by unfold FRg; omega), hr (141) (64 + y) (by unfold FRg; omega), hs (p + 13) (k) (by unfold FZk FNx; omega)]; exact ckn k y y0 y1 z0 z1⟩
theorem cpl_kind2 (hp : 2 ≤ p ∧ p ≤ 17) (hc : cpl p s r) {c9 : Int} (hc9 : 0 ≤ c9 ∧ c9 < 48) (hs : fr (FZk p 2 c9) s s1) (hr : fr (fun a j => FRg a j ∨ (a = 124 ∧ (j = 24 ∨ j = 25 ∨ j = 29 ∨ j = 45)) ∨ (a = 127 ∧ j = 48 + c9)) r r') (v9 : s1 32 9 = 1) (u9 : r' 124 29 = 1) (v1 : s1 (p + 1) c9 = 2) (u1 : r' 127 (48 + c9) = 2) (v2 : s1 35 2 = s 35 2 + 1) (u24 : r' 124 24 = r 124 24 + 0) (u25 : r' 124 25 = r 124 25 + 1) : cpl p s1 r' := by
  obtain ⟨⟨c18, c19, c20, c21, c22, c51, c23⟩, ⟨c24, c25, c26, c27, c28, c29⟩, ck, cg, cfn, cwn, chl, chb, clw, ckn⟩ := hc
  exact ⟨⟨(hr (124) (18) (by unfold FRg; omega)).trans (c18.trans (hs (p) (0) (by unfold FZk FNx; omega)).symm),
    (hr (124) (19) (by unfold FRg; omega)).trans (c19.trans (hs (p) (1) (by unfold FZk FNx; omega)).symm),
    (hr (124) (20) (by unfold FRg; omega)).trans (c20.trans (hs (p) (4) (by unfold FZk FNx; omega)).symm),
    (hr (124) (21) (by unfold FRg; omega)).trans (c21.trans (hs (p) (6) (by unfold FZk FNx; omega)).symm),
    (hr (124) (22) (by unfold FRg; omega)).trans (c22.trans (hs (32) (14) (by unfold FZk FNx; omega)).symm),
    (hr (124) (51) (by unfold FRg; omega)).trans (c51.trans (hs (p) (14) (by unfold FZk FNx; omega)).symm),
    (hr (124) (23) (by unfold FRg; omega)).trans (c23.trans (hs (p) (13) (by unfold FZk FNx; omega)).symm)⟩, ⟨by rw [u24, c24, hs 35 1 (by unfold FZk FNx; omega)]; omega,
    by rw [u25, c25, v2],
    (hr (124) (26) (by unfold FRg; omega)).trans (c26.trans (hs (32) (6) (by unfold FZk FNx; omega)).symm),
    (hr (124) (27) (by unfold FRg; omega)).trans (c27.trans (hs (32) (7) (by unfold FZk FNx; omega)).symm),
    (hr (124) (28) (by unfold FRg; omega)).trans (c28.trans (hs (32) (8) (by unfold FZk FNx; omega)).symm),
    u9.trans v9.symm⟩, fun c y0 y1 => by
      by_cases e9 : c = c9
      · rw [e9, v1, u1]
      · rw [hr 127 (48 + c) (by unfold FRg; omega), hs (p + 1) c (by unfold FZk FNx; omega)]; exact ck c y0 y1,
    fun c y0 y1 => by rw [hr (128) (48 + c) (by unfold FRg; omega), hs (p + 2) (c) (by unfold FZk FNx; omega)]; exact cg c y0 y1,
    fun f y0 y1 => by rw [hs (p) (4) (by unfold FZk FNx; omega)] at y1; rw [hr (129) (3 + f) (by unfold FRg; omega), hs (p + 3) (f) (by unfold FZk FNx; omega)]; exact cfn f y0 y1,
    fun f y0 y1 => by rw [hs (p) (6) (by unfold FZk FNx; omega)] at y1; rw [hr (130) (5 + f) (by unfold FRg; omega), hr (131) (5 + f) (by unfold FRg; omega), hr (132) (5 + f) (by unfold FRg; omega), hr (133) (5 + f) (by unfold FRg; omega), hr (134) (5 + f) (by unfold FRg; omega), hs (p + 4) (f) (by unfold FZk FNx; omega), hs (p + 5) (f) (by unfold FZk FNx; omega), hs (p + 6) (f) (by unfold FZk FNx; omega), hs (p + 7) (f) (by unfold FZk FNx; omega), hs (p + 8) (f) (by unfold FZk FNx; omega)]; exact cwn f y0 y1,
    fun f y0 y1 => by rw [hr (135) (24 + f) (by unfold FRg; omega), hs (p + 10) (f) (by unfold FZk FNx; omega)]; exact chl f y0 y1,
    fun f y0 y1 => by rw [hr (134) (5 + f) (by unfold FRg; omega)]; exact chb f y0 y1,
    fun k y0 y1 => by rw [hr (136) (3 + fLk k) (by unfold FRg; omega), hr (137) (3 + fLk k) (by unfold FRg; omega), hr (138) (3 + fLk k) (by unfold FRg; omega), hs (p + 14) (k) (by unfold FZk FNx; omega), hs (p + 13) (k) (by unfold FZk FNx; omega)]; exact clw k y0 y1,
    fun k y y0 y1 z0 z1 => by rw [hs (p + 13) (k) (by unfold FZk FNx; omega)] at z0; rw [hs (p + 14) (k) (by unfold FZk FNx; omega)] at z1; rw [show s1 (p + 11) = s (p + 11) from funext fun j => hs (p + 11) (j) (by unfold FZk FNx; omega), show s1 (p + 12) = s (p + 12) from funext fun j => hs (p + 12) (j) (by unfold FZk FNx; omega), hr (139) (64 + y) (by unfold FRg; omega), hr (140) (64 + y) (by unfold FRg; omega), hr (141) (64 + y) (by unfold FRg; omega), hs (p + 13) (k) (by unfold FZk FNx; omega)]; exact ckn k y y0 y1 z0 z1⟩
theorem cpl_farm (hp : 2 ≤ p ∧ p ≤ 17) (hc : cpl p s r) {q : Int → Prop} [DecidablePred q] (hs : fr (FZm p (s p 4)) s s1) (hr : fr (FFm (s p 4)) r r') (h4 : 0 ≤ s p 4) (v9 : s1 32 9 = 1) (u9 : r' 124 29 = 1) (v1 : ∀ c : Int, s1 (p + 2) c = if q c then s p 4 else s (p + 2) c) (u1 : ∀ c : Int, 0 ≤ c → c < 48 → r' 128 (48 + c) = if q c then s p 4 else s (p + 2) c) (v2 : s1 (p + 3) (s p 4) = r' 129 (3 + s p 4)) (v3 : s1 p 4 = s p 4 + 1) (u3 : r' 124 20 = s p 4 + 1) : cpl p s1 r' := by
  obtain ⟨⟨c18, c19, c20, c21, c22, c51, c23⟩, ⟨c24, c25, c26, c27, c28, c29⟩, ck, cg, cfn, cwn, chl, chb, clw, ckn⟩ := hc
  exact ⟨⟨(hr (124) (18) (by unfold FFm; omega)).trans (c18.trans (hs (p) (0) (by unfold FZm FNx; omega)).symm),
    (hr (124) (19) (by unfold FFm; omega)).trans (c19.trans (hs (p) (1) (by unfold FZm FNx; omega)).symm),
    u3.trans v3.symm,
    (hr (124) (21) (by unfold FFm; omega)).trans (c21.trans (hs (p) (6) (by unfold FZm FNx; omega)).symm),
    (hr (124) (22) (by unfold FFm; omega)).trans (c22.trans (hs (32) (14) (by unfold FZm FNx; omega)).symm),
    (hr (124) (51) (by unfold FFm; omega)).trans (c51.trans (hs (p) (14) (by unfold FZm FNx; omega)).symm),
    (hr (124) (23) (by unfold FFm; omega)).trans (c23.trans (hs (p) (13) (by unfold FZm FNx; omega)).symm)⟩, ⟨(hr (124) (24) (by unfold FFm; omega)).trans (c24.trans (hs (35) (1) (by unfold FZm FNx; omega)).symm),
    (hr (124) (25) (by unfold FFm; omega)).trans (c25.trans (hs (35) (2) (by unfold FZm FNx; omega)).symm),
    (hr (124) (26) (by unfold FFm; omega)).trans (c26.trans (hs (32) (6) (by unfold FZm FNx; omega)).symm),
    (hr (124) (27) (by unfold FFm; omega)).trans (c27.trans (hs (32) (7) (by unfold FZm FNx; omega)).symm),
    (hr (124) (28) (by unfold FFm; omega)).trans (c28.trans (hs (32) (8) (by unfold FZm FNx; omega)).symm),
    u9.trans v9.symm⟩, fun c y0 y1 => by rw [hr (127) (48 + c) (by unfold FFm; omega), hs (p + 1) (c) (by unfold FZm FNx; omega)]; exact ck c y0 y1,
    fun c y0 y1 => by rw [u1 c y0 y1, v1],
    fun f y0 y1 => by
      rw [v3] at y1
      by_cases e9 : f = s p 4
      · rw [e9, v2]
      · rw [hr 129 (3 + f) (by unfold FFm; omega), hs (p + 3) f (by unfold FZm FNx; omega)]; exact cfn f y0 (by omega),
    fun f y0 y1 => by rw [hs (p) (6) (by unfold FZm FNx; omega)] at y1; rw [hr (130) (5 + f) (by unfold FFm; omega), hr (131) (5 + f) (by unfold FFm; omega), hr (132) (5 + f) (by unfold FFm; omega), hr (133) (5 + f) (by unfold FFm; omega), hr (134) (5 + f) (by unfold FFm; omega), hs (p + 4) (f) (by unfold FZm FNx; omega), hs (p + 5) (f) (by unfold FZm FNx; omega), hs (p + 6) (f) (by unfold FZm FNx; omega), hs (p + 7) (f) (by unfold FZm FNx; omega), hs (p + 8) (f) (by unfold FZm FNx; omega)]; exact cwn f y0 y1,
    fun f y0 y1 => by rw [hr (135) (24 + f) (by unfold FFm; omega), hs (p + 10) (f) (by unfold FZm FNx; omega)]; exact chl f y0 y1,
    fun f y0 y1 => by rw [hr (134) (5 + f) (by unfold FFm; omega)]; exact chb f y0 y1,
    fun k y0 y1 => by rw [hr (136) (3 + fLk k) (by unfold FFm; omega), hr (137) (3 + fLk k) (by unfold FFm; omega), hr (138) (3 + fLk k) (by unfold FFm; omega), hs (p + 14) (k) (by unfold FZm FNx; omega), hs (p + 13) (k) (by unfold FZm FNx; omega)]; exact clw k y0 y1,
    fun k y y0 y1 z0 z1 => by rw [hs (p + 13) (k) (by unfold FZm FNx; omega)] at z0; rw [hs (p + 14) (k) (by unfold FZm FNx; omega)] at z1; rw [show s1 (p + 11) = s (p + 11) from funext fun j => hs (p + 11) (j) (by unfold FZm FNx; omega), show s1 (p + 12) = s (p + 12) from funext fun j => hs (p + 12) (j) (by unfold FZm FNx; omega), hr (139) (64 + y) (by unfold FFm; omega), hr (140) (64 + y) (by unfold FFm; omega), hr (141) (64 + y) (by unfold FFm; omega), hs (p + 13) (k) (by unfold FZm FNx; omega)]; exact ckn k y y0 y1 z0 z1⟩
theorem cpl_walk (hp : 2 ≤ p ∧ p ≤ 17) (hc : cpl p s r) (hs : fr (FZw p (s p 6)) s s1) (hr : fr (FWk (s p 6)) r r') (h6 : 0 ≤ s p 6 ∧ s p 6 < 5) (v9 : s1 32 9 = 1) (u9 : r' 124 29 = 1) (v4 : s1 (p + 4) (s p 6) = r' 130 (5 + s p 6)) (v5 : s1 (p + 5) (s p 6) = r' 131 (5 + s p 6)) (v6 : s1 (p + 6) (s p 6) = r' 132 (5 + s p 6)) (v7 : s1 (p + 7) (s p 6) = r' 133 (5 + s p 6)) (v8 : s1 (p + 8) (s p 6) = r' 134 (5 + s p 6)) (v8b : 0 ≤ s1 (p + 8) (s p 6) ∧ s1 (p + 8) (s p 6) < 48) (v3 : s1 p 6 = s p 6 + 1) (u3 : r' 124 21 = s p 6 + 1) : cpl p s1 r' := by
  obtain ⟨⟨c18, c19, c20, c21, c22, c51, c23⟩, ⟨c24, c25, c26, c27, c28, c29⟩, ck, cg, cfn, cwn, chl, chb, clw, ckn⟩ := hc
  exact ⟨⟨(hr (124) (18) (by unfold FWk; omega)).trans (c18.trans (hs (p) (0) (by unfold FZw FNx; omega)).symm),
    (hr (124) (19) (by unfold FWk; omega)).trans (c19.trans (hs (p) (1) (by unfold FZw FNx; omega)).symm),
    (hr (124) (20) (by unfold FWk; omega)).trans (c20.trans (hs (p) (4) (by unfold FZw FNx; omega)).symm),
    u3.trans v3.symm,
    (hr (124) (22) (by unfold FWk; omega)).trans (c22.trans (hs (32) (14) (by unfold FZw FNx; omega)).symm),
    (hr (124) (51) (by unfold FWk; omega)).trans (c51.trans (hs (p) (14) (by unfold FZw FNx; omega)).symm),
    (hr (124) (23) (by unfold FWk; omega)).trans (c23.trans (hs (p) (13) (by unfold FZw FNx; omega)).symm)⟩, ⟨(hr (124) (24) (by unfold FWk; omega)).trans (c24.trans (hs (35) (1) (by unfold FZw FNx; omega)).symm),
    (hr (124) (25) (by unfold FWk; omega)).trans (c25.trans (hs (35) (2) (by unfold FZw FNx; omega)).symm),
    (hr (124) (26) (by unfold FWk; omega)).trans (c26.trans (hs (32) (6) (by unfold FZw FNx; omega)).symm),
    (hr (124) (27) (by unfold FWk; omega)).trans (c27.trans (hs (32) (7) (by unfold FZw FNx; omega)).symm),
    (hr (124) (28) (by unfold FWk; omega)).trans (c28.trans (hs (32) (8) (by unfold FZw FNx; omega)).symm),
    u9.trans v9.symm⟩, fun c y0 y1 => by rw [hr (127) (48 + c) (by unfold FWk; omega), hs (p + 1) (c) (by unfold FZw FNx; omega)]; exact ck c y0 y1,
    fun c y0 y1 => by rw [hr (128) (48 + c) (by unfold FWk; omega), hs (p + 2) (c) (by unfold FZw FNx; omega)]; exact cg c y0 y1,
    fun f y0 y1 => by rw [hs (p) (4) (by unfold FZw FNx; omega)] at y1; rw [hr (129) (3 + f) (by unfold FWk; omega), hs (p + 3) (f) (by unfold FZw FNx; omega)]; exact cfn f y0 y1,
    fun f y0 y1 => by
      rw [v3] at y1
      by_cases e9 : f = s p 6
      · rw [e9]; exact ⟨v4.symm, v5.symm, v6.symm, v7.symm, v8.symm⟩
      · rw [hr 130 (5 + f) (by unfold FWk; omega), hr 131 (5 + f) (by unfold FWk; omega), hr 132 (5 + f) (by unfold FWk; omega), hr 133 (5 + f) (by unfold FWk; omega), hr 134 (5 + f) (by unfold FWk; omega), hs (p + 4) f (by unfold FZw FNx; omega), hs (p + 5) f (by unfold FZw FNx; omega), hs (p + 6) f (by unfold FZw FNx; omega), hs (p + 7) f (by unfold FZw FNx; omega), hs (p + 8) f (by unfold FZw FNx; omega)]; exact cwn f y0 (by omega),
    fun f y0 y1 => by rw [hr (135) (24 + f) (by unfold FWk; omega), hs (p + 10) (f) (by unfold FZw FNx; omega)]; exact chl f y0 y1,
    fun f y0 y1 => by
      by_cases e9 : f = s p 6
      · rw [e9, ← v8]; exact v8b
      · rw [hr 134 (5 + f) (by unfold FWk; omega)]; exact chb f y0 y1,
    fun k y0 y1 => by rw [hr (136) (3 + fLk k) (by unfold FWk; omega), hr (137) (3 + fLk k) (by unfold FWk; omega), hr (138) (3 + fLk k) (by unfold FWk; omega), hs (p + 14) (k) (by unfold FZw FNx; omega), hs (p + 13) (k) (by unfold FZw FNx; omega)]; exact clw k y0 y1,
    fun k y y0 y1 z0 z1 => by rw [hs (p + 13) (k) (by unfold FZw FNx; omega)] at z0; rw [hs (p + 14) (k) (by unfold FZw FNx; omega)] at z1; rw [show s1 (p + 11) = s (p + 11) from funext fun j => hs (p + 11) (j) (by unfold FZw FNx; omega), show s1 (p + 12) = s (p + 12) from funext fun j => hs (p + 12) (j) (by unfold FZw FNx; omega), hr (139) (64 + y) (by unfold FWk; omega), hr (140) (64 + y) (by unfold FWk; omega), hr (141) (64 + y) (by unfold FWk; omega), hs (p + 13) (k) (by unfold FZw FNx; omega)]; exact ckn k y y0 y1 z0 z1⟩
theorem cpl_cast (hp : 2 ≤ p ∧ p ≤ 17) (hc : cpl p s r) {m : Int} (hm : 1 ≤ m ∧ m ≤ 24) (hs : fr (FZc p m) s s1) (hr : fr (FCa m) r r') (v9 : s1 32 7 = 1) (u9 : r' 124 27 = 1) (v : ∀ q : Int, 0 ≤ q → q < m → s1 (p + 10) q = r' 135 (24 + q)) : cpl p s1 r' := by
  obtain ⟨⟨c18, c19, c20, c21, c22, c51, c23⟩, ⟨c24, c25, c26, c27, c28, c29⟩, ck, cg, cfn, cwn, chl, chb, clw, ckn⟩ := hc
  exact ⟨⟨(hr (124) (18) (by unfold FCa; omega)).trans (c18.trans (hs (p) (0) (by unfold FZc FNx; omega)).symm),
    (hr (124) (19) (by unfold FCa; omega)).trans (c19.trans (hs (p) (1) (by unfold FZc FNx; omega)).symm),
    (hr (124) (20) (by unfold FCa; omega)).trans (c20.trans (hs (p) (4) (by unfold FZc FNx; omega)).symm),
    (hr (124) (21) (by unfold FCa; omega)).trans (c21.trans (hs (p) (6) (by unfold FZc FNx; omega)).symm),
    (hr (124) (22) (by unfold FCa; omega)).trans (c22.trans (hs (32) (14) (by unfold FZc FNx; omega)).symm),
    (hr (124) (51) (by unfold FCa; omega)).trans (c51.trans (hs (p) (14) (by unfold FZc FNx; omega)).symm),
    (hr (124) (23) (by unfold FCa; omega)).trans (c23.trans (hs (p) (13) (by unfold FZc FNx; omega)).symm)⟩, ⟨(hr (124) (24) (by unfold FCa; omega)).trans (c24.trans (hs (35) (1) (by unfold FZc FNx; omega)).symm),
    (hr (124) (25) (by unfold FCa; omega)).trans (c25.trans (hs (35) (2) (by unfold FZc FNx; omega)).symm),
    (hr (124) (26) (by unfold FCa; omega)).trans (c26.trans (hs (32) (6) (by unfold FZc FNx; omega)).symm),
    u9.trans v9.symm,
    (hr (124) (28) (by unfold FCa; omega)).trans (c28.trans (hs (32) (8) (by unfold FZc FNx; omega)).symm),
    (hr (124) (29) (by unfold FCa; omega)).trans (c29.trans (hs (32) (9) (by unfold FZc FNx; omega)).symm)⟩, fun c y0 y1 => by rw [hr (127) (48 + c) (by unfold FCa; omega), hs (p + 1) (c) (by unfold FZc FNx; omega)]; exact ck c y0 y1,
    fun c y0 y1 => by rw [hr (128) (48 + c) (by unfold FCa; omega), hs (p + 2) (c) (by unfold FZc FNx; omega)]; exact cg c y0 y1,
    fun f y0 y1 => by rw [hs (p) (4) (by unfold FZc FNx; omega)] at y1; rw [hr (129) (3 + f) (by unfold FCa; omega), hs (p + 3) (f) (by unfold FZc FNx; omega)]; exact cfn f y0 y1,
    fun f y0 y1 => by rw [hs (p) (6) (by unfold FZc FNx; omega)] at y1; rw [hr (130) (5 + f) (by unfold FCa; omega), hr (131) (5 + f) (by unfold FCa; omega), hr (132) (5 + f) (by unfold FCa; omega), hr (133) (5 + f) (by unfold FCa; omega), hr (134) (5 + f) (by unfold FCa; omega), hs (p + 4) (f) (by unfold FZc FNx; omega), hs (p + 5) (f) (by unfold FZc FNx; omega), hs (p + 6) (f) (by unfold FZc FNx; omega), hs (p + 7) (f) (by unfold FZc FNx; omega), hs (p + 8) (f) (by unfold FZc FNx; omega)]; exact cwn f y0 y1,
    fun f y0 y1 => by
      by_cases e9 : f < m
      · exact (v f y0 e9).symm
      · rw [hr 135 (24 + f) (by unfold FCa; omega), hs (p + 10) f (by unfold FZc FNx; omega)]; exact chl f y0 y1,
    fun f y0 y1 => by rw [hr (134) (5 + f) (by unfold FCa; omega)]; exact chb f y0 y1,
    fun k y0 y1 => by rw [hr (136) (3 + fLk k) (by unfold FCa; omega), hr (137) (3 + fLk k) (by unfold FCa; omega), hr (138) (3 + fLk k) (by unfold FCa; omega), hs (p + 14) (k) (by unfold FZc FNx; omega), hs (p + 13) (k) (by unfold FZc FNx; omega)]; exact clw k y0 y1,
    fun k y y0 y1 z0 z1 => by rw [hs (p + 13) (k) (by unfold FZc FNx; omega)] at z0; rw [hs (p + 14) (k) (by unfold FZc FNx; omega)] at z1; rw [show s1 (p + 11) = s (p + 11) from funext fun j => hs (p + 11) (j) (by unfold FZc FNx; omega), show s1 (p + 12) = s (p + 12) from funext fun j => hs (p + 12) (j) (by unfold FZc FNx; omega), hr (139) (64 + y) (by unfold FCa; omega), hr (140) (64 + y) (by unfold FCa; omega), hr (141) (64 + y) (by unfold FCa; omega), hs (p + 13) (k) (by unfold FZc FNx; omega)]; exact ckn k y y0 y1 z0 z1⟩
theorem fLk_in {k : Int} (h : 0 ≤ k ∧ k < 3) : 0 ≤ fLk k ∧ fLk k < 3 := by unfold fLk; split <;> omega
theorem fLk_inj {k k' : Int} (h : 0 ≤ k ∧ k < 3) (h' : 0 ≤ k' ∧ k' < 3) (e : fLk k = fLk k') : k = k' := by unfold fLk at e; split at e <;> split at e <;> omega
end SXS1
