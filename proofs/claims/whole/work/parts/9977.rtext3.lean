/-! A LINE IS READ, reference side (by wip/whole) -/
section SXS3
variable {X : sx_X} {Q : sx_R} {σ σ0 σ' σ1 σ2 s s' s1 s2 r r' s3 : sx_S} {tx : Int → Int} {n9 p i lo e' : Int} {O : Option (Int × Int)}
theorem frx_k {a j : Int} (z : (a = 127 ∨ a = 128) ∧ 48 ≤ j) : FRx a j := Or.inr (Or.inl ⟨by omega, by omega, by omega, by unfold fHalf; rw [if_pos (by omega)]; omega⟩)
theorem frx_3 {a j : Int} (z : (a = 129 ∨ a = 136 ∨ a = 137 ∨ a = 138) ∧ 3 ≤ j) : FRx a j := Or.inr (Or.inl ⟨by omega, by omega, by omega, by unfold fHalf; rw [if_neg (by omega), if_neg (by omega), if_neg (by omega), if_pos (by omega)]; omega⟩)
/-- a line well read may change a home too -/
abbrev FRh (a j : Int) : Prop := FRx a j ∨ (a = 134 ∧ 5 ≤ j)
abbrev hB5 (r : sx_S) : Prop := ∀ f : Int, 0 ≤ f → f < 5 → 0 ≤ r 134 (5 + f) ∧ r 134 (5 + f) < 48
theorem frx_5 {a j : Int} (z : (130 ≤ a ∧ a ≤ 133) ∧ 5 ≤ j) : FRx a j := Or.inr (Or.inl ⟨by omega, by omega, by omega, by unfold fHalf; rw [if_neg (by omega), if_neg (by omega), if_neg (by omega), if_neg (by omega)]; omega⟩)
theorem frx_6 {a j : Int} (z : (139 ≤ a ∧ a ≤ 141) ∧ 64 ≤ j) : FRx a j := Or.inr (Or.inl ⟨by omega, by omega, by omega, by unfold fHalf; rw [if_neg (by omega), if_neg (by omega), if_pos (by omega)]; omega⟩)
theorem frx_m {m a j : Int} (hm : 0 ≤ m) (z : FFm m a j) : FRx a j := by
  unfold FFm at z
  rcases z with z | z | z
  · exact Or.inl (by omega)
  · exact frx_k (by omega)
  · exact frx_3 (by omega)
theorem frx_wk {m a j : Int} (hm : 0 ≤ m) (z : FWk m a j) : FRh a j := by
  unfold FWk at z
  rcases z with z | z
  · exact Or.inl (Or.inl (by omega))
  · by_cases e : a = 134
    · exact Or.inr (by omega)
    · exact Or.inl (frx_5 (by omega))
theorem frx_q {l a j : Int} (hl : 0 ≤ l) (z : FEq l a j) : FRx a j := by
  unfold FEq at z
  rcases z with z | z | z
  · exact Or.inl (by omega)
  · exact frx_6 (by omega)
  · exact Or.inr (Or.inr z)
theorem FRx_pts : ptL.all (fun q => decide (¬ FRx q.1 q.2.1)) = true := by decide +kernel
theorem fr.ptrx {σ σ' : sx_S} (h : fr FRx σ σ') (hT : PT σ) : PT σ' := hT.fr (fun q hq => h _ _ (of_decide_eq_true (List.all_eq_true.mp FRx_pts q hq)))
theorem eC_r (hc : eC p s r lo) (h : ∀ a j : Int, a = 124 ∨ (139 ≤ a ∧ a ≤ 143) → r' a j = r a j) : eC p s r' lo := by
  have u : ∀ a : Int, a = 124 ∨ (139 ≤ a ∧ a ≤ 143) → r' a = r a := fun a z => funext fun j => h a j z
  unfold eC pKo
  rw [u 124 (by omega), u 142 (by omega), u 143 (by omega), u 139 (by omega), u 140 (by omega), u 141 (by omega)]
  exact hc
theorem frx_qs {l a j : Int} (hl : 0 ≤ l) (z : FEs l a j) : FRx a j := frx_q hl (feq_s z)
theorem pKz_l {t k w v : Int} (h : pKz t k w v) : (k = 1 ∧ w ≤ 7 → t = w ∧ 0 ≤ w) ∧ (¬ (k = 1 ∧ w ≤ 7) → 8 ≤ t) ∧ (k = 1 ∧ 8 ≤ w ∧ w ≤ 10 → 0 ≤ t - 8 ∧ t - 8 < 3 ∧ w - 5 = 3 + fLk (t - 8)) ∧ (¬ (k = 1 ∧ 8 ≤ w ∧ w ≤ 10) → ¬ (0 ≤ t - 8 ∧ t - 8 < 3)) := by
  unfold fLk
  rcases h with ⟨h0, h1, h2, h⟩ | h | h | h | h | h | h | h | h | h | h | h | h
  · rcases h with h | h | h | h | h | h | h | h
    · refine ⟨by omega, by omega, by omega, by omega⟩
    · refine ⟨by omega, by omega, fun _ => ?_, by omega⟩; rw [if_neg (by omega)]; omega
    · refine ⟨by omega, by omega, fun _ => ?_, by omega⟩; rw [if_neg (by omega)]; omega
    · refine ⟨by omega, by omega, fun _ => ?_, by omega⟩; rw [if_pos (by omega)]; omega
    · refine ⟨by omega, by omega, by omega, by omega⟩
    · refine ⟨by omega, by omega, by omega, by omega⟩
    · refine ⟨by omega, by omega, by omega, by omega⟩
    · refine ⟨by omega, by omega, by omega, by omega⟩
  all_goals refine ⟨by omega, by omega, by omega, by omega⟩
theorem lf_lwF (H : zLine p tx n9 s i s' e' O) (t0 : kT tx n9 i = 7) {k pl : Int} (hz : zLawF p tx n9 s i k pl) (hb : ¬ (0 ≤ kT tx n9 (kE tx n9 i) - 8 ∧ kT tx n9 (kE tx n9 i) - 8 < 3) ∨ s (p + 13) (kT tx n9 (kE tx n9 i) - 8) < s (p + 14) (kT tx n9 (kE tx n9 i) - 8)) : O = some (k, pl) := by
  have hh : (¬ (0 ≤ kT tx n9 (kE tx n9 i) - 8 ∧ kT tx n9 (kE tx n9 i) - 8 < 3) ∧ k = 1 ∧ pl = kS tx n9 (kE tx n9 i)) ∨ ((0 ≤ kT tx n9 (kE tx n9 i) - 8 ∧ kT tx n9 (kE tx n9 i) - 8 < 3) ∧ s (p + 13) (kT tx n9 (kE tx n9 i) - 8) < s (p + 14) (kT tx n9 (kE tx n9 i) - 8) ∧ k = 3 ∧ pl = kS tx n9 (kE tx n9 i)) := by
    rcases hz with h | h | ⟨h1, h2, _⟩
    · exact Or.inl h
    · exact Or.inr h
    · rcases hb with hb | hb
      · exact absurd h1 hb
      · exact absurd hb h2
  rcases H with ⟨hO, s1, e, hl, _⟩ | ⟨k', pl', hO, hl⟩
  · exfalso
    rcases hl with ⟨a0, az, ae, af, a1, a2, a3⟩ | ⟨a0, az, ae, af, a1, a2, a3⟩ | ⟨a0, ax, az, ae, af, a1, a2, a3, a4⟩ | ⟨a0, ax, az, ae, af, a1, a2, a3, a4, a5, a6, a7⟩ | ⟨a0, ax, m9, am, an, ak, ae, af, a1, a2⟩ | ⟨a0, az, ae, af, a1, a2⟩ | ⟨a0, az, af⟩
    · omega
    · omega
    · omega
    · omega
    · omega
    · omega
    · (obtain ⟨h1, h2, _⟩ := az; rcases hh with ⟨h3, _⟩ | ⟨_, h3, _⟩; exact h3 h1; exact h2 h3)
  · rcases hl with ⟨b0, bz⟩ | ⟨b0, bz⟩ | ⟨b0, bz⟩ | ⟨b0, bz⟩ | ⟨b0, bz⟩ | ⟨b0, bz⟩ | ⟨b0, bz⟩ | ⟨b0, bz⟩
    · omega
    · omega
    · omega
    · omega
    · omega
    · omega
    · (rw [hO]; rcases bz with ⟨b1, b2, b3⟩ | ⟨b1, b2, b3, b4⟩ | ⟨b1, b2, _⟩; (rcases hh with ⟨h1, h2, h3⟩ | ⟨h1, _⟩; rw [b2, b3, h2, h3]; exact absurd h1 b1); (rcases hh with ⟨h1, _⟩ | ⟨_, _, h2, h3⟩; exact absurd b1 h1; rw [b3, b4, h2, h3]); (rcases hh with ⟨h1, _⟩ | ⟨_, h1, _⟩; exact absurd b1 h1; exact absurd h1 b2))
    · omega
theorem lf_lw (H : zLine p tx n9 s i s' e' O) (t0 : kT tx n9 i = 7) (hK : 0 ≤ kT tx n9 (kE tx n9 i) - 8 ∧ kT tx n9 (kE tx n9 i) - 8 < 3) (hu : ¬ s (p + 13) (kT tx n9 (kE tx n9 i) - 8) < s (p + 14) (kT tx n9 (kE tx n9 i) - 8)) : ∃ (s2 : sx_S) (E : Nat → sx_S) (m : Nat) (s3 : sx_S) (O9 : Option (Int × Int)), fr (FLw p (kT tx n9 (kE tx n9 i) - 8)) s s2 ∧ s2 (p + 13) (kT tx n9 (kE tx n9 i) - 8) = s 32 14 ∧ E 0 = zE0 s2 ∧ zTr p tx n9 (kE tx n9 (kE tx n9 i)) E m ∧ zFin p tx n9 (kE tx n9 (kE tx n9 i)) E m s3 O9 ∧ (∀ k pl : Int, O9 = some (k, pl) → O = some (k, pl)) ∧ (O9 = none → O = none ∧ kT tx n9 (kI tx n9 m (kE tx n9 (kE tx n9 i))) = 22 ∧ e' = kE tx n9 (kI tx n9 m (kE tx n9 (kE tx n9 i))) ∧ fr (FEv p) s2 s3 ∧ zExS p tx n9 s2 (kE tx n9 (kE tx n9 i)) s3 (kI tx n9 m (kE tx n9 (kE tx n9 i))) ∧ fr FXz (sx_up s3 (p + 14) (kT tx n9 (kE tx n9 i) - 8) (s3 32 14)) s') := by
  rcases H with ⟨hO, s1, e, hl, h22, he, hf, _⟩ | ⟨k', pl', hO, hl⟩
  · rcases hl with ⟨a0, az, ae, af, a1, a2, a3⟩ | ⟨a0, az, ae, af, a1, a2, a3⟩ | ⟨a0, ax, az, ae, af, a1, a2, a3, a4⟩ | ⟨a0, ax, az, ae, af, a1, a2, a3, a4, a5, a6, a7⟩ | ⟨a0, ax, m9, am, an, ak, ae, af, a1, a2⟩ | ⟨a0, az, ae, af, a1, a2⟩ | ⟨a0, az, af⟩
    · omega
    · omega
    · omega
    · omega
    · omega
    · omega
    · obtain ⟨_, _, s2, s3, f2, g13, hx, f3, rfl⟩ := az
      have hx0 := hx
      obtain ⟨E, m, e0, ht, ej, h22', h13, h12, hq⟩ := hx
      subst ej
      exact ⟨s2, E, m, s3, none, f2, g13, e0, ht, Or.inl ⟨rfl, h22', h13, h12, hq⟩, fun k pl z => absurd z (by simp), fun _ => ⟨hO, h22', he, f3, hx0, hf⟩⟩
  · rcases hl with ⟨b0, bz⟩ | ⟨b0, bz⟩ | ⟨b0, bz⟩ | ⟨b0, bz⟩ | ⟨b0, bz⟩ | ⟨b0, bz⟩ | ⟨b0, bz⟩ | ⟨b0, bz⟩
    · omega
    · omega
    · omega
    · omega
    · omega
    · omega
    · rcases bz with ⟨h1, _⟩ | ⟨_, h1, _⟩ | ⟨_, _, s2, f2, g13, E, m, e0, ht, epl, hfin⟩
      · exact absurd hK h1
      · exact absurd h1 hu
      · refine ⟨s2, E, m, s2, some (k', pl'), f2, g13, e0, ht, Or.inr ⟨k', by rw [epl], hfin⟩, fun k pl z => by rw [hO]; exact z, fun z => absurd z (by simp)⟩
    · omega
set_option maxRecDepth 20000 in
theorem r_line (hq : rQ σ tx n9 i) (hp : 2 ≤ p ∧ p ≤ 17) (hn : n9 ≤ 700) (hc : cpl p s σ) (hw : wT p s) (H : zLine p tx n9 s i s' e' O) (hF : ∀ (k pl : Int) (σ' : sx_S), O = some (k, pl) → fr FRh σ σ' → hB5 σ' → rFl σ' k pl → Q (some (.inl 0)) shM σ') (hS : O = none → ∀ (σ' : sx_S), cpl p s' σ' → rQ σ' tx n9 e' → fr FRh σ σ' → (σ' 124 4 = σ 124 4 ∧ σ' 124 5 = σ 124 5) → Q (some (.inl 1)) shM σ') : sx_Run X 200 [.inr (.inr 124)] shM σ Q := by
  have hkz := hq.tk.2.2
  have ha := hq.tk.2.1
  have c28 : σ 124 28 = s 32 8 := hc.2.1.2.2.2.2.1
  have chb := hc.2.2.2.2.2.2.2.1
  have hFx : ∀ (k pl : Int) (σ' : sx_S), O = some (k, pl) → fr FRx σ σ' → rFl σ' k pl → Q (some (.inl 0)) shM σ' := fun k pl σ' hO hf hl => hF k pl σ' hO (fun a j z => hf a j (fun y => z (Or.inl y))) (fun f y0 y1 => by rw [hf 134 _ (by unfold FRx; omega)]; exact chb f y0 y1) hl
  refine sx_rule2 (own := 12) (cd := kX12_lineRead) (nL := 3) (by decide +kernel) (by decide +kernel) kX12_lineRead_ok (by decide +kernel) (Nat.le_of_ble_eq_true rfl) [262] 40 (fun n t L st _ σ' => (t = 262 ∧ ∃ z : Int, ∃ w2 : Option sx_V, st = [] ∧ L = [some (.inr (.inr (124))), some (.inl (z)), w2] ∧ ((z = 0 ∧ ∃ k pl : Int, O = some (k, pl) ∧ rFl σ' k pl ∧ fr FRx σ σ') ∨ (z = 1 ∧ ∃ e : Int, rQ σ' tx n9 e ∧ fr FRh σ σ' ∧ (σ' 124 4 = σ 124 4 ∧ σ' 124 5 = σ 124 5) ∧ hB5 σ' ∧ (kT tx n9 e = 22 → O = none ∧ e' = kE tx n9 e ∧ cpl p s' σ') ∧ (¬ kT tx n9 e = 22 → O = some (1, kS tx n9 e)))) ∧ n = 0)) ?_ ?_
  · skip
    conv => whnf
    refine ⟨(by first | assumption | rfl), ?_⟩
    try simp (disch := omega) only [Int.cast_ofNat_Int, up_s, up_a, up_i, mp_a, mp_ge]
    try simp only [w9]
    try simp only [c28]
    try simp only [v11]
    try simp only [t39]
    try simp only [t40]
    try simp only [t41]
    try simp only [e22]
    try simp only [lk_136]
    try simp only [lk_137]
    try simp only [lk_138]
    try simp only [ekx]
    conv => whnf
    refine ⟨fun g => ?_, fun g => ?_⟩
    · simp only [sx_cc, Classical.not_not] at g
      conv => whnf
      refine ⟨Nat.le_of_ble_eq_true rfl, Nat.le_of_ble_eq_true rfl, (by first | assumption | rfl), ?_⟩
      refine r_wrong ?_
      conv => whnf
      refine ⟨fun q9 => by first | (simp at q9; done) | omega, ?_⟩
      exact hFx _ _ _ (lf_df H ((pKz_l hkz).2.1 (by omega))) (fun a j z => by rw [up_n (fun y => z (Or.inl (by omega))), up_n (fun y => z (Or.inl (by omega)))]) ⟨by rw [up_n (by omega), up_s], by rw [up_s, ha]⟩
    · simp only [sx_cc, Classical.not_not] at g
      conv => whnf
      refine ⟨(by first | assumption | rfl), ?_⟩
      try simp (disch := omega) only [Int.cast_ofNat_Int, up_s, up_a, up_i, mp_a, mp_ge]
      try simp only [w9]
      try simp only [c28]
      try simp only [v11]
      try simp only [t39]
      try simp only [t40]
      try simp only [t41]
      try simp only [e22]
      try simp only [lk_136]
      try simp only [lk_137]
      try simp only [lk_138]
      try simp only [ekx]
      conv => whnf
      refine ⟨fun g => ?_, fun g => ?_⟩
      · simp only [sx_cc, Classical.not_not] at g
        have w9 := ((pKz_l hkz).1 (by omega))
        skip
        conv => whnf
        refine ⟨(by first | assumption | rfl), ?_⟩
        try simp (disch := omega) only [Int.cast_ofNat_Int, up_s, up_a, up_i, mp_a, mp_ge]
        try simp only [w9]
        try simp only [c28]
        try simp only [v11]
        try simp only [t39]
        try simp only [t40]
        try simp only [t41]
        try simp only [e22]
        try simp only [lk_136]
        try simp only [lk_137]
        try simp only [lk_138]
        try simp only [ekx]
        conv => whnf
        refine ⟨fun g => ?_, ?_⟩
        · skip
          have ht0 : σ 124 9 = 7 := by omega
          skip
          conv => whnf
          refine ⟨Nat.le_of_ble_eq_true rfl, Nat.le_of_ble_eq_true rfl, (by first | assumption | rfl), ?_⟩
          refine r_tok hq (fun σ4 hf4 hq4 => ?_)
          have ht : kT tx n9 i = 7 := by omega
          have hkz4 := hq4.tk.2.2
          have t39 := pt_124_39 hq4.pt
          conv => whnf
          refine ⟨(by first | assumption | rfl), ?_⟩
          try simp (disch := omega) only [Int.cast_ofNat_Int, up_s, up_a, up_i, mp_a, mp_ge]
          try simp only [w9]
          try simp only [c28]
          try simp only [v11]
          try simp only [t39]
          try simp only [t40]
          try simp only [t41]
          try simp only [e22]
          try simp only [lk_136]
          try simp only [lk_137]
          try simp only [lk_138]
          try simp only [ekx]
          conv => whnf
          refine ⟨fun g => ?_, fun g => ?_⟩
          · simp only [sx_cc, Classical.not_not] at g
            have hnk := (pKz_l hkz4).2.2.2 (by omega)
            conv => whnf
            refine ⟨Nat.le_of_ble_eq_true rfl, Nat.le_of_ble_eq_true rfl, (by first | assumption | rfl), ?_⟩
            refine r_wrong ?_
            conv => whnf
            refine ⟨fun q9 => by first | (simp at q9; done) | omega, ?_⟩
            exact hFx _ _ _ (lf_lwF H ht (Or.inl ⟨hnk, rfl, rfl⟩) (Or.inl hnk)) (fun a j z => by rw [up_n (fun y => z (Or.inl (by omega))), up_n (fun y => z (Or.inl (by omega))), hf4 a j (fun y => z (frx_t y))]) ⟨by rw [up_n (by omega), up_s], by rw [up_s, hq4.tk.2.1]⟩
          · simp only [sx_cc, Classical.not_not] at g
            conv => whnf
            refine ⟨(by first | assumption | rfl), ?_⟩
            try simp (disch := omega) only [Int.cast_ofNat_Int, up_s, up_a, up_i, mp_a, mp_ge]
            try simp only [w9]
            try simp only [c28]
            try simp only [v11]
            try simp only [t39]
            try simp only [t40]
            try simp only [t41]
            try simp only [e22]
            try simp only [lk_136]
            try simp only [lk_137]
            try simp only [lk_138]
            try simp only [ekx]
            conv => whnf
            refine ⟨fun g => ?_, fun g => ?_⟩
            · simp only [sx_cc, Classical.not_not] at g
              have hnk := (pKz_l hkz4).2.2.2 (by omega)
              conv => whnf
              refine ⟨Nat.le_of_ble_eq_true rfl, Nat.le_of_ble_eq_true rfl, (by first | assumption | rfl), ?_⟩
              refine r_wrong ?_
              conv => whnf
              refine ⟨fun q9 => by first | (simp at q9; done) | omega, ?_⟩
              exact hFx _ _ _ (lf_lwF H ht (Or.inl ⟨hnk, rfl, rfl⟩) (Or.inl hnk)) (fun a j z => by rw [up_n (fun y => z (Or.inl (by omega))), up_n (fun y => z (Or.inl (by omega))), hf4 a j (fun y => z (frx_t y))]) ⟨by rw [up_n (by omega), up_s], by rw [up_s, hq4.tk.2.1]⟩
            · simp only [sx_cc, Classical.not_not] at g
              conv => whnf
              refine ⟨(by first | assumption | rfl), ?_⟩
              try simp (disch := omega) only [Int.cast_ofNat_Int, up_s, up_a, up_i, mp_a, mp_ge]
              try simp only [w9]
              try simp only [c28]
              try simp only [v11]
              try simp only [t39]
              try simp only [t40]
              try simp only [t41]
              try simp only [e22]
              try simp only [lk_136]
              try simp only [lk_137]
              try simp only [lk_138]
              try simp only [ekx]
              conv => whnf
              refine ⟨fun g => ?_, fun g => ?_⟩
              · simp only [sx_cc, Classical.not_not] at g
                have hKx := (pKz_l hkz4).2.2.1 (by omega)
                obtain ⟨hK0, hK1, ekx⟩ := hKx
                have hK : 0 ≤ kT tx n9 (kE tx n9 i) - 8 ∧ kT tx n9 (kE tx n9 i) - 8 < 3 := ⟨hK0, hK1⟩
                have ekx : 3 + σ4 124 9 - 8 = 3 + fLk (kT tx n9 (kE tx n9 i) - 8) := by omega
                have fk3 := fLk_in hK
                have u136 : σ4 136 (3 + fLk (kT tx n9 (kE tx n9 i) - 8)) = σ 136 (3 + fLk (kT tx n9 (kE tx n9 i) - 8)) := hf4 _ _ (by unfold FRt; omega)
                have hcl := hc.2.2.2.2.2.2.2.2.1 (kT tx n9 (kE tx n9 i) - 8) hK0 hK1
                conv => whnf
                refine ⟨(by first | assumption | rfl), ?_⟩
                try simp (disch := omega) only [Int.cast_ofNat_Int, up_s, up_a, up_i, mp_a, mp_ge]
                try simp only [w9]
                try simp only [c28]
                try simp only [v11]
                try simp only [t39]
                try simp only [t40]
                try simp only [t41]
                try simp only [e22]
                try simp only [lk_136]
                try simp only [lk_137]
                try simp only [lk_138]
                try simp only [ekx]
                conv => whnf
                refine ⟨⟨by omega, by omega⟩, ?_⟩
                conv => whnf
                refine ⟨⟨by omega, by omega⟩, ?_⟩
                conv => whnf
                refine ⟨(by first | assumption | rfl), ?_⟩
                try simp (disch := omega) only [Int.cast_ofNat_Int, up_s, up_a, up_i, mp_a, mp_ge]
                try simp only [w9]
                try simp only [c28]
                try simp only [v11]
                try simp only [t39]
                try simp only [t40]
                try simp only [t41]
                try simp only [e22]
                try simp only [lk_136]
                try simp only [lk_137]
                try simp only [lk_138]
                try simp only [ekx]
                conv => whnf
                refine ⟨by decide, ?_⟩
                conv => whnf
                refine ⟨sx_ixI (by first | assumption | rfl) (by omega) (by omega), ?_⟩
                try simp (disch := omega) only [Int.cast_ofNat_Int, up_s, up_a, up_i, mp_a, mp_ge]
                try simp only [w9]
                try simp only [c28]
                try simp only [v11]
                try simp only [t39]
                try simp only [t40]
                try simp only [t41]
                try simp only [e22]
                try simp only [lk_136]
                try simp only [lk_137]
                try simp only [lk_138]
                try simp only [ekx]
                conv => whnf
                refine ⟨fun g => ?_, fun g => ?_⟩
                · simp only [sx_cc, Classical.not_not] at g
                  have hntl : ¬ s (p + 13) (kT tx n9 (kE tx n9 i) - 8) < s (p + 14) (kT tx n9 (kE tx n9 i) - 8) := by omega
                  skip
                  conv => whnf
                  refine ⟨(by first | assumption | rfl), ?_⟩
                  try simp (disch := omega) only [Int.cast_ofNat_Int, up_s, up_a, up_i, mp_a, mp_ge]
                  try simp only [w9]
                  try simp only [c28]
                  try simp only [v11]
                  try simp only [t39]
                  try simp only [t40]
                  try simp only [t41]
                  try simp only [e22]
                  try simp only [lk_136]
                  try simp only [lk_137]
                  try simp only [lk_138]
                  try simp only [ekx]
                  conv => whnf
                  refine ⟨sx_ixI (by first | assumption | rfl) (by omega) (by omega), by omega, ?_⟩
                  conv => whnf
                  refine ⟨Nat.le_of_ble_eq_true rfl, Nat.le_of_ble_eq_true rfl, (by first | assumption | rfl), ?_⟩
                  obtain ⟨s2, E, m, s3, O9, f2, g13, e0, htr, hfin, hO1, hO2⟩ := lf_lw H ht hK hntl
                  refine r_tok (rQ_up hq4 (by unfold FRd; omega)) (fun σ5 hf5 hq5 => ?_)
                  have t40 := pt_124_40 hq5.pt
                  have e22 : σ5 124 22 = s 32 14 := by rw [hf5 _ _ (by unfold FRt; omega), up_n (by omega), hf4 _ _ (by unfold FRt; omega)]; exact hc.1.2.2.2.2.1
                  have e51 : σ5 124 51 = s p 14 := by rw [hf5 _ _ (by unfold FRt; omega), up_n (by omega), hf4 _ _ (by unfold FRt; omega)]; exact hc.1.2.2.2.2.2.1
                  have b14 : s2 32 14 = s 32 14 := f2 _ _ (by unfold FLw; omega)
                  have bp14 : s2 p 14 = s p 14 := f2 _ _ (by unfold FLw; omega)
                  have fk3 := fLk_in hK
                  have hw14 := hw.2.2.1
                  have hw6 := hw.2.1
                  conv => whnf
                  refine ⟨(by first | assumption | rfl), ?_⟩
                  try simp (disch := omega) only [Int.cast_ofNat_Int, up_s, up_a, up_i, mp_a, mp_ge]
                  try simp only [w9]
                  try simp only [c28]
                  try simp only [v11]
                  try simp only [t39]
                  try simp only [t40]
                  try simp only [t41]
                  try simp only [e22]
                  try simp only [lk_136]
                  try simp only [lk_137]
                  try simp only [lk_138]
                  try simp only [ekx]
                  conv => whnf
                  refine ⟨(by first | assumption | rfl), ?_⟩
                  try simp (disch := omega) only [Int.cast_ofNat_Int, up_s, up_a, up_i, mp_a, mp_ge]
                  try simp only [w9]
                  try simp only [c28]
                  try simp only [v11]
                  try simp only [t39]
                  try simp only [t40]
                  try simp only [t41]
                  try simp only [e22]
                  try simp only [lk_136]
                  try simp only [lk_137]
                  try simp only [lk_138]
                  try simp only [ekx]
                  conv => whnf
                  refine ⟨sx_ixI (by first | assumption | rfl) (by omega) (by omega), ?_⟩
                  conv => whnf
                  refine ⟨Nat.le_of_ble_eq_true rfl, Nat.le_of_ble_eq_true rfl, (by first | assumption | rfl), ?_⟩
                  refine r_sum (s := s2) (tx := tx) (n9 := n9) (i := (kE tx n9 (kE tx n9 i))) (rQ_up hq5 (by unfold FRd; omega)) hp hn (kE_in (kE_in hq.bi)) (by omega) (by omega) (by rw [up_n (by omega)]; omega) (by rw [up_n (by omega)]; omega) e0 htr hfin (fun k pl σ6 hO9 hf6 hl6 => ?_) (fun hO9 σ6 hC6 hq6 hf6 => ?_)
                  · have e22 : ∃ w : Int, σ6 124 22 = w := ⟨_, rfl⟩
                    obtain ⟨w22, e22⟩ := e22
                    have t41 := pt_124_41 (fr.ptrx (fun a j z => hf6 a j (fun y => z (frx_q (by omega) y))) (rQ.pt (rQ_up hq5 (by unfold FRd; omega))))
                    conv => whnf
                    refine ⟨(by first | assumption | rfl), ?_⟩
                    try simp (disch := omega) only [Int.cast_ofNat_Int, up_s, up_a, up_i, mp_a, mp_ge]
                    try simp only [w9]
                    try simp only [c28]
                    try simp only [v11]
                    try simp only [t39]
                    try simp only [t40]
                    try simp only [t41]
                    try simp only [e22]
                    try simp only [lk_136]
                    try simp only [lk_137]
                    try simp only [lk_138]
                    try simp only [ekx]
                    conv => whnf
                    refine ⟨(by first | assumption | rfl), ?_⟩
                    try simp (disch := omega) only [Int.cast_ofNat_Int, up_s, up_a, up_i, mp_a, mp_ge]
                    try simp only [w9]
                    try simp only [c28]
                    try simp only [v11]
                    try simp only [t39]
                    try simp only [t40]
                    try simp only [t41]
                    try simp only [e22]
                    try simp only [lk_136]
                    try simp only [lk_137]
                    try simp only [lk_138]
                    try simp only [ekx]
                    conv => whnf
                    refine ⟨sx_ixI (by first | assumption | rfl) (by omega) (by omega), ?_⟩
                    conv => whnf
                    refine ⟨_, ⟨rfl, _, _, rfl, rfl, ?_, rfl⟩⟩
                    first
                    | exact Or.inl ⟨rfl, k, pl, hO1 k pl hO9, ⟨by rw [up_n (by omega)]; exact hl6.1, by rw [up_n (by omega)]; exact hl6.2⟩, (fun a j z => by rw [up_n (fun y => z (frx_3 (by omega))), hf6 a j (fun y => z (frx_q (by omega) y)), up_n (fun y => z (frx_3 (by omega))), hf5 a j (fun y => z (frx_t y)), up_n (fun y => z (frx_3 (by omega))), hf4 a j (fun y => z (frx_t y))])⟩
                    | (refine Or.inr ⟨rfl, kI tx n9 m (kE tx n9 (kE tx n9 i)), rQ_up hq6 (by unfold FRd; omega), (fun a j z => by rw [up_n (fun y => z (Or.inl (frx_3 (by omega)))), hf6 a j (fun y => z (Or.inl (frx_qs (by omega) y))), up_n (fun y => z (Or.inl (frx_3 (by omega)))), hf5 a j (fun y => z (Or.inl (frx_t y))), up_n (fun y => z (Or.inl (frx_3 (by omega)))), hf4 a j (fun y => z (Or.inl (frx_t y)))]), ⟨by rw [up_n (by omega), hf6 _ _ (by unfold FEs; omega), up_n (by omega), hf5 _ _ (by unfold FRt; omega), up_n (by omega), hf4 _ _ (by unfold FRt; omega)], by rw [up_n (by omega), hf6 _ _ (by unfold FEs; omega), up_n (by omega), hf5 _ _ (by unfold FRt; omega), up_n (by omega), hf4 _ _ (by unfold FRt; omega)]⟩, (fun f y0 y1 => by rw [up_n (by omega), hf6 _ _ (by unfold FEs; omega), up_n (by omega), hf5 _ _ (by unfold FRt; omega), up_n (by omega), hf4 _ _ (by unfold FRt; omega)]; exact chb f y0 y1), fun h22 => ?_, fun h22 => absurd (hO2 hO9).2.1 h22⟩
                       obtain ⟨hO, _, he, f3, hxS, hx⟩ := hO2 hO9
                       rw [b14] at hC6 hf6
                       refine ⟨hO, he, cpl_fr hp (cpl_law hp hn (kE_in (kE_in hq.bi)) hc hw hK hntl f2 g13 hxS f3 (eC_r hC6 (fun a j z => up_n (by omega))) (fun a j z => ?_) ?_ ?_ ?_) (fun a j z => hx a j (by unfold FXz FXa; omega)) (fun _ _ _ => rfl)⟩
                       · rw [up_n (by omega), hf6 a j (by unfold FEs; omega), up_n (by omega), hf5 a j (by unfold FRt; omega), up_n (by omega), hf4 a j (by unfold FRt; omega)]
                       · rw [up_n (by omega), hf6 _ _ (by unfold FEs; omega), up_n (by omega), hf5 _ _ (by unfold FRt; omega), up_s]
                       · rw [up_n (by omega), hf6 _ _ (by unfold FEs; omega), up_s]
                       · rw [up_s])
                  · have t41 := pt_124_41 hq6.pt
                    have e22 := hC6.2.2.2.2.2.1
                    conv => whnf
                    refine ⟨(by first | assumption | rfl), ?_⟩
                    try simp (disch := omega) only [Int.cast_ofNat_Int, up_s, up_a, up_i, mp_a, mp_ge]
                    try simp only [w9]
                    try simp only [c28]
                    try simp only [v11]
                    try simp only [t39]
                    try simp only [t40]
                    try simp only [t41]
                    try simp only [e22]
                    try simp only [lk_136]
                    try simp only [lk_137]
                    try simp only [lk_138]
                    try simp only [ekx]
                    conv => whnf
                    refine ⟨(by first | assumption | rfl), ?_⟩
                    try simp (disch := omega) only [Int.cast_ofNat_Int, up_s, up_a, up_i, mp_a, mp_ge]
                    try simp only [w9]
                    try simp only [c28]
                    try simp only [v11]
                    try simp only [t39]
                    try simp only [t40]
                    try simp only [t41]
                    try simp only [e22]
                    try simp only [lk_136]
                    try simp only [lk_137]
                    try simp only [lk_138]
                    try simp only [ekx]
                    conv => whnf
                    refine ⟨sx_ixI (by first | assumption | rfl) (by omega) (by omega), ?_⟩
                    conv => whnf
                    refine ⟨_, ⟨rfl, _, _, rfl, rfl, ?_, rfl⟩⟩
                    first
                    | exact Or.inl ⟨rfl, k, pl, hO1 k pl hO9, ⟨by rw [up_n (by omega)]; exact hl6.1, by rw [up_n (by omega)]; exact hl6.2⟩, (fun a j z => by rw [up_n (fun y => z (frx_3 (by omega))), hf6 a j (fun y => z (frx_q (by omega) y)), up_n (fun y => z (frx_3 (by omega))), hf5 a j (fun y => z (frx_t y)), up_n (fun y => z (frx_3 (by omega))), hf4 a j (fun y => z (frx_t y))])⟩
                    | (refine Or.inr ⟨rfl, kI tx n9 m (kE tx n9 (kE tx n9 i)), rQ_up hq6 (by unfold FRd; omega), (fun a j z => by rw [up_n (fun y => z (Or.inl (frx_3 (by omega)))), hf6 a j (fun y => z (Or.inl (frx_qs (by omega) y))), up_n (fun y => z (Or.inl (frx_3 (by omega)))), hf5 a j (fun y => z (Or.inl (frx_t y))), up_n (fun y => z (Or.inl (frx_3 (by omega)))), hf4 a j (fun y => z (Or.inl (frx_t y)))]), ⟨by rw [up_n (by omega), hf6 _ _ (by unfold FEs; omega), up_n (by omega), hf5 _ _ (by unfold FRt; omega), up_n (by omega), hf4 _ _ (by unfold FRt; omega)], by rw [up_n (by omega), hf6 _ _ (by unfold FEs; omega), up_n (by omega), hf5 _ _ (by unfold FRt; omega), up_n (by omega), hf4 _ _ (by unfold FRt; omega)]⟩, (fun f y0 y1 => by rw [up_n (by omega), hf6 _ _ (by unfold FEs; omega), up_n (by omega), hf5 _ _ (by unfold FRt; omega), up_n (by omega), hf4 _ _ (by unfold FRt; omega)]; exact chb f y0 y1), fun h22 => ?_, fun h22 => absurd (hO2 hO9).2.1 h22⟩
                       obtain ⟨hO, _, he, f3, hxS, hx⟩ := hO2 hO9
                       rw [b14] at hC6 hf6
                       refine ⟨hO, he, cpl_fr hp (cpl_law hp hn (kE_in (kE_in hq.bi)) hc hw hK hntl f2 g13 hxS f3 (eC_r hC6 (fun a j z => up_n (by omega))) (fun a j z => ?_) ?_ ?_ ?_) (fun a j z => hx a j (by unfold FXz FXa; omega)) (fun _ _ _ => rfl)⟩
                       · rw [up_n (by omega), hf6 a j (by unfold FEs; omega), up_n (by omega), hf5 a j (by unfold FRt; omega), up_n (by omega), hf4 a j (by unfold FRt; omega)]
                       · rw [up_n (by omega), hf6 _ _ (by unfold FEs; omega), up_n (by omega), hf5 _ _ (by unfold FRt; omega), up_s]
                       · rw [up_n (by omega), hf6 _ _ (by unfold FEs; omega), up_s]
                       · rw [up_s])
                · simp only [sx_cc, Classical.not_not] at g
                  have htl : s (p + 13) (kT tx n9 (kE tx n9 i) - 8) < s (p + 14) (kT tx n9 (kE tx n9 i) - 8) := by omega
                  skip
                  conv => whnf
                  refine ⟨Nat.le_of_ble_eq_true rfl, Nat.le_of_ble_eq_true rfl, (by first | assumption | rfl), ?_⟩
                  refine r_wrong ?_
                  conv => whnf
                  refine ⟨fun q9 => by first | (simp at q9; done) | omega, ?_⟩
                  exact hFx _ _ _ (lf_lwF H ht (Or.inr (Or.inl ⟨hK, htl, rfl, rfl⟩)) (Or.inr htl)) (fun a j z => by rw [up_n (fun y => z (Or.inl (by omega))), up_n (fun y => z (Or.inl (by omega))), hf4 a j (fun y => z (frx_t y))]) ⟨by rw [up_n (by omega), up_s], by rw [up_s, hq4.tk.2.1]⟩
              · simp only [sx_cc, Classical.not_not] at g
                have hnk := (pKz_l hkz4).2.2.2 (by omega)
                conv => whnf
                refine ⟨Nat.le_of_ble_eq_true rfl, Nat.le_of_ble_eq_true rfl, (by first | assumption | rfl), ?_⟩
                refine r_wrong ?_
                conv => whnf
                refine ⟨fun q9 => by first | (simp at q9; done) | omega, ?_⟩
                exact hFx _ _ _ (lf_lwF H ht (Or.inl ⟨hnk, rfl, rfl⟩) (Or.inl hnk)) (fun a j z => by rw [up_n (fun y => z (Or.inl (by omega))), up_n (fun y => z (Or.inl (by omega))), hf4 a j (fun y => z (frx_t y))]) ⟨by rw [up_n (by omega), up_s], by rw [up_s, hq4.tk.2.1]⟩
        conv => whnf
        refine ⟨fun g => ?_, ?_⟩
        · skip
          have ht : kT tx n9 i = 0 := by omega
          skip
          conv => whnf
          refine ⟨Nat.le_of_ble_eq_true rfl, Nat.le_of_ble_eq_true rfl, (by first | assumption | rfl), ?_⟩
          refine r_field hq hc (fun k pl σ3 hz hf3 hl3 => ?_) (fun hz σ3 hf3 hq3 v26 v18 v19 => ?_)
          · skip
            conv => whnf
            refine ⟨_, ⟨rfl, _, _, rfl, rfl, ?_, rfl⟩⟩
            first
            | (exact Or.inl ⟨rfl, k, pl, lf_fd_F H ht hz, hl3, hf3⟩)
            | (refine Or.inr ⟨rfl, _, hq3, (fun a j z => hf3 a j (fun y => z (by unfold FRg at y; exact Or.inl (Or.inl (by omega))))), ⟨hf3 _ _ (by unfold FRg; omega), hf3 _ _ (by unfold FRg; omega)⟩, (fun f y0 y1 => by rw [hf3 134 _ (by unfold FRg; omega)]; exact chb f y0 y1), fun h22 => ?_, fun h22 => (lf_fd_S H ht hz).2 h22⟩
               obtain ⟨hO, he, s1, hx, g1, g2, g3, g4⟩ := (lf_fd_S H ht hz).1 h22
               exact ⟨hO, he, cpl_fr hp (cpl_field hp hc g1 hf3 g2 (g3.trans v18.symm) (g4.trans v19.symm) v26) (fun a j z => hx a j (by unfold FXz FXa; omega)) (fun _ _ _ => rfl)⟩)
          · skip
            conv => whnf
            refine ⟨_, ⟨rfl, _, _, rfl, rfl, ?_, rfl⟩⟩
            first
            | (exact Or.inl ⟨rfl, k, pl, lf_fd_F H ht hz, hl3, hf3⟩)
            | (refine Or.inr ⟨rfl, _, hq3, (fun a j z => hf3 a j (fun y => z (by unfold FRg at y; exact Or.inl (Or.inl (by omega))))), ⟨hf3 _ _ (by unfold FRg; omega), hf3 _ _ (by unfold FRg; omega)⟩, (fun f y0 y1 => by rw [hf3 134 _ (by unfold FRg; omega)]; exact chb f y0 y1), fun h22 => ?_, fun h22 => (lf_fd_S H ht hz).2 h22⟩
               obtain ⟨hO, he, s1, hx, g1, g2, g3, g4⟩ := (lf_fd_S H ht hz).1 h22
               exact ⟨hO, he, cpl_fr hp (cpl_field hp hc g1 hf3 g2 (g3.trans v18.symm) (g4.trans v19.symm) v26) (fun a j z => hx a j (by unfold FXz FXa; omega)) (fun _ _ _ => rfl)⟩)
        conv => whnf
        refine ⟨fun g => ?_, ?_⟩
        · skip
          have ht : kT tx n9 i = 1 := by omega
          skip
          conv => whnf
          refine ⟨Nat.le_of_ble_eq_true rfl, Nat.le_of_ble_eq_true rfl, (by first | assumption | rfl), ?_⟩
          refine r_tree1 hq hc hw.1 (fun k pl σ3 hz hf3 hl3 => ?_) (fun hz σ3 hf3 hq3 v29 v127 v24 v25 => ?_)
          · skip
            conv => whnf
            refine ⟨_, ⟨rfl, _, _, rfl, rfl, ?_, rfl⟩⟩
            first
            | (exact Or.inl ⟨rfl, k, pl, lf_kd_F H (by omega) (by rw [ht]; exact hz), hl3, hf3⟩)
            | (refine Or.inr ⟨rfl, _, hq3, (fun a j z => hf3 a j (fun y => z (by unfold FRg at y; rcases y with y | y | y; exact Or.inl (Or.inl (by omega)); exact Or.inl (Or.inl (by omega)); exact Or.inl (frx_k (by have := zCell_bd (tx := tx) (n9 := n9) (i := kE tx n9 i) hw.1; omega))))), ⟨hf3 _ _ (by unfold FRg; omega), hf3 _ _ (by unfold FRg; omega)⟩, (fun f y0 y1 => by rw [hf3 134 _ (by unfold FRg; omega)]; exact chb f y0 y1), fun h22 => ?_, fun h22 => (lf_kd_S H (by omega) (by rw [ht]; exact hz)).2 h22⟩
               obtain ⟨hO, he, s1, hx, g1, g2, g3, g4⟩ := (lf_kd_S H (by omega) (by rw [ht]; exact hz)).1 h22
               exact ⟨hO, he, cpl_fr hp (cpl_kind1 hp hc (by have := zCell_bd (tx := tx) (n9 := n9) (i := kE tx n9 i) hw.1; omega) (by rw [ht] at g1; exact g1) hf3 g2 v29 (by rw [ht] at g3; exact g3) v127 (by rw [ht] at g4; exact g4) v24 v25) (fun a j z => hx a j (by unfold FXz FXa; omega)) (fun _ _ _ => rfl)⟩)
          · skip
            conv => whnf
            refine ⟨_, ⟨rfl, _, _, rfl, rfl, ?_, rfl⟩⟩
            first
            | (exact Or.inl ⟨rfl, k, pl, lf_kd_F H (by omega) (by rw [ht]; exact hz), hl3, hf3⟩)
            | (refine Or.inr ⟨rfl, _, hq3, (fun a j z => hf3 a j (fun y => z (by unfold FRg at y; rcases y with y | y | y; exact Or.inl (Or.inl (by omega)); exact Or.inl (Or.inl (by omega)); exact Or.inl (frx_k (by have := zCell_bd (tx := tx) (n9 := n9) (i := kE tx n9 i) hw.1; omega))))), ⟨hf3 _ _ (by unfold FRg; omega), hf3 _ _ (by unfold FRg; omega)⟩, (fun f y0 y1 => by rw [hf3 134 _ (by unfold FRg; omega)]; exact chb f y0 y1), fun h22 => ?_, fun h22 => (lf_kd_S H (by omega) (by rw [ht]; exact hz)).2 h22⟩
               obtain ⟨hO, he, s1, hx, g1, g2, g3, g4⟩ := (lf_kd_S H (by omega) (by rw [ht]; exact hz)).1 h22
               exact ⟨hO, he, cpl_fr hp (cpl_kind1 hp hc (by have := zCell_bd (tx := tx) (n9 := n9) (i := kE tx n9 i) hw.1; omega) (by rw [ht] at g1; exact g1) hf3 g2 v29 (by rw [ht] at g3; exact g3) v127 (by rw [ht] at g4; exact g4) v24 v25) (fun a j z => hx a j (by unfold FXz FXa; omega)) (fun _ _ _ => rfl)⟩)
        conv => whnf
        refine ⟨fun g => ?_, ?_⟩
        · skip
          have ht : kT tx n9 i = 2 := by omega
          skip
          conv => whnf
          refine ⟨Nat.le_of_ble_eq_true rfl, Nat.le_of_ble_eq_true rfl, (by first | assumption | rfl), ?_⟩
          refine r_tree2 hq hc hw.1 (fun k pl σ3 hz hf3 hl3 => ?_) (fun hz σ3 hf3 hq3 v29 v127 v24 v25 => ?_)
          · skip
            conv => whnf
            refine ⟨_, ⟨rfl, _, _, rfl, rfl, ?_, rfl⟩⟩
            first
            | (exact Or.inl ⟨rfl, k, pl, lf_kd_F H (by omega) (by rw [ht]; exact hz), hl3, hf3⟩)
            | (refine Or.inr ⟨rfl, _, hq3, (fun a j z => hf3 a j (fun y => z (by unfold FRg at y; rcases y with y | y | y; exact Or.inl (Or.inl (by omega)); exact Or.inl (Or.inl (by omega)); exact Or.inl (frx_k (by have := zCell_bd (tx := tx) (n9 := n9) (i := kE tx n9 i) hw.1; omega))))), ⟨hf3 _ _ (by unfold FRg; omega), hf3 _ _ (by unfold FRg; omega)⟩, (fun f y0 y1 => by rw [hf3 134 _ (by unfold FRg; omega)]; exact chb f y0 y1), fun h22 => ?_, fun h22 => (lf_kd_S H (by omega) (by rw [ht]; exact hz)).2 h22⟩
               obtain ⟨hO, he, s1, hx, g1, g2, g3, g4⟩ := (lf_kd_S H (by omega) (by rw [ht]; exact hz)).1 h22
               exact ⟨hO, he, cpl_fr hp (cpl_kind2 hp hc (by have := zCell_bd (tx := tx) (n9 := n9) (i := kE tx n9 i) hw.1; omega) (by rw [ht] at g1; exact g1) hf3 g2 v29 (by rw [ht] at g3; exact g3) v127 (by rw [ht] at g4; exact g4) v24 v25) (fun a j z => hx a j (by unfold FXz FXa; omega)) (fun _ _ _ => rfl)⟩)
          · skip
            conv => whnf
            refine ⟨_, ⟨rfl, _, _, rfl, rfl, ?_, rfl⟩⟩
            first
            | (exact Or.inl ⟨rfl, k, pl, lf_kd_F H (by omega) (by rw [ht]; exact hz), hl3, hf3⟩)
            | (refine Or.inr ⟨rfl, _, hq3, (fun a j z => hf3 a j (fun y => z (by unfold FRg at y; rcases y with y | y | y; exact Or.inl (Or.inl (by omega)); exact Or.inl (Or.inl (by omega)); exact Or.inl (frx_k (by have := zCell_bd (tx := tx) (n9 := n9) (i := kE tx n9 i) hw.1; omega))))), ⟨hf3 _ _ (by unfold FRg; omega), hf3 _ _ (by unfold FRg; omega)⟩, (fun f y0 y1 => by rw [hf3 134 _ (by unfold FRg; omega)]; exact chb f y0 y1), fun h22 => ?_, fun h22 => (lf_kd_S H (by omega) (by rw [ht]; exact hz)).2 h22⟩
               obtain ⟨hO, he, s1, hx, g1, g2, g3, g4⟩ := (lf_kd_S H (by omega) (by rw [ht]; exact hz)).1 h22
               exact ⟨hO, he, cpl_fr hp (cpl_kind2 hp hc (by have := zCell_bd (tx := tx) (n9 := n9) (i := kE tx n9 i) hw.1; omega) (by rw [ht] at g1; exact g1) hf3 g2 v29 (by rw [ht] at g3; exact g3) v127 (by rw [ht] at g4; exact g4) v24 v25) (fun a j z => hx a j (by unfold FXz FXa; omega)) (fun _ _ _ => rfl)⟩)
        conv => whnf
        refine ⟨fun g => ?_, ?_⟩
        · skip
          have ht : kT tx n9 i = 3 := by omega
          skip
          conv => whnf
          refine ⟨Nat.le_of_ble_eq_true rfl, Nat.le_of_ble_eq_true rfl, (by first | assumption | rfl), ?_⟩
          refine r_farm hq hc hw.1 (fun h3 σ3 hf3 hl3 => ?_) (fun k pl σ3 h3 hz hf3 hl3 => ?_) (fun h3 hz σ3 hf3 hq3 v29 v128 v129 v20 => ?_)
          · skip
            conv => whnf
            refine ⟨_, ⟨rfl, _, _, rfl, rfl, ?_, rfl⟩⟩
            first
            | (exact Or.inl ⟨rfl, _, _, lf_fm0 H ht h3, hl3, hf3⟩)
            | (exact Or.inl ⟨rfl, k, pl, lf_fm_F H ht h3 hz, hl3, hf3⟩)
            | (refine Or.inr ⟨rfl, _, hq3, (fun a j z => hf3 a j (fun y => z (Or.inl (frx_m hw.1.2.2.1.1 y)))), ⟨hf3 _ _ (by unfold FFm; omega), hf3 _ _ (by unfold FFm; omega)⟩, (fun f y0 y1 => by rw [hf3 134 _ (by unfold FFm; omega)]; exact chb f y0 y1), fun h22 => ?_, fun h22 => (lf_fm_S H ht h3 hz).2 h22⟩
               obtain ⟨hO, he, s1, hx, g1, g2, g3, g4, g5⟩ := (lf_fm_S H ht h3 hz).1 h22
               exact ⟨hO, he, cpl_fr hp (cpl_farm hp hc g1 hf3 hw.1.2.2.1.1 g2 v29 g3 v128 (g4.trans v129.symm) g5 v20) (fun a j z => hx a j (by unfold FXz FXa; omega)) (fun _ _ _ => rfl)⟩)
          · skip
            conv => whnf
            refine ⟨_, ⟨rfl, _, _, rfl, rfl, ?_, rfl⟩⟩
            first
            | (exact Or.inl ⟨rfl, _, _, lf_fm0 H ht h3, hl3, hf3⟩)
            | (exact Or.inl ⟨rfl, k, pl, lf_fm_F H ht h3 hz, hl3, hf3⟩)
            | (refine Or.inr ⟨rfl, _, hq3, (fun a j z => hf3 a j (fun y => z (Or.inl (frx_m hw.1.2.2.1.1 y)))), ⟨hf3 _ _ (by unfold FFm; omega), hf3 _ _ (by unfold FFm; omega)⟩, (fun f y0 y1 => by rw [hf3 134 _ (by unfold FFm; omega)]; exact chb f y0 y1), fun h22 => ?_, fun h22 => (lf_fm_S H ht h3 hz).2 h22⟩
               obtain ⟨hO, he, s1, hx, g1, g2, g3, g4, g5⟩ := (lf_fm_S H ht h3 hz).1 h22
               exact ⟨hO, he, cpl_fr hp (cpl_farm hp hc g1 hf3 hw.1.2.2.1.1 g2 v29 g3 v128 (g4.trans v129.symm) g5 v20) (fun a j z => hx a j (by unfold FXz FXa; omega)) (fun _ _ _ => rfl)⟩)
          · skip
            conv => whnf
            refine ⟨_, ⟨rfl, _, _, rfl, rfl, ?_, rfl⟩⟩
            first
            | (exact Or.inl ⟨rfl, _, _, lf_fm0 H ht h3, hl3, hf3⟩)
            | (exact Or.inl ⟨rfl, k, pl, lf_fm_F H ht h3 hz, hl3, hf3⟩)
            | (refine Or.inr ⟨rfl, _, hq3, (fun a j z => hf3 a j (fun y => z (Or.inl (frx_m hw.1.2.2.1.1 y)))), ⟨hf3 _ _ (by unfold FFm; omega), hf3 _ _ (by unfold FFm; omega)⟩, (fun f y0 y1 => by rw [hf3 134 _ (by unfold FFm; omega)]; exact chb f y0 y1), fun h22 => ?_, fun h22 => (lf_fm_S H ht h3 hz).2 h22⟩
               obtain ⟨hO, he, s1, hx, g1, g2, g3, g4, g5⟩ := (lf_fm_S H ht h3 hz).1 h22
               exact ⟨hO, he, cpl_fr hp (cpl_farm hp hc g1 hf3 hw.1.2.2.1.1 g2 v29 g3 v128 (g4.trans v129.symm) g5 v20) (fun a j z => hx a j (by unfold FXz FXa; omega)) (fun _ _ _ => rfl)⟩)
        conv => whnf
        refine ⟨fun g => ?_, ?_⟩
        · skip
          have ht : kT tx n9 i = 4 := by omega
          skip
          conv => whnf
          refine ⟨Nat.le_of_ble_eq_true rfl, Nat.le_of_ble_eq_true rfl, (by first | assumption | rfl), ?_⟩
          refine r_walk hq hc hw.1 (fun h5 σ3 hf3 hl3 => ?_) (fun k pl σ3 h5 hz hf3 hl3 => ?_) (fun h5 hz σ3 hf3 hq3 v29 v21 v130 v131 v132 v133 v134 => ?_)
          · skip
            conv => whnf
            refine ⟨_, ⟨rfl, _, _, rfl, rfl, ?_, rfl⟩⟩
            first
            | (exact Or.inl ⟨rfl, _, _, lf_wk0 H ht h5, hl3, hf3⟩)
            | (exact Or.inl ⟨rfl, k, pl, lf_wk_F H ht h5 hz, hl3, hf3⟩)
            | (refine Or.inr ⟨rfl, _, hq3, (fun a j z => hf3 a j (fun y => z (frx_wk hw.1.2.2.2.1.1 y))), ⟨hf3 _ _ (by unfold FWk; omega), hf3 _ _ (by unfold FWk; omega)⟩, (fun f y0 y1 => by
                    by_cases e9 : f = s p 6
                    · rw [e9, v134]; have := zCell_bd (tx := tx) (n9 := n9) (i := (kE tx n9 (kE tx n9 (kE tx n9 (kE tx n9 (kE tx n9 i)))))) hw.1; omega
                    · rw [hf3 134 _ (by unfold FWk; omega)]; exact chb f y0 y1), fun h22 => ?_, fun h22 => (lf_wk_S H ht h5 hz).2 h22⟩
               obtain ⟨hO, he, s1, hx, g1, g2, g3, g4, g5, g6, g7, g8⟩ := (lf_wk_S H ht h5 hz).1 h22
               exact ⟨hO, he, cpl_fr hp (cpl_walk hp hc g1 hf3 ⟨hw.1.2.2.2.1.1, h5⟩ g2 v29 (g3.trans v130.symm) (g4.trans v131.symm) (g5.trans v132.symm) (g6.trans v133.symm) (g7.trans v134.symm) (by rw [g7]; have := zCell_bd (tx := tx) (n9 := n9) (i := (kE tx n9 (kE tx n9 (kE tx n9 (kE tx n9 (kE tx n9 i)))))) hw.1; omega) g8 v21) (fun a j z => hx a j (by unfold FXz FXa; omega)) (fun _ _ _ => rfl)⟩)
          · skip
            conv => whnf
            refine ⟨_, ⟨rfl, _, _, rfl, rfl, ?_, rfl⟩⟩
            first
            | (exact Or.inl ⟨rfl, _, _, lf_wk0 H ht h5, hl3, hf3⟩)
            | (exact Or.inl ⟨rfl, k, pl, lf_wk_F H ht h5 hz, hl3, hf3⟩)
            | (refine Or.inr ⟨rfl, _, hq3, (fun a j z => hf3 a j (fun y => z (frx_wk hw.1.2.2.2.1.1 y))), ⟨hf3 _ _ (by unfold FWk; omega), hf3 _ _ (by unfold FWk; omega)⟩, (fun f y0 y1 => by
                    by_cases e9 : f = s p 6
                    · rw [e9, v134]; have := zCell_bd (tx := tx) (n9 := n9) (i := (kE tx n9 (kE tx n9 (kE tx n9 (kE tx n9 (kE tx n9 i)))))) hw.1; omega
                    · rw [hf3 134 _ (by unfold FWk; omega)]; exact chb f y0 y1), fun h22 => ?_, fun h22 => (lf_wk_S H ht h5 hz).2 h22⟩
               obtain ⟨hO, he, s1, hx, g1, g2, g3, g4, g5, g6, g7, g8⟩ := (lf_wk_S H ht h5 hz).1 h22
               exact ⟨hO, he, cpl_fr hp (cpl_walk hp hc g1 hf3 ⟨hw.1.2.2.2.1.1, h5⟩ g2 v29 (g3.trans v130.symm) (g4.trans v131.symm) (g5.trans v132.symm) (g6.trans v133.symm) (g7.trans v134.symm) (by rw [g7]; have := zCell_bd (tx := tx) (n9 := n9) (i := (kE tx n9 (kE tx n9 (kE tx n9 (kE tx n9 (kE tx n9 i)))))) hw.1; omega) g8 v21) (fun a j z => hx a j (by unfold FXz FXa; omega)) (fun _ _ _ => rfl)⟩)
          · skip
            conv => whnf
            refine ⟨_, ⟨rfl, _, _, rfl, rfl, ?_, rfl⟩⟩
            first
            | (exact Or.inl ⟨rfl, _, _, lf_wk0 H ht h5, hl3, hf3⟩)
            | (exact Or.inl ⟨rfl, k, pl, lf_wk_F H ht h5 hz, hl3, hf3⟩)
            | (refine Or.inr ⟨rfl, _, hq3, (fun a j z => hf3 a j (fun y => z (frx_wk hw.1.2.2.2.1.1 y))), ⟨hf3 _ _ (by unfold FWk; omega), hf3 _ _ (by unfold FWk; omega)⟩, (fun f y0 y1 => by
                    by_cases e9 : f = s p 6
                    · rw [e9, v134]; have := zCell_bd (tx := tx) (n9 := n9) (i := (kE tx n9 (kE tx n9 (kE tx n9 (kE tx n9 (kE tx n9 i)))))) hw.1; omega
                    · rw [hf3 134 _ (by unfold FWk; omega)]; exact chb f y0 y1), fun h22 => ?_, fun h22 => (lf_wk_S H ht h5 hz).2 h22⟩
               obtain ⟨hO, he, s1, hx, g1, g2, g3, g4, g5, g6, g7, g8⟩ := (lf_wk_S H ht h5 hz).1 h22
               exact ⟨hO, he, cpl_fr hp (cpl_walk hp hc g1 hf3 ⟨hw.1.2.2.2.1.1, h5⟩ g2 v29 (g3.trans v130.symm) (g4.trans v131.symm) (g5.trans v132.symm) (g6.trans v133.symm) (g7.trans v134.symm) (by rw [g7]; have := zCell_bd (tx := tx) (n9 := n9) (i := (kE tx n9 (kE tx n9 (kE tx n9 (kE tx n9 (kE tx n9 i)))))) hw.1; omega) g8 v21) (fun a j z => hx a j (by unfold FXz FXa; omega)) (fun _ _ _ => rfl)⟩)
        conv => whnf
        refine ⟨fun g => ?_, ?_⟩
        · skip
          have ht : kT tx n9 i = 5 := by omega
          skip
          conv => whnf
          refine ⟨Nat.le_of_ble_eq_true rfl, Nat.le_of_ble_eq_true rfl, (by first | assumption | rfl), ?_⟩
          refine r_cast hq hc (fun k pl σ3 hz hf3 hl3 => ?_) (fun m σ3 hz hf3 hq3 v27 v135 => ?_)
          · skip
            conv => whnf
            refine ⟨_, ⟨rfl, _, _, rfl, rfl, ?_, rfl⟩⟩
            first
            | (exact Or.inl ⟨rfl, k, pl, lf_ca_F H ht hz, hl3, hf3⟩)
            | (refine Or.inr ⟨rfl, _, hq3, (fun a j z => hf3 a j (fun y => z (Or.inl (frx_c y)))), ⟨hf3 _ _ (by unfold FCa; omega), hf3 _ _ (by unfold FCa; omega)⟩, (fun f y0 y1 => by rw [hf3 134 _ (by unfold FCa; omega)]; exact chb f y0 y1), fun h22 => ?_, fun h22 => (lf_ca_S H ht hz).2 h22⟩
               obtain ⟨hO, he, s1, hx, g1, g2, g3⟩ := (lf_ca_S H ht hz).1 h22
               exact ⟨hO, he, cpl_fr hp (cpl_cast hp hc hz.1 g1 hf3 g2 v27 (fun q q0 q1 => (g3 q q0 q1).trans (v135 q q0 q1).symm)) (fun a j z => hx a j (by unfold FXz FXa; omega)) (fun _ _ _ => rfl)⟩)
          · skip
            conv => whnf
            refine ⟨_, ⟨rfl, _, _, rfl, rfl, ?_, rfl⟩⟩
            first
            | (exact Or.inl ⟨rfl, k, pl, lf_ca_F H ht hz, hl3, hf3⟩)
            | (refine Or.inr ⟨rfl, _, hq3, (fun a j z => hf3 a j (fun y => z (Or.inl (frx_c y)))), ⟨hf3 _ _ (by unfold FCa; omega), hf3 _ _ (by unfold FCa; omega)⟩, (fun f y0 y1 => by rw [hf3 134 _ (by unfold FCa; omega)]; exact chb f y0 y1), fun h22 => ?_, fun h22 => (lf_ca_S H ht hz).2 h22⟩
               obtain ⟨hO, he, s1, hx, g1, g2, g3⟩ := (lf_ca_S H ht hz).1 h22
               exact ⟨hO, he, cpl_fr hp (cpl_cast hp hc hz.1 g1 hf3 g2 v27 (fun q q0 q1 => (g3 q q0 q1).trans (v135 q q0 q1).symm)) (fun a j z => hx a j (by unfold FXz FXa; omega)) (fun _ _ _ => rfl)⟩)
        conv => whnf
        refine ⟨fun g => ?_, ?_⟩
        · skip
          have ht : kT tx n9 i = 6 := by omega
          skip
          conv => whnf
          refine ⟨(by first | assumption | rfl), ?_⟩
          try simp (disch := omega) only [Int.cast_ofNat_Int, up_s, up_a, up_i, mp_a, mp_ge]
          try simp only [w9]
          try simp only [c28]
          try simp only [v11]
          try simp only [t39]
          try simp only [t40]
          try simp only [t41]
          try simp only [e22]
          try simp only [lk_136]
          try simp only [lk_137]
          try simp only [lk_138]
          try simp only [ekx]
          conv => whnf
          refine ⟨fun g => ?_, fun g => ?_⟩
          · simp only [sx_cc, Classical.not_not] at g
            conv => whnf
            refine ⟨(by first | assumption | rfl), by omega, ?_⟩
            try simp (disch := omega) only [Int.cast_ofNat_Int, up_s, up_a, up_i, mp_a, mp_ge]
            try simp only [w9]
            try simp only [c28]
            try simp only [v11]
            try simp only [t39]
            try simp only [t40]
            try simp only [t41]
            try simp only [e22]
            try simp only [lk_136]
            try simp only [lk_137]
            try simp only [lk_138]
            try simp only [ekx]
            conv => whnf
            refine ⟨Nat.le_of_ble_eq_true rfl, Nat.le_of_ble_eq_true rfl, (by first | assumption | rfl), ?_⟩
            refine r_tok (rQ_up hq (by unfold FRd; omega)) (fun σ4 hf4 hq4 => ?_)
            conv => whnf
            refine ⟨Nat.le_of_ble_eq_true rfl, Nat.le_of_ble_eq_true rfl, (by first | assumption | rfl), ?_⟩
            refine r_num hq4 (lo := 0) (hi := 99999) (by decide) (fun k pl σ5 n5 hf5 hl5 => ?_) (fun n5 σ5 hf5 hq5 v11 => ?_)
            · skip
              conv => whnf
              refine ⟨fun g => ?_, fun g => ?_⟩
              · exact absurd g (by simp [sx_cc])
              · skip
                conv => whnf
                refine ⟨fun q9 => by first | (simp at q9; done) | omega, ?_⟩
                exact hFx k pl _ (lf_sd_F H ht (by unfold zSeed; rw [fBq_0 (by omega), n5]; rfl)) (fun a j z => by rw [hf5 a j (fun y => z (frx_fw y)), hf4 a j (fun y => z (frx_t y)), up_n (fun y => z (Or.inl (by omega)))]) hl5
            · skip
              conv => whnf
              refine ⟨fun g => ?_, fun g => ?_⟩
              · skip
                conv => whnf
                refine ⟨(by first | assumption | rfl), ?_⟩
                try simp (disch := omega) only [Int.cast_ofNat_Int, up_s, up_a, up_i, mp_a, mp_ge]
                try simp only [w9]
                try simp only [c28]
                try simp only [v11]
                try simp only [t39]
                try simp only [t40]
                try simp only [t41]
                try simp only [e22]
                try simp only [lk_136]
                try simp only [lk_137]
                try simp only [lk_138]
                try simp only [ekx]
                conv => whnf
                refine ⟨(by first | assumption | rfl), ?_⟩
                try simp (disch := omega) only [Int.cast_ofNat_Int, up_s, up_a, up_i, mp_a, mp_ge]
                try simp only [w9]
                try simp only [c28]
                try simp only [v11]
                try simp only [t39]
                try simp only [t40]
                try simp only [t41]
                try simp only [e22]
                try simp only [lk_136]
                try simp only [lk_137]
                try simp only [lk_138]
                try simp only [ekx]
                conv => whnf
                refine ⟨_, ⟨rfl, _, _, rfl, rfl, ?_, rfl⟩⟩
                have f9 := fBq_0 (k := 3) (s := kS tx n9 i) (b := ¬ s 32 8 = 0) (by omega)
                have hz : zSeed p s tx n9 i = none := by unfold zSeed; rw [f9, n5]; rfl
                have hq3 : rQ (sx_up σ5 124 23 (σ5 124 11)) tx n9 (kE tx n9 (kE tx n9 i)) := rQ_up hq5 (by unfold FRd; omega)
                have hf3 : fr (fun a j => FRg a j ∨ (a = 124 ∧ (j = 23 ∨ j = 28))) σ (sx_up σ5 124 23 (σ5 124 11)) := fun a j z => by unfold FRg at z; rw [up_n (by omega), hf5 a j (by unfold FRg; omega), hf4 a j (by unfold FRt; omega), up_n (by omega)]
                try rw [← v11]
                refine Or.inr ⟨rfl, _, hq3, (fun a j z => hf3 a j (fun y => z (by unfold FRg at y; exact Or.inl (Or.inl (by omega))))), ⟨hf3 _ _ (by unfold FRg; omega), hf3 _ _ (by unfold FRg; omega)⟩, (fun f y0 y1 => by rw [hf3 134 _ (by unfold FRg; omega)]; exact chb f y0 y1), fun h22 => ?_, fun h22 => (lf_sd_S H ht hz).2 h22⟩
                obtain ⟨hO, he, s1, hx, g1, g2, g3⟩ := (lf_sd_S H ht hz).1 h22
                exact ⟨hO, he, cpl_fr hp (cpl_seed hp hc g1 hf3 g2 (g3.trans (by rw [up_s]; exact v11.symm)) (by rw [up_n (by omega), hf5 _ _ (by unfold FRg; omega), hf4 _ _ (by unfold FRt; omega), up_s])) (fun a j z => hx a j (by unfold FXz FXa; omega)) (fun _ _ _ => rfl)⟩
              · exact absurd g (by simp [sx_cc])
          · simp only [sx_cc, Classical.not_not] at g
            conv => whnf
            refine ⟨Nat.le_of_ble_eq_true rfl, Nat.le_of_ble_eq_true rfl, (by first | assumption | rfl), ?_⟩
            refine r_wrong ?_
            conv => whnf
            refine ⟨fun q9 => by first | (simp at q9; done) | omega, ?_⟩
            exact hFx _ _ _ (lf_sd_F H ht (by unfold zSeed; rw [fBq_1 (by omega)]; rfl)) (fun a j z => by rw [up_n (fun y => z (Or.inl (by omega))), up_n (fun y => z (Or.inl (by omega)))]) ⟨by rw [up_n (by omega), up_s], by rw [up_s, ha]⟩
        exact trivial
      · simp only [sx_cc, Classical.not_not] at g
        conv => whnf
        refine ⟨Nat.le_of_ble_eq_true rfl, Nat.le_of_ble_eq_true rfl, (by first | assumption | rfl), ?_⟩
        refine r_wrong ?_
        conv => whnf
        refine ⟨fun q9 => by first | (simp at q9; done) | omega, ?_⟩
        exact hFx _ _ _ (lf_df H ((pKz_l hkz).2.1 (by omega))) (fun a j z => by rw [up_n (fun y => z (Or.inl (by omega))), up_n (fun y => z (Or.inl (by omega)))]) ⟨by rw [up_n (by omega), up_s], by rw [up_s, ha]⟩
  · intro n t L st σ' hk
    obtain ⟨rfl, z, w2, rfl, rfl, hc, rfl⟩ := hk
    have hcz := hc
    clear hc
    conv => whnf
    refine ⟨fun g => ?_, fun g => ?_⟩
    · simp only [sx_cc, Classical.not_not] at g
      obtain ⟨_, e, hqe, hfe, h45, hb5, h1, h2⟩ := hcz.resolve_left (fun z => by omega)
      conv => whnf
      refine ⟨Nat.le_of_ble_eq_true rfl, Nat.le_of_ble_eq_true rfl, (by first | assumption | rfl), ?_⟩
      refine r_issign (fun g59 => ?_) (fun g59 => ?_)
      · skip
        conv => whnf
        refine ⟨fun g => ?_, fun g => ?_⟩
        · skip
          conv => whnf
          refine ⟨Nat.le_of_ble_eq_true rfl, Nat.le_of_ble_eq_true rfl, (by first | assumption | rfl), ?_⟩
          refine r_tok hqe (fun σ9 hf9 hq9 => ?_)
          conv => whnf
          refine ⟨fun q9 => by first | (simp at q9; done) | omega, ?_⟩
          obtain ⟨hO, he, hcp⟩ := h1 ((pKz_e hqe.tk.2.2).2.2.1.mp g59)
          exact hS hO _ (cpl_fr hp hcp (fun _ _ _ => rfl) (fun a j z => hf9 a j (by unfold FRt; omega))) (by rw [he]; exact hq9) (fun a j z => (hf9 a j (fun y => z (Or.inl (frx_t y)))).trans (hfe a j z)) ⟨(hf9 _ _ (by unfold FRt; omega)).trans h45.1, (hf9 _ _ (by unfold FRt; omega)).trans h45.2⟩
        · exact absurd g (by simp [sx_cc])
      · skip
        conv => whnf
        refine ⟨fun g => ?_, fun g => ?_⟩
        · exact absurd g (by simp [sx_cc])
        · skip
          conv => whnf
          refine ⟨Nat.le_of_ble_eq_true rfl, Nat.le_of_ble_eq_true rfl, (by first | assumption | rfl), ?_⟩
          refine r_wrong ?_
          conv => whnf
          refine ⟨fun q9 => by first | (simp at q9; done) | omega, ?_⟩
          exact hF _ _ _ (h2 (fun z => g59 ((pKz_e hqe.tk.2.2).2.2.1.mpr z))) (fun a j z => by rw [up_n (fun y => z (Or.inl (Or.inl (by omega)))), up_n (fun y => z (Or.inl (Or.inl (by omega))))]; exact hfe a j z) (fun f y0 y1 => by rw [up_n (by omega), up_n (by omega)]; exact hb5 f y0 y1) ⟨by rw [up_n (by omega), up_s], by rw [up_s, hqe.tk.2.1]⟩
    · simp only [sx_cc, Classical.not_not] at g
      conv => whnf
      refine ⟨fun q9 => by first | (simp at q9; done) | omega, ?_⟩
      obtain ⟨_, k, pl, hO, hl, hfx⟩ := hcz.resolve_right (fun z => by omega)
      exact hFx k pl _ hO hfx hl
end SXS3
