/-! A LAW IS TOLD: the whole of it, class side (by wip/whole) -/
section SXP9
variable {X : sx_X} {Q : sx_R} {σ σ0 σ' σ1 σ2 : sx_S} {tx : Int → Int} {n9 p i : Int} {F : Option (Int × Int)}
/-- a token of a law is taken -/
def zStep (p : Int) (tx : Int → Int) (n9 : Int) (s s' : sx_S) (j : Int) : Prop := ¬ kT tx n9 j = 36 ∧ ¬ (kT tx n9 j = 22 ∧ s 32 13 = 0 ∧ s 32 12 = 0) ∧ ∃ s1 : sx_S, ((¬ s 32 13 = 0 ∧ zOpd p s s1 (kT tx n9 j) (kV tx n9 j)) ∨ (s 32 13 = 0 ∧ zOpt p s s1 (kT tx n9 j))) ∧ fr FXa s1 s'
def zTr (p : Int) (tx : Int → Int) (n9 i : Int) (E : Nat → sx_S) (m : Nat) : Prop := ∀ c : Nat, c < m → zStep p tx n9 (E c) (E (c + 1)) (kI tx n9 c i)
theorem zTr_s {E : Nat → sx_S} {m : Nat} {s' : sx_S} (h : zTr p tx n9 i E m) (hs : zStep p tx n9 (E m) s' (kI tx n9 m i)) : ∃ E' : Nat → sx_S, E' 0 = E 0 ∧ zTr p tx n9 i E' (m + 1) ∧ E' (m + 1) = s' := by
  refine ⟨fun c => if c ≤ m then E c else s', if_pos (Nat.zero_le _), fun c hc => ?_, if_neg (by omega)⟩
  by_cases e : c = m
  · subst e
    show zStep p tx n9 (if c ≤ c then E c else s') (if c + 1 ≤ c then E (c + 1) else s') (kI tx n9 c i)
    rw [if_pos (Nat.le_refl _), if_neg (by omega)]
    exact hs
  · show zStep p tx n9 (if c ≤ m then E c else s') (if c + 1 ≤ m then E (c + 1) else s') (kI tx n9 c i)
    rw [if_pos (by omega), if_pos (by omega)]
    exact h c (by omega)
abbrev zE0 (s : sx_S) : sx_S := sx_up (sx_up (sx_up s 32 11 0) 32 12 0) 32 13 1
def zExF (p : Int) (tx : Int → Int) (n9 : Int) (s : sx_S) (i k pl : Int) : Prop := ∃ (E : Nat → sx_S) (m : Nat), E 0 = zE0 s ∧ zTr p tx n9 i E m ∧ pl = kS tx n9 (kI tx n9 m i) ∧ ((kT tx n9 (kI tx n9 m i) = 36 ∧ k = 1) ∨ (¬ kT tx n9 (kI tx n9 m i) = 36 ∧ ¬ (kT tx n9 (kI tx n9 m i) = 22 ∧ E m 32 13 = 0 ∧ E m 32 12 = 0) ∧ ((¬ E m 32 13 = 0 ∧ zOpdF p (E m) (kT tx n9 (kI tx n9 m i)) (kV tx n9 (kI tx n9 m i)) k) ∨ (E m 32 13 = 0 ∧ zOptF p (E m) (kT tx n9 (kI tx n9 m i)) k))))
def zExS (p : Int) (tx : Int → Int) (n9 : Int) (s : sx_S) (i : Int) (s' : sx_S) (j : Int) : Prop := ∃ (E : Nat → sx_S) (m : Nat), E 0 = zE0 s ∧ zTr p tx n9 i E m ∧ j = kI tx n9 m i ∧ kT tx n9 j = 22 ∧ E m 32 13 = 0 ∧ E m 32 12 = 0 ∧ ∃ q : Int, pRel p 1 (E m) s' q
abbrev FEv (p a j : Int) : Prop := (a = 32 ∧ (j = 0 ∨ j = 1 ∨ (11 ≤ j ∧ j ≤ 14))) ∨ a = 36 ∨ (a = p ∧ j = 14) ∨ a = p + 11 ∨ a = p + 12 ∨ (a = 33 ∧ 2 ≤ j ∧ j ≤ 6)
theorem zOpd_fr (hp : 2 ≤ p ∧ p ≤ 17) {t v : Int} (h : zOpd p σ σ' t v) : fr (FEv p) σ σ' := fun a j z9 => by
  unfold FEv at z9
  rcases h with ⟨h1, h2, h3, rfl⟩ | ⟨h1, h2, h3, rfl⟩ | ⟨h1, h3, rfl⟩ | ⟨h1, h2, h3, rfl⟩
  · rw [up_n (by omega), up_n (by omega), up_n (by omega), up_n (by omega), up_n (by omega)]
  · rw [up_n (by omega), up_n (by omega), up_n (by omega), up_n (by omega), up_n (by omega)]
  · rw [up_n (by omega), up_n (by omega), up_n (by omega)]
  · rw [up_n (by omega), up_n (by omega), up_n (by omega)]
theorem pRel_fr {k m : Int} (h : pRel p k σ σ' m) : fr (FEv p) σ σ' := fun a j z9 => h.2.1 a j (by unfold FEv at z9; unfold FRl; omega)
theorem zOpt_fr (hp : 2 ≤ p ∧ p ≤ 17) {t : Int} (h : zOpt p σ σ' t) : fr (FEv p) σ σ' := fun a j z9 => by
  unfold FEv at z9
  rcases h with ⟨h1, h2, s1, m, hr, hn, rfl⟩ | ⟨h1, h2, s1, m, hr, h3, h4, rfl⟩
  · rw [up_n (by omega), up_n (by omega)]; exact pRel_fr hr a j (by unfold FEv; omega)
  · rw [up_n (by omega), up_n (by omega), up_n (by omega), up_n (by omega)]; exact pRel_fr hr a j (by unfold FEv; omega)
theorem eInv_bd (h : eInv p σ) : (0 ≤ σ 32 11 ∧ σ 32 11 ≤ 72) ∧ (0 ≤ σ 32 14 ∧ σ 32 14 ≤ 64) := by
  obtain ⟨z0, z1, z2, z3, z4, z5, z6, z7⟩ := h
  have zo := fOpn_bd (row := σ 36) (σ 32 11).toNat
  omega
theorem kT_n9 : kT tx n9 n9 = 36 := by
  have h := kS_bd (tx := tx) (n9 := n9) (i := n9) (by omega)
  exact (tk_end rfl (by omega)).2
set_option maxRecDepth 20000 in
theorem c_Texpr (hw : sx_WT X) (hq : cQ p σ tx n9 i none) (hkn : σ 32 14 = σ p 14) (hk6 : 0 ≤ σ p 14 ∧ σ p 14 ≤ 64) (hF : ∀ (σ' : sx_S) (k pl j : Int), fr (FEv p) σ σ' → cQ p σ' tx n9 j (some (k, pl)) → zExF p tx n9 σ i k pl → Q none shM σ') (hE9 : ∀ (σ' : sx_S) (j : Int), fr (FEv p) σ σ' → cQ p σ' tx n9 j none → kT tx n9 j = 36 → zExF p tx n9 σ i 1 (kS tx n9 j) → Q none shM σ') (hS : ∀ (σ' : sx_S) (j : Int), fr (FEv p) σ σ' → cQ p σ' tx n9 j none → zExS p tx n9 σ i σ' j → Q none shM σ') : sx_Run X 113 [.inr (.inr 32)] shM σ Q := by
  have hp : 2 ≤ p ∧ p ≤ 17 := by rcases hq.ip with rfl | rfl <;> decide
  have t3 := pt_32_3 hq.pt
  have e3 := hq.tk.2.1
  refine sx_rule2 (own := 10) (cd := kX10_tellExpression) (nL := 2) (by decide +kernel) (by decide +kernel) kX10_tellExpression_ok (by decide +kernel) (Nat.le_of_ble_eq_true rfl) [17] 40 (fun n t L st _ σ' => (t = 17 ∧ ∃ c : Int, st = [] ∧ L = [some (.inr (.inr (32))), some (.inl (c))] ∧ (∃ (j : Int) (F : Option (Int × Int)), cQ p σ' tx n9 j F ∧ fr (FEv p) σ σ' ∧ (0 ≤ σ' 32 11 ∧ σ' 32 11 ≤ 72) ∧ (0 ≤ σ' 32 14 ∧ σ' 32 14 ≤ 64) ∧ (0 ≤ c ∧ c ≤ 700) ∧ ((F = none ∧ j = kI tx n9 c.toNat i ∧ i + c ≤ j ∧ eInv p σ' ∧ ∃ E : Nat → sx_S, E 0 = zE0 σ ∧ zTr p tx n9 i E c.toNat ∧ E c.toNat = σ') ∨ (∃ k pl : Int, F = some (k, pl) ∧ zExF p tx n9 σ i k pl))) ∧ n = (700 - c).toNat)) ?_ ?_
  · skip
    conv => whnf
    refine ⟨(by first | assumption | rfl), ?_⟩
    try simp (disch := omega) only [Int.cast_ofNat_Int, up_s, up_a, up_i, mp_a, mp_ge]
    try simp only [t3]
    try simp only [e3]
    conv => whnf
    refine ⟨(by first | assumption | rfl), ?_⟩
    try simp (disch := omega) only [Int.cast_ofNat_Int, up_s, up_a, up_i, mp_a, mp_ge]
    try simp only [t3]
    try simp only [e3]
    conv => whnf
    refine ⟨(by first | assumption | rfl), by omega, ?_⟩
    try simp (disch := omega) only [Int.cast_ofNat_Int, up_s, up_a, up_i, mp_a, mp_ge]
    try simp only [t3]
    try simp only [e3]
    conv => whnf
    refine ⟨_, ⟨rfl, _, rfl, rfl, ?_, rfl⟩⟩
    have hq9 : cQ p (zE0 σ) tx n9 i none := cQ_up (cQ_up (cQ_up hq (by unfold FPd; omega)) (by unfold FPd; omega)) (by unfold FPd; omega)
    refine ⟨i, none, hq9, fun a y z9 => by unfold FEv at z9; rw [up_n (by omega), up_n (by omega), up_n (by omega)], by rw [up_n (by omega), up_n (by omega), up_s]; decide, by rw [up_n (by omega), up_n (by omega), up_n (by omega)]; omega, by decide, Or.inl ⟨rfl, rfl, by omega, ?_, fun _ => zE0 σ, rfl, fun c hc => by omega, rfl⟩⟩
    unfold eInv
    rw [show (sx_up (sx_up (sx_up σ 32 11 0) 32 12 0) 32 13 1) 32 11 = 0 by rw [up_n (by omega), up_n (by omega), up_s], show (sx_up (sx_up (sx_up σ 32 11 0) 32 12 0) 32 13 1) 32 12 = 0 by rw [up_n (by omega), up_s], show (sx_up (sx_up (sx_up σ 32 11 0) 32 12 0) 32 13 1) 32 13 = 1 by rw [up_s], show (sx_up (sx_up (sx_up σ 32 11 0) 32 12 0) 32 13 1) 32 14 = σ 32 14 by rw [up_n (by omega), up_n (by omega), up_n (by omega)], show (sx_up (sx_up (sx_up σ 32 11 0) 32 12 0) 32 13 1) p 14 = σ p 14 by rw [up_n (by omega), up_n (by omega), up_n (by omega)]]
    exact ⟨by decide, by omega, hk6, by rw [hkn]; show σ p 14 + (0 - 0) = _; omega, rfl, by decide, fun j y0 y1 => by omega, Or.inr rfl⟩
  · intro n t L st σ' hk
    obtain ⟨rfl, c, rfl, rfl, hc, rfl⟩ := hk
    obtain ⟨j, F, hqi, hfi, hb11, hb14, hc7, hab⟩ := hc
    have t3 := pt_32_3 hqi.pt
    have e3 := hqi.tk.2.1
    have gz := hq.bi
    conv => whnf
    refine ⟨fun g => ?_, fun g => ?_⟩
    · simp only [sx_cc, Classical.not_not] at g
      conv => whnf
      refine ⟨Nat.le_of_ble_eq_true rfl, Nat.le_of_ble_eq_true rfl, (by first | assumption | rfl), ?_⟩
      refine c_Trel hqi (by decide) hb11 hb14 (fun σ4 m hr => ?_)
      conv => whnf
      refine ⟨rfl, ?_⟩
      have hfr := fun a y z9 => (pRel_fr hr a y z9).trans (hfi a y z9)
      rcases hab with ⟨eF, ej, hic, hI, E, hE0, hE, hEc⟩ | ⟨k9, pl9, e9, hz⟩
      · try subst eF
        have hq4 : cQ p σ4 tx n9 j none := cQ_of hqi (fun a y z9 => hr.2.1 a y (by unfold FPd at z9; unfold FRl; omega))
        by_cases e36 : kT tx n9 j = 36
        · exact hE9 _ _ hfr hq4 e36 ⟨E, c.toNat, hE0, hE, by rw [← ej], Or.inl ⟨by rw [← ej]; exact e36, rfl⟩⟩
        · first
          | exact absurd g36 e36
          | exact hS _ _ hfr hq4 ⟨E, c.toNat, hE0, hE, ej, g22, by rw [hEc]; exact g13, by rw [hEc]; exact g12, m, by rw [hEc]; exact hr⟩
          | (exfalso
             have hj : j = n9 := by have := hqi.bi; have := hqi.lx.2.2.1; omega
             rw [hj] at e36
             exact e36 kT_n9)
          | exact absurd (hqi.fl.1) gf
      · first
        | exact absurd e9 (by simp)
        | (subst e9
           exact hF _ _ _ _ hfr (cQ_of hqi (fun a y z9 => hr.2.1 a y (by unfold FPd at z9; unfold FRl; omega))) hz)
    · simp only [sx_cc, Classical.not_not] at g
      conv => whnf
      refine ⟨(by first | assumption | rfl), ?_⟩
      try simp (disch := omega) only [Int.cast_ofNat_Int, up_s, up_a, up_i, mp_a, mp_ge]
      try simp only [t3]
      try simp only [e3]
      conv => whnf
      refine ⟨fun g => ?_, fun g => ?_⟩
      · simp only [sx_cc, Classical.not_not] at g
        have gf := g
        conv => whnf
        refine ⟨Nat.le_of_ble_eq_true rfl, Nat.le_of_ble_eq_true rfl, (by first | assumption | rfl), ?_⟩
        refine c_Trel hqi (by decide) hb11 hb14 (fun σ4 m hr => ?_)
        conv => whnf
        refine ⟨rfl, ?_⟩
        have hfr := fun a y z9 => (pRel_fr hr a y z9).trans (hfi a y z9)
        rcases hab with ⟨eF, ej, hic, hI, E, hE0, hE, hEc⟩ | ⟨k9, pl9, e9, hz⟩
        · try subst eF
          have hq4 : cQ p σ4 tx n9 j none := cQ_of hqi (fun a y z9 => hr.2.1 a y (by unfold FPd at z9; unfold FRl; omega))
          by_cases e36 : kT tx n9 j = 36
          · exact hE9 _ _ hfr hq4 e36 ⟨E, c.toNat, hE0, hE, by rw [← ej], Or.inl ⟨by rw [← ej]; exact e36, rfl⟩⟩
          · first
            | exact absurd g36 e36
            | exact hS _ _ hfr hq4 ⟨E, c.toNat, hE0, hE, ej, g22, by rw [hEc]; exact g13, by rw [hEc]; exact g12, m, by rw [hEc]; exact hr⟩
            | (exfalso
               have hj : j = n9 := by have := hqi.bi; have := hqi.lx.2.2.1; omega
               rw [hj] at e36
               exact e36 kT_n9)
            | exact absurd (hqi.fl.1) gf
        · first
          | exact absurd e9 (by simp)
          | (subst e9
             exact hF _ _ _ _ hfr (cQ_of hqi (fun a y z9 => hr.2.1 a y (by unfold FPd at z9; unfold FRl; omega))) hz)
      · simp only [sx_cc, Classical.not_not] at g
        have eF := pFl_n hqi.fl g
        obtain ⟨_, ej, hic, hI, E, hE0, hE, hEc⟩ := hab.resolve_right (fun ⟨k9, pl9, e9, _⟩ => by rw [e9] at eF; exact absurd eF (by simp))
        subst eF
        have z13 := hI.2.2.2.2.2.2.2
        have e3 := hqi.tk.2.1
        conv => whnf
        refine ⟨(by first | assumption | rfl), ?_⟩
        try simp (disch := omega) only [Int.cast_ofNat_Int, up_s, up_a, up_i, mp_a, mp_ge]
        try simp only [t3]
        try simp only [e3]
        conv => whnf
        refine ⟨(by first | assumption | rfl), ?_⟩
        try simp (disch := omega) only [Int.cast_ofNat_Int, up_s, up_a, up_i, mp_a, mp_ge]
        try simp only [t3]
        try simp only [e3]
        conv => whnf
        refine ⟨fun g => ?_, fun g => ?_⟩
        · simp only [sx_cc, Classical.not_not] at g
          have g36 := g
          conv => whnf
          refine ⟨Nat.le_of_ble_eq_true rfl, Nat.le_of_ble_eq_true rfl, (by first | assumption | rfl), ?_⟩
          refine c_Trel hqi (by decide) hb11 hb14 (fun σ4 m hr => ?_)
          conv => whnf
          refine ⟨rfl, ?_⟩
          have hfr := fun a y z9 => (pRel_fr hr a y z9).trans (hfi a y z9)
          rcases hab with ⟨eF, ej, hic, hI, E, hE0, hE, hEc⟩ | ⟨k9, pl9, e9, hz⟩
          · try subst eF
            have hq4 : cQ p σ4 tx n9 j none := cQ_of hqi (fun a y z9 => hr.2.1 a y (by unfold FPd at z9; unfold FRl; omega))
            by_cases e36 : kT tx n9 j = 36
            · exact hE9 _ _ hfr hq4 e36 ⟨E, c.toNat, hE0, hE, by rw [← ej], Or.inl ⟨by rw [← ej]; exact e36, rfl⟩⟩
            · first
              | exact absurd g36 e36
              | exact hS _ _ hfr hq4 ⟨E, c.toNat, hE0, hE, ej, g22, by rw [hEc]; exact g13, by rw [hEc]; exact g12, m, by rw [hEc]; exact hr⟩
              | (exfalso
                 have hj : j = n9 := by have := hqi.bi; have := hqi.lx.2.2.1; omega
                 rw [hj] at e36
                 exact e36 kT_n9)
              | exact absurd (hqi.fl.1) gf
          · first
            | exact absurd e9 (by simp)
            | (subst e9
               exact hF _ _ _ _ hfr (cQ_of hqi (fun a y z9 => hr.2.1 a y (by unfold FPd at z9; unfold FRl; omega))) hz)
        · simp only [sx_cc, Classical.not_not] at g
          have hz0 := g
          conv => whnf
          refine ⟨(by first | assumption | rfl), ?_⟩
          try simp (disch := omega) only [Int.cast_ofNat_Int, up_s, up_a, up_i, mp_a, mp_ge]
          try simp only [t3]
          try simp only [e3]
          conv => whnf
          refine ⟨(by first | assumption | rfl), ?_⟩
          try simp (disch := omega) only [Int.cast_ofNat_Int, up_s, up_a, up_i, mp_a, mp_ge]
          try simp only [t3]
          try simp only [e3]
          conv => whnf
          refine ⟨fun g => ?_, fun g => ?_⟩
          · simp only [sx_cc, Classical.not_not] at g
            have hz1 : ¬ (kT tx n9 j = 22 ∧ σ' 32 13 = 0 ∧ σ' 32 12 = 0) := fun z => g z.1
            conv => whnf
            refine ⟨(by first | assumption | rfl), ?_⟩
            try simp (disch := omega) only [Int.cast_ofNat_Int, up_s, up_a, up_i, mp_a, mp_ge]
            try simp only [t3]
            try simp only [e3]
            conv => whnf
            refine ⟨fun g => ?_, fun g => ?_⟩
            · simp only [sx_cc, Classical.not_not] at g
              have g13 := g
              conv => whnf
              refine ⟨Nat.le_of_ble_eq_true rfl, Nat.le_of_ble_eq_true rfl, (by first | assumption | rfl), ?_⟩
              refine c_Topt hqi hI (fun σ4 k hf4 hq4 hb1 hb2 hzf => ?_) (fun σ4 hz9 hq4 => ?_)
              · have t3 := pt_32_3 hq4.pt
                conv => whnf
                refine ⟨(by first | assumption | rfl), ?_⟩
                try simp (disch := omega) only [Int.cast_ofNat_Int, up_s, up_a, up_i, mp_a, mp_ge]
                try simp only [t3]
                try simp only [e3]
                conv => whnf
                refine ⟨Nat.le_of_ble_eq_true rfl, Nat.le_of_ble_eq_true rfl, (by first | assumption | rfl), ?_⟩
                refine c_Tadv hw hq4 (fun σ5 hf5 hq5 => ?_)
                conv => whnf
                refine ⟨⟨by omega, by omega⟩, ?_⟩
                conv => whnf
                refine ⟨_, ?_, ⟨rfl, _, rfl, rfl, ?_, rfl⟩⟩
                first
                | (· omega
                   · have hl : zStep p tx n9 (E c.toNat) σ5 (kI tx n9 c.toNat i) := ⟨by rw [← ej]; exact hz0, by rw [hEc, ← ej]; exact hz1, _, by rw [hEc, ← ej]; exact Or.inl ⟨g13, hz9⟩, hf5⟩
                     obtain ⟨E', hE1, hE2, hE3⟩ := zTr_s hE hl
                     have hJ := eInv_opd hp hI hz9
                     have hbd := eInv_bd (eInv_fr hJ hf5 hp)
                     refine ⟨_, _, hq5, ?_, hbd.1, hbd.2, by omega, Or.inl ⟨rfl, ?_, ?_, eInv_fr hJ hf5 hp, E', hE1.trans hE0, ?_, ?_⟩⟩
                     · exact fun a y z9 => (hf5 a y (by unfold FEv at z9; unfold FXa; omega)).trans ((zOpd_fr hp hz9 a y z9).trans (hfi a y z9))
                     · rw [kI_s (by omega), ← ej]
                     · have := (kE_bd (tx := tx) hqi.bi.2).2.2.1 hz0; omega
                     · rw [show (c + 1).toNat = c.toNat + 1 by omega]; exact hE2
                     · rw [show (c + 1).toNat = c.toNat + 1 by omega]; exact hE3)
                | (· omega
                   · have hl : zStep p tx n9 (E c.toNat) σ5 (kI tx n9 c.toNat i) := ⟨by rw [← ej]; exact hz0, by rw [hEc, ← ej]; exact hz1, _, by rw [hEc, ← ej]; exact Or.inr ⟨g13, hz9⟩, hf5⟩
                     obtain ⟨E', hE1, hE2, hE3⟩ := zTr_s hE hl
                     have hJ := eInv_opt hp hI hz9
                     have hbd := eInv_bd (eInv_fr hJ hf5 hp)
                     refine ⟨_, _, hq5, ?_, hbd.1, hbd.2, by omega, Or.inl ⟨rfl, ?_, ?_, eInv_fr hJ hf5 hp, E', hE1.trans hE0, ?_, ?_⟩⟩
                     · exact fun a y z9 => (hf5 a y (by unfold FEv at z9; unfold FXa; omega)).trans ((zOpt_fr hp hz9 a y z9).trans (hfi a y z9))
                     · rw [kI_s (by omega), ← ej]
                     · have := (kE_bd (tx := tx) hqi.bi.2).2.2.1 hz0; omega
                     · rw [show (c + 1).toNat = c.toNat + 1 by omega]; exact hE2
                     · rw [show (c + 1).toNat = c.toNat + 1 by omega]; exact hE3)
                | (· omega
                   · refine ⟨_, _, hq5, ?_, by rw [hf5 _ _ (by decide)]; exact hb1, by rw [hf5 _ _ (by decide)]; exact hb2, by omega, Or.inr ⟨_, _, rfl, E, c.toNat, hE0, hE, by rw [← ej], Or.inr ⟨by rw [← ej]; exact hz0, by rw [hEc, ← ej]; exact hz1, by rw [hEc, ← ej]; exact Or.inl ⟨g13, hzf⟩⟩⟩⟩
                     exact fun a y z9 => (hf5 a y (by unfold FEv at z9; unfold FXa; omega)).trans ((hf4 a y (by unfold FEv at z9; unfold FEx; omega)).trans (hfi a y z9)))
                | (· omega
                   · refine ⟨_, _, hq5, ?_, by rw [hf5 _ _ (by decide)]; exact hb1, by rw [hf5 _ _ (by decide)]; exact hb2, by omega, Or.inr ⟨_, _, rfl, E, c.toNat, hE0, hE, by rw [← ej], Or.inr ⟨by rw [← ej]; exact hz0, by rw [hEc, ← ej]; exact hz1, by rw [hEc, ← ej]; exact Or.inr ⟨g13, hzf⟩⟩⟩⟩
                     exact fun a y z9 => (hf5 a y (by unfold FEv at z9; unfold FXa; omega)).trans ((hf4 a y (by unfold FEv at z9; unfold FEx; omega)).trans (hfi a y z9)))
              · have t3 := pt_32_3 hq4.pt
                conv => whnf
                refine ⟨(by first | assumption | rfl), ?_⟩
                try simp (disch := omega) only [Int.cast_ofNat_Int, up_s, up_a, up_i, mp_a, mp_ge]
                try simp only [t3]
                try simp only [e3]
                conv => whnf
                refine ⟨Nat.le_of_ble_eq_true rfl, Nat.le_of_ble_eq_true rfl, (by first | assumption | rfl), ?_⟩
                refine c_Tadv hw hq4 (fun σ5 hf5 hq5 => ?_)
                conv => whnf
                refine ⟨⟨by omega, by omega⟩, ?_⟩
                conv => whnf
                refine ⟨_, ?_, ⟨rfl, _, rfl, rfl, ?_, rfl⟩⟩
                first
                | (· omega
                   · have hl : zStep p tx n9 (E c.toNat) σ5 (kI tx n9 c.toNat i) := ⟨by rw [← ej]; exact hz0, by rw [hEc, ← ej]; exact hz1, _, by rw [hEc, ← ej]; exact Or.inl ⟨g13, hz9⟩, hf5⟩
                     obtain ⟨E', hE1, hE2, hE3⟩ := zTr_s hE hl
                     have hJ := eInv_opd hp hI hz9
                     have hbd := eInv_bd (eInv_fr hJ hf5 hp)
                     refine ⟨_, _, hq5, ?_, hbd.1, hbd.2, by omega, Or.inl ⟨rfl, ?_, ?_, eInv_fr hJ hf5 hp, E', hE1.trans hE0, ?_, ?_⟩⟩
                     · exact fun a y z9 => (hf5 a y (by unfold FEv at z9; unfold FXa; omega)).trans ((zOpd_fr hp hz9 a y z9).trans (hfi a y z9))
                     · rw [kI_s (by omega), ← ej]
                     · have := (kE_bd (tx := tx) hqi.bi.2).2.2.1 hz0; omega
                     · rw [show (c + 1).toNat = c.toNat + 1 by omega]; exact hE2
                     · rw [show (c + 1).toNat = c.toNat + 1 by omega]; exact hE3)
                | (· omega
                   · have hl : zStep p tx n9 (E c.toNat) σ5 (kI tx n9 c.toNat i) := ⟨by rw [← ej]; exact hz0, by rw [hEc, ← ej]; exact hz1, _, by rw [hEc, ← ej]; exact Or.inr ⟨g13, hz9⟩, hf5⟩
                     obtain ⟨E', hE1, hE2, hE3⟩ := zTr_s hE hl
                     have hJ := eInv_opt hp hI hz9
                     have hbd := eInv_bd (eInv_fr hJ hf5 hp)
                     refine ⟨_, _, hq5, ?_, hbd.1, hbd.2, by omega, Or.inl ⟨rfl, ?_, ?_, eInv_fr hJ hf5 hp, E', hE1.trans hE0, ?_, ?_⟩⟩
                     · exact fun a y z9 => (hf5 a y (by unfold FEv at z9; unfold FXa; omega)).trans ((zOpt_fr hp hz9 a y z9).trans (hfi a y z9))
                     · rw [kI_s (by omega), ← ej]
                     · have := (kE_bd (tx := tx) hqi.bi.2).2.2.1 hz0; omega
                     · rw [show (c + 1).toNat = c.toNat + 1 by omega]; exact hE2
                     · rw [show (c + 1).toNat = c.toNat + 1 by omega]; exact hE3)
                | (· omega
                   · refine ⟨_, _, hq5, ?_, by rw [hf5 _ _ (by decide)]; exact hb1, by rw [hf5 _ _ (by decide)]; exact hb2, by omega, Or.inr ⟨_, _, rfl, E, c.toNat, hE0, hE, by rw [← ej], Or.inr ⟨by rw [← ej]; exact hz0, by rw [hEc, ← ej]; exact hz1, by rw [hEc, ← ej]; exact Or.inl ⟨g13, hzf⟩⟩⟩⟩
                     exact fun a y z9 => (hf5 a y (by unfold FEv at z9; unfold FXa; omega)).trans ((hf4 a y (by unfold FEv at z9; unfold FEx; omega)).trans (hfi a y z9)))
                | (· omega
                   · refine ⟨_, _, hq5, ?_, by rw [hf5 _ _ (by decide)]; exact hb1, by rw [hf5 _ _ (by decide)]; exact hb2, by omega, Or.inr ⟨_, _, rfl, E, c.toNat, hE0, hE, by rw [← ej], Or.inr ⟨by rw [← ej]; exact hz0, by rw [hEc, ← ej]; exact hz1, by rw [hEc, ← ej]; exact Or.inr ⟨g13, hzf⟩⟩⟩⟩
                     exact fun a y z9 => (hf5 a y (by unfold FEv at z9; unfold FXa; omega)).trans ((hf4 a y (by unfold FEv at z9; unfold FEx; omega)).trans (hfi a y z9)))
            · simp only [sx_cc, Classical.not_not] at g
              have g13 := g
              conv => whnf
              refine ⟨Nat.le_of_ble_eq_true rfl, Nat.le_of_ble_eq_true rfl, (by first | assumption | rfl), ?_⟩
              refine c_Topd hqi hI (fun σ4 k hf4 hq4 hb1 hb2 hzf => ?_) (fun σ4 hz9 hq4 => ?_)
              · have t3 := pt_32_3 hq4.pt
                conv => whnf
                refine ⟨(by first | assumption | rfl), ?_⟩
                try simp (disch := omega) only [Int.cast_ofNat_Int, up_s, up_a, up_i, mp_a, mp_ge]
                try simp only [t3]
                try simp only [e3]
                conv => whnf
                refine ⟨Nat.le_of_ble_eq_true rfl, Nat.le_of_ble_eq_true rfl, (by first | assumption | rfl), ?_⟩
                refine c_Tadv hw hq4 (fun σ5 hf5 hq5 => ?_)
                conv => whnf
                refine ⟨⟨by omega, by omega⟩, ?_⟩
                conv => whnf
                refine ⟨_, ?_, ⟨rfl, _, rfl, rfl, ?_, rfl⟩⟩
                first
                | (· omega
                   · have hl : zStep p tx n9 (E c.toNat) σ5 (kI tx n9 c.toNat i) := ⟨by rw [← ej]; exact hz0, by rw [hEc, ← ej]; exact hz1, _, by rw [hEc, ← ej]; exact Or.inl ⟨g13, hz9⟩, hf5⟩
                     obtain ⟨E', hE1, hE2, hE3⟩ := zTr_s hE hl
                     have hJ := eInv_opd hp hI hz9
                     have hbd := eInv_bd (eInv_fr hJ hf5 hp)
                     refine ⟨_, _, hq5, ?_, hbd.1, hbd.2, by omega, Or.inl ⟨rfl, ?_, ?_, eInv_fr hJ hf5 hp, E', hE1.trans hE0, ?_, ?_⟩⟩
                     · exact fun a y z9 => (hf5 a y (by unfold FEv at z9; unfold FXa; omega)).trans ((zOpd_fr hp hz9 a y z9).trans (hfi a y z9))
                     · rw [kI_s (by omega), ← ej]
                     · have := (kE_bd (tx := tx) hqi.bi.2).2.2.1 hz0; omega
                     · rw [show (c + 1).toNat = c.toNat + 1 by omega]; exact hE2
                     · rw [show (c + 1).toNat = c.toNat + 1 by omega]; exact hE3)
                | (· omega
                   · have hl : zStep p tx n9 (E c.toNat) σ5 (kI tx n9 c.toNat i) := ⟨by rw [← ej]; exact hz0, by rw [hEc, ← ej]; exact hz1, _, by rw [hEc, ← ej]; exact Or.inr ⟨g13, hz9⟩, hf5⟩
                     obtain ⟨E', hE1, hE2, hE3⟩ := zTr_s hE hl
                     have hJ := eInv_opt hp hI hz9
                     have hbd := eInv_bd (eInv_fr hJ hf5 hp)
                     refine ⟨_, _, hq5, ?_, hbd.1, hbd.2, by omega, Or.inl ⟨rfl, ?_, ?_, eInv_fr hJ hf5 hp, E', hE1.trans hE0, ?_, ?_⟩⟩
                     · exact fun a y z9 => (hf5 a y (by unfold FEv at z9; unfold FXa; omega)).trans ((zOpt_fr hp hz9 a y z9).trans (hfi a y z9))
                     · rw [kI_s (by omega), ← ej]
                     · have := (kE_bd (tx := tx) hqi.bi.2).2.2.1 hz0; omega
                     · rw [show (c + 1).toNat = c.toNat + 1 by omega]; exact hE2
                     · rw [show (c + 1).toNat = c.toNat + 1 by omega]; exact hE3)
                | (· omega
                   · refine ⟨_, _, hq5, ?_, by rw [hf5 _ _ (by decide)]; exact hb1, by rw [hf5 _ _ (by decide)]; exact hb2, by omega, Or.inr ⟨_, _, rfl, E, c.toNat, hE0, hE, by rw [← ej], Or.inr ⟨by rw [← ej]; exact hz0, by rw [hEc, ← ej]; exact hz1, by rw [hEc, ← ej]; exact Or.inl ⟨g13, hzf⟩⟩⟩⟩
                     exact fun a y z9 => (hf5 a y (by unfold FEv at z9; unfold FXa; omega)).trans ((hf4 a y (by unfold FEv at z9; unfold FEx; omega)).trans (hfi a y z9)))
                | (· omega
                   · refine ⟨_, _, hq5, ?_, by rw [hf5 _ _ (by decide)]; exact hb1, by rw [hf5 _ _ (by decide)]; exact hb2, by omega, Or.inr ⟨_, _, rfl, E, c.toNat, hE0, hE, by rw [← ej], Or.inr ⟨by rw [← ej]; exact hz0, by rw [hEc, ← ej]; exact hz1, by rw [hEc, ← ej]; exact Or.inr ⟨g13, hzf⟩⟩⟩⟩
                     exact fun a y z9 => (hf5 a y (by unfold FEv at z9; unfold FXa; omega)).trans ((hf4 a y (by unfold FEv at z9; unfold FEx; omega)).trans (hfi a y z9)))
              · have t3 := pt_32_3 hq4.pt
                conv => whnf
                refine ⟨(by first | assumption | rfl), ?_⟩
                try simp (disch := omega) only [Int.cast_ofNat_Int, up_s, up_a, up_i, mp_a, mp_ge]
                try simp only [t3]
                try simp only [e3]
                conv => whnf
                refine ⟨Nat.le_of_ble_eq_true rfl, Nat.le_of_ble_eq_true rfl, (by first | assumption | rfl), ?_⟩
                refine c_Tadv hw hq4 (fun σ5 hf5 hq5 => ?_)
                conv => whnf
                refine ⟨⟨by omega, by omega⟩, ?_⟩
                conv => whnf
                refine ⟨_, ?_, ⟨rfl, _, rfl, rfl, ?_, rfl⟩⟩
                first
                | (· omega
                   · have hl : zStep p tx n9 (E c.toNat) σ5 (kI tx n9 c.toNat i) := ⟨by rw [← ej]; exact hz0, by rw [hEc, ← ej]; exact hz1, _, by rw [hEc, ← ej]; exact Or.inl ⟨g13, hz9⟩, hf5⟩
                     obtain ⟨E', hE1, hE2, hE3⟩ := zTr_s hE hl
                     have hJ := eInv_opd hp hI hz9
                     have hbd := eInv_bd (eInv_fr hJ hf5 hp)
                     refine ⟨_, _, hq5, ?_, hbd.1, hbd.2, by omega, Or.inl ⟨rfl, ?_, ?_, eInv_fr hJ hf5 hp, E', hE1.trans hE0, ?_, ?_⟩⟩
                     · exact fun a y z9 => (hf5 a y (by unfold FEv at z9; unfold FXa; omega)).trans ((zOpd_fr hp hz9 a y z9).trans (hfi a y z9))
                     · rw [kI_s (by omega), ← ej]
                     · have := (kE_bd (tx := tx) hqi.bi.2).2.2.1 hz0; omega
                     · rw [show (c + 1).toNat = c.toNat + 1 by omega]; exact hE2
                     · rw [show (c + 1).toNat = c.toNat + 1 by omega]; exact hE3)
                | (· omega
                   · have hl : zStep p tx n9 (E c.toNat) σ5 (kI tx n9 c.toNat i) := ⟨by rw [← ej]; exact hz0, by rw [hEc, ← ej]; exact hz1, _, by rw [hEc, ← ej]; exact Or.inr ⟨g13, hz9⟩, hf5⟩
                     obtain ⟨E', hE1, hE2, hE3⟩ := zTr_s hE hl
                     have hJ := eInv_opt hp hI hz9
                     have hbd := eInv_bd (eInv_fr hJ hf5 hp)
                     refine ⟨_, _, hq5, ?_, hbd.1, hbd.2, by omega, Or.inl ⟨rfl, ?_, ?_, eInv_fr hJ hf5 hp, E', hE1.trans hE0, ?_, ?_⟩⟩
                     · exact fun a y z9 => (hf5 a y (by unfold FEv at z9; unfold FXa; omega)).trans ((zOpt_fr hp hz9 a y z9).trans (hfi a y z9))
                     · rw [kI_s (by omega), ← ej]
                     · have := (kE_bd (tx := tx) hqi.bi.2).2.2.1 hz0; omega
                     · rw [show (c + 1).toNat = c.toNat + 1 by omega]; exact hE2
                     · rw [show (c + 1).toNat = c.toNat + 1 by omega]; exact hE3)
                | (· omega
                   · refine ⟨_, _, hq5, ?_, by rw [hf5 _ _ (by decide)]; exact hb1, by rw [hf5 _ _ (by decide)]; exact hb2, by omega, Or.inr ⟨_, _, rfl, E, c.toNat, hE0, hE, by rw [← ej], Or.inr ⟨by rw [← ej]; exact hz0, by rw [hEc, ← ej]; exact hz1, by rw [hEc, ← ej]; exact Or.inl ⟨g13, hzf⟩⟩⟩⟩
                     exact fun a y z9 => (hf5 a y (by unfold FEv at z9; unfold FXa; omega)).trans ((hf4 a y (by unfold FEv at z9; unfold FEx; omega)).trans (hfi a y z9)))
                | (· omega
                   · refine ⟨_, _, hq5, ?_, by rw [hf5 _ _ (by decide)]; exact hb1, by rw [hf5 _ _ (by decide)]; exact hb2, by omega, Or.inr ⟨_, _, rfl, E, c.toNat, hE0, hE, by rw [← ej], Or.inr ⟨by rw [← ej]; exact hz0, by rw [hEc, ← ej]; exact hz1, by rw [hEc, ← ej]; exact Or.inr ⟨g13, hzf⟩⟩⟩⟩
                     exact fun a y z9 => (hf5 a y (by unfold FEv at z9; unfold FXa; omega)).trans ((hf4 a y (by unfold FEv at z9; unfold FEx; omega)).trans (hfi a y z9)))
          · simp only [sx_cc, Classical.not_not] at g
            have g22 := g
            conv => whnf
            refine ⟨(by first | assumption | rfl), ?_⟩
            try simp (disch := omega) only [Int.cast_ofNat_Int, up_s, up_a, up_i, mp_a, mp_ge]
            try simp only [t3]
            try simp only [e3]
            conv => whnf
            refine ⟨fun g => ?_, fun g => ?_⟩
            · simp only [sx_cc, Classical.not_not] at g
              have hz1 : ¬ (kT tx n9 j = 22 ∧ σ' 32 13 = 0 ∧ σ' 32 12 = 0) := fun z => g z.2.1
              conv => whnf
              refine ⟨(by first | assumption | rfl), ?_⟩
              try simp (disch := omega) only [Int.cast_ofNat_Int, up_s, up_a, up_i, mp_a, mp_ge]
              try simp only [t3]
              try simp only [e3]
              conv => whnf
              refine ⟨fun g => ?_, fun g => ?_⟩
              · simp only [sx_cc, Classical.not_not] at g
                have g13 := g
                conv => whnf
                refine ⟨Nat.le_of_ble_eq_true rfl, Nat.le_of_ble_eq_true rfl, (by first | assumption | rfl), ?_⟩
                refine c_Topt hqi hI (fun σ4 k hf4 hq4 hb1 hb2 hzf => ?_) (fun σ4 hz9 hq4 => ?_)
                · have t3 := pt_32_3 hq4.pt
                  conv => whnf
                  refine ⟨(by first | assumption | rfl), ?_⟩
                  try simp (disch := omega) only [Int.cast_ofNat_Int, up_s, up_a, up_i, mp_a, mp_ge]
                  try simp only [t3]
                  try simp only [e3]
                  conv => whnf
                  refine ⟨Nat.le_of_ble_eq_true rfl, Nat.le_of_ble_eq_true rfl, (by first | assumption | rfl), ?_⟩
                  refine c_Tadv hw hq4 (fun σ5 hf5 hq5 => ?_)
                  conv => whnf
                  refine ⟨⟨by omega, by omega⟩, ?_⟩
                  conv => whnf
                  refine ⟨_, ?_, ⟨rfl, _, rfl, rfl, ?_, rfl⟩⟩
                  first
                  | (· omega
                     · have hl : zStep p tx n9 (E c.toNat) σ5 (kI tx n9 c.toNat i) := ⟨by rw [← ej]; exact hz0, by rw [hEc, ← ej]; exact hz1, _, by rw [hEc, ← ej]; exact Or.inl ⟨g13, hz9⟩, hf5⟩
                       obtain ⟨E', hE1, hE2, hE3⟩ := zTr_s hE hl
                       have hJ := eInv_opd hp hI hz9
                       have hbd := eInv_bd (eInv_fr hJ hf5 hp)
                       refine ⟨_, _, hq5, ?_, hbd.1, hbd.2, by omega, Or.inl ⟨rfl, ?_, ?_, eInv_fr hJ hf5 hp, E', hE1.trans hE0, ?_, ?_⟩⟩
                       · exact fun a y z9 => (hf5 a y (by unfold FEv at z9; unfold FXa; omega)).trans ((zOpd_fr hp hz9 a y z9).trans (hfi a y z9))
                       · rw [kI_s (by omega), ← ej]
                       · have := (kE_bd (tx := tx) hqi.bi.2).2.2.1 hz0; omega
                       · rw [show (c + 1).toNat = c.toNat + 1 by omega]; exact hE2
                       · rw [show (c + 1).toNat = c.toNat + 1 by omega]; exact hE3)
                  | (· omega
                     · have hl : zStep p tx n9 (E c.toNat) σ5 (kI tx n9 c.toNat i) := ⟨by rw [← ej]; exact hz0, by rw [hEc, ← ej]; exact hz1, _, by rw [hEc, ← ej]; exact Or.inr ⟨g13, hz9⟩, hf5⟩
                       obtain ⟨E', hE1, hE2, hE3⟩ := zTr_s hE hl
                       have hJ := eInv_opt hp hI hz9
                       have hbd := eInv_bd (eInv_fr hJ hf5 hp)
                       refine ⟨_, _, hq5, ?_, hbd.1, hbd.2, by omega, Or.inl ⟨rfl, ?_, ?_, eInv_fr hJ hf5 hp, E', hE1.trans hE0, ?_, ?_⟩⟩
                       · exact fun a y z9 => (hf5 a y (by unfold FEv at z9; unfold FXa; omega)).trans ((zOpt_fr hp hz9 a y z9).trans (hfi a y z9))
                       · rw [kI_s (by omega), ← ej]
                       · have := (kE_bd (tx := tx) hqi.bi.2).2.2.1 hz0; omega
                       · rw [show (c + 1).toNat = c.toNat + 1 by omega]; exact hE2
                       · rw [show (c + 1).toNat = c.toNat + 1 by omega]; exact hE3)
                  | (· omega
                     · refine ⟨_, _, hq5, ?_, by rw [hf5 _ _ (by decide)]; exact hb1, by rw [hf5 _ _ (by decide)]; exact hb2, by omega, Or.inr ⟨_, _, rfl, E, c.toNat, hE0, hE, by rw [← ej], Or.inr ⟨by rw [← ej]; exact hz0, by rw [hEc, ← ej]; exact hz1, by rw [hEc, ← ej]; exact Or.inl ⟨g13, hzf⟩⟩⟩⟩
                       exact fun a y z9 => (hf5 a y (by unfold FEv at z9; unfold FXa; omega)).trans ((hf4 a y (by unfold FEv at z9; unfold FEx; omega)).trans (hfi a y z9)))
                  | (· omega
                     · refine ⟨_, _, hq5, ?_, by rw [hf5 _ _ (by decide)]; exact hb1, by rw [hf5 _ _ (by decide)]; exact hb2, by omega, Or.inr ⟨_, _, rfl, E, c.toNat, hE0, hE, by rw [← ej], Or.inr ⟨by rw [← ej]; exact hz0, by rw [hEc, ← ej]; exact hz1, by rw [hEc, ← ej]; exact Or.inr ⟨g13, hzf⟩⟩⟩⟩
                       exact fun a y z9 => (hf5 a y (by unfold FEv at z9; unfold FXa; omega)).trans ((hf4 a y (by unfold FEv at z9; unfold FEx; omega)).trans (hfi a y z9)))
                · have t3 := pt_32_3 hq4.pt
                  conv => whnf
                  refine ⟨(by first | assumption | rfl), ?_⟩
                  try simp (disch := omega) only [Int.cast_ofNat_Int, up_s, up_a, up_i, mp_a, mp_ge]
                  try simp only [t3]
                  try simp only [e3]
                  conv => whnf
                  refine ⟨Nat.le_of_ble_eq_true rfl, Nat.le_of_ble_eq_true rfl, (by first | assumption | rfl), ?_⟩
                  refine c_Tadv hw hq4 (fun σ5 hf5 hq5 => ?_)
                  conv => whnf
                  refine ⟨⟨by omega, by omega⟩, ?_⟩
                  conv => whnf
                  refine ⟨_, ?_, ⟨rfl, _, rfl, rfl, ?_, rfl⟩⟩
                  first
                  | (· omega
                     · have hl : zStep p tx n9 (E c.toNat) σ5 (kI tx n9 c.toNat i) := ⟨by rw [← ej]; exact hz0, by rw [hEc, ← ej]; exact hz1, _, by rw [hEc, ← ej]; exact Or.inl ⟨g13, hz9⟩, hf5⟩
                       obtain ⟨E', hE1, hE2, hE3⟩ := zTr_s hE hl
                       have hJ := eInv_opd hp hI hz9
                       have hbd := eInv_bd (eInv_fr hJ hf5 hp)
                       refine ⟨_, _, hq5, ?_, hbd.1, hbd.2, by omega, Or.inl ⟨rfl, ?_, ?_, eInv_fr hJ hf5 hp, E', hE1.trans hE0, ?_, ?_⟩⟩
                       · exact fun a y z9 => (hf5 a y (by unfold FEv at z9; unfold FXa; omega)).trans ((zOpd_fr hp hz9 a y z9).trans (hfi a y z9))
                       · rw [kI_s (by omega), ← ej]
                       · have := (kE_bd (tx := tx) hqi.bi.2).2.2.1 hz0; omega
                       · rw [show (c + 1).toNat = c.toNat + 1 by omega]; exact hE2
                       · rw [show (c + 1).toNat = c.toNat + 1 by omega]; exact hE3)
                  | (· omega
                     · have hl : zStep p tx n9 (E c.toNat) σ5 (kI tx n9 c.toNat i) := ⟨by rw [← ej]; exact hz0, by rw [hEc, ← ej]; exact hz1, _, by rw [hEc, ← ej]; exact Or.inr ⟨g13, hz9⟩, hf5⟩
                       obtain ⟨E', hE1, hE2, hE3⟩ := zTr_s hE hl
                       have hJ := eInv_opt hp hI hz9
                       have hbd := eInv_bd (eInv_fr hJ hf5 hp)
                       refine ⟨_, _, hq5, ?_, hbd.1, hbd.2, by omega, Or.inl ⟨rfl, ?_, ?_, eInv_fr hJ hf5 hp, E', hE1.trans hE0, ?_, ?_⟩⟩
                       · exact fun a y z9 => (hf5 a y (by unfold FEv at z9; unfold FXa; omega)).trans ((zOpt_fr hp hz9 a y z9).trans (hfi a y z9))
                       · rw [kI_s (by omega), ← ej]
                       · have := (kE_bd (tx := tx) hqi.bi.2).2.2.1 hz0; omega
                       · rw [show (c + 1).toNat = c.toNat + 1 by omega]; exact hE2
                       · rw [show (c + 1).toNat = c.toNat + 1 by omega]; exact hE3)
                  | (· omega
                     · refine ⟨_, _, hq5, ?_, by rw [hf5 _ _ (by decide)]; exact hb1, by rw [hf5 _ _ (by decide)]; exact hb2, by omega, Or.inr ⟨_, _, rfl, E, c.toNat, hE0, hE, by rw [← ej], Or.inr ⟨by rw [← ej]; exact hz0, by rw [hEc, ← ej]; exact hz1, by rw [hEc, ← ej]; exact Or.inl ⟨g13, hzf⟩⟩⟩⟩
                       exact fun a y z9 => (hf5 a y (by unfold FEv at z9; unfold FXa; omega)).trans ((hf4 a y (by unfold FEv at z9; unfold FEx; omega)).trans (hfi a y z9)))
                  | (· omega
                     · refine ⟨_, _, hq5, ?_, by rw [hf5 _ _ (by decide)]; exact hb1, by rw [hf5 _ _ (by decide)]; exact hb2, by omega, Or.inr ⟨_, _, rfl, E, c.toNat, hE0, hE, by rw [← ej], Or.inr ⟨by rw [← ej]; exact hz0, by rw [hEc, ← ej]; exact hz1, by rw [hEc, ← ej]; exact Or.inr ⟨g13, hzf⟩⟩⟩⟩
                       exact fun a y z9 => (hf5 a y (by unfold FEv at z9; unfold FXa; omega)).trans ((hf4 a y (by unfold FEv at z9; unfold FEx; omega)).trans (hfi a y z9)))
              · simp only [sx_cc, Classical.not_not] at g
                have g13 := g
                conv => whnf
                refine ⟨Nat.le_of_ble_eq_true rfl, Nat.le_of_ble_eq_true rfl, (by first | assumption | rfl), ?_⟩
                refine c_Topd hqi hI (fun σ4 k hf4 hq4 hb1 hb2 hzf => ?_) (fun σ4 hz9 hq4 => ?_)
                · have t3 := pt_32_3 hq4.pt
                  conv => whnf
                  refine ⟨(by first | assumption | rfl), ?_⟩
                  try simp (disch := omega) only [Int.cast_ofNat_Int, up_s, up_a, up_i, mp_a, mp_ge]
                  try simp only [t3]
                  try simp only [e3]
                  conv => whnf
                  refine ⟨Nat.le_of_ble_eq_true rfl, Nat.le_of_ble_eq_true rfl, (by first | assumption | rfl), ?_⟩
                  refine c_Tadv hw hq4 (fun σ5 hf5 hq5 => ?_)
                  conv => whnf
                  refine ⟨⟨by omega, by omega⟩, ?_⟩
                  conv => whnf
                  refine ⟨_, ?_, ⟨rfl, _, rfl, rfl, ?_, rfl⟩⟩
                  first
                  | (· omega
                     · have hl : zStep p tx n9 (E c.toNat) σ5 (kI tx n9 c.toNat i) := ⟨by rw [← ej]; exact hz0, by rw [hEc, ← ej]; exact hz1, _, by rw [hEc, ← ej]; exact Or.inl ⟨g13, hz9⟩, hf5⟩
                       obtain ⟨E', hE1, hE2, hE3⟩ := zTr_s hE hl
                       have hJ := eInv_opd hp hI hz9
                       have hbd := eInv_bd (eInv_fr hJ hf5 hp)
                       refine ⟨_, _, hq5, ?_, hbd.1, hbd.2, by omega, Or.inl ⟨rfl, ?_, ?_, eInv_fr hJ hf5 hp, E', hE1.trans hE0, ?_, ?_⟩⟩
                       · exact fun a y z9 => (hf5 a y (by unfold FEv at z9; unfold FXa; omega)).trans ((zOpd_fr hp hz9 a y z9).trans (hfi a y z9))
                       · rw [kI_s (by omega), ← ej]
                       · have := (kE_bd (tx := tx) hqi.bi.2).2.2.1 hz0; omega
                       · rw [show (c + 1).toNat = c.toNat + 1 by omega]; exact hE2
                       · rw [show (c + 1).toNat = c.toNat + 1 by omega]; exact hE3)
                  | (· omega
                     · have hl : zStep p tx n9 (E c.toNat) σ5 (kI tx n9 c.toNat i) := ⟨by rw [← ej]; exact hz0, by rw [hEc, ← ej]; exact hz1, _, by rw [hEc, ← ej]; exact Or.inr ⟨g13, hz9⟩, hf5⟩
                       obtain ⟨E', hE1, hE2, hE3⟩ := zTr_s hE hl
                       have hJ := eInv_opt hp hI hz9
                       have hbd := eInv_bd (eInv_fr hJ hf5 hp)
                       refine ⟨_, _, hq5, ?_, hbd.1, hbd.2, by omega, Or.inl ⟨rfl, ?_, ?_, eInv_fr hJ hf5 hp, E', hE1.trans hE0, ?_, ?_⟩⟩
                       · exact fun a y z9 => (hf5 a y (by unfold FEv at z9; unfold FXa; omega)).trans ((zOpt_fr hp hz9 a y z9).trans (hfi a y z9))
                       · rw [kI_s (by omega), ← ej]
                       · have := (kE_bd (tx := tx) hqi.bi.2).2.2.1 hz0; omega
                       · rw [show (c + 1).toNat = c.toNat + 1 by omega]; exact hE2
                       · rw [show (c + 1).toNat = c.toNat + 1 by omega]; exact hE3)
                  | (· omega
                     · refine ⟨_, _, hq5, ?_, by rw [hf5 _ _ (by decide)]; exact hb1, by rw [hf5 _ _ (by decide)]; exact hb2, by omega, Or.inr ⟨_, _, rfl, E, c.toNat, hE0, hE, by rw [← ej], Or.inr ⟨by rw [← ej]; exact hz0, by rw [hEc, ← ej]; exact hz1, by rw [hEc, ← ej]; exact Or.inl ⟨g13, hzf⟩⟩⟩⟩
                       exact fun a y z9 => (hf5 a y (by unfold FEv at z9; unfold FXa; omega)).trans ((hf4 a y (by unfold FEv at z9; unfold FEx; omega)).trans (hfi a y z9)))
                  | (· omega
                     · refine ⟨_, _, hq5, ?_, by rw [hf5 _ _ (by decide)]; exact hb1, by rw [hf5 _ _ (by decide)]; exact hb2, by omega, Or.inr ⟨_, _, rfl, E, c.toNat, hE0, hE, by rw [← ej], Or.inr ⟨by rw [← ej]; exact hz0, by rw [hEc, ← ej]; exact hz1, by rw [hEc, ← ej]; exact Or.inr ⟨g13, hzf⟩⟩⟩⟩
                       exact fun a y z9 => (hf5 a y (by unfold FEv at z9; unfold FXa; omega)).trans ((hf4 a y (by unfold FEv at z9; unfold FEx; omega)).trans (hfi a y z9)))
                · have t3 := pt_32_3 hq4.pt
                  conv => whnf
                  refine ⟨(by first | assumption | rfl), ?_⟩
                  try simp (disch := omega) only [Int.cast_ofNat_Int, up_s, up_a, up_i, mp_a, mp_ge]
                  try simp only [t3]
                  try simp only [e3]
                  conv => whnf
                  refine ⟨Nat.le_of_ble_eq_true rfl, Nat.le_of_ble_eq_true rfl, (by first | assumption | rfl), ?_⟩
                  refine c_Tadv hw hq4 (fun σ5 hf5 hq5 => ?_)
                  conv => whnf
                  refine ⟨⟨by omega, by omega⟩, ?_⟩
                  conv => whnf
                  refine ⟨_, ?_, ⟨rfl, _, rfl, rfl, ?_, rfl⟩⟩
                  first
                  | (· omega
                     · have hl : zStep p tx n9 (E c.toNat) σ5 (kI tx n9 c.toNat i) := ⟨by rw [← ej]; exact hz0, by rw [hEc, ← ej]; exact hz1, _, by rw [hEc, ← ej]; exact Or.inl ⟨g13, hz9⟩, hf5⟩
                       obtain ⟨E', hE1, hE2, hE3⟩ := zTr_s hE hl
                       have hJ := eInv_opd hp hI hz9
                       have hbd := eInv_bd (eInv_fr hJ hf5 hp)
                       refine ⟨_, _, hq5, ?_, hbd.1, hbd.2, by omega, Or.inl ⟨rfl, ?_, ?_, eInv_fr hJ hf5 hp, E', hE1.trans hE0, ?_, ?_⟩⟩
                       · exact fun a y z9 => (hf5 a y (by unfold FEv at z9; unfold FXa; omega)).trans ((zOpd_fr hp hz9 a y z9).trans (hfi a y z9))
                       · rw [kI_s (by omega), ← ej]
                       · have := (kE_bd (tx := tx) hqi.bi.2).2.2.1 hz0; omega
                       · rw [show (c + 1).toNat = c.toNat + 1 by omega]; exact hE2
                       · rw [show (c + 1).toNat = c.toNat + 1 by omega]; exact hE3)
                  | (· omega
                     · have hl : zStep p tx n9 (E c.toNat) σ5 (kI tx n9 c.toNat i) := ⟨by rw [← ej]; exact hz0, by rw [hEc, ← ej]; exact hz1, _, by rw [hEc, ← ej]; exact Or.inr ⟨g13, hz9⟩, hf5⟩
                       obtain ⟨E', hE1, hE2, hE3⟩ := zTr_s hE hl
                       have hJ := eInv_opt hp hI hz9
                       have hbd := eInv_bd (eInv_fr hJ hf5 hp)
                       refine ⟨_, _, hq5, ?_, hbd.1, hbd.2, by omega, Or.inl ⟨rfl, ?_, ?_, eInv_fr hJ hf5 hp, E', hE1.trans hE0, ?_, ?_⟩⟩
                       · exact fun a y z9 => (hf5 a y (by unfold FEv at z9; unfold FXa; omega)).trans ((zOpt_fr hp hz9 a y z9).trans (hfi a y z9))
                       · rw [kI_s (by omega), ← ej]
                       · have := (kE_bd (tx := tx) hqi.bi.2).2.2.1 hz0; omega
                       · rw [show (c + 1).toNat = c.toNat + 1 by omega]; exact hE2
                       · rw [show (c + 1).toNat = c.toNat + 1 by omega]; exact hE3)
                  | (· omega
                     · refine ⟨_, _, hq5, ?_, by rw [hf5 _ _ (by decide)]; exact hb1, by rw [hf5 _ _ (by decide)]; exact hb2, by omega, Or.inr ⟨_, _, rfl, E, c.toNat, hE0, hE, by rw [← ej], Or.inr ⟨by rw [← ej]; exact hz0, by rw [hEc, ← ej]; exact hz1, by rw [hEc, ← ej]; exact Or.inl ⟨g13, hzf⟩⟩⟩⟩
                       exact fun a y z9 => (hf5 a y (by unfold FEv at z9; unfold FXa; omega)).trans ((hf4 a y (by unfold FEv at z9; unfold FEx; omega)).trans (hfi a y z9)))
                  | (· omega
                     · refine ⟨_, _, hq5, ?_, by rw [hf5 _ _ (by decide)]; exact hb1, by rw [hf5 _ _ (by decide)]; exact hb2, by omega, Or.inr ⟨_, _, rfl, E, c.toNat, hE0, hE, by rw [← ej], Or.inr ⟨by rw [← ej]; exact hz0, by rw [hEc, ← ej]; exact hz1, by rw [hEc, ← ej]; exact Or.inr ⟨g13, hzf⟩⟩⟩⟩
                       exact fun a y z9 => (hf5 a y (by unfold FEv at z9; unfold FXa; omega)).trans ((hf4 a y (by unfold FEv at z9; unfold FEx; omega)).trans (hfi a y z9)))
            · simp only [sx_cc, Classical.not_not] at g
              have g13 := g
              conv => whnf
              refine ⟨(by first | assumption | rfl), ?_⟩
              try simp (disch := omega) only [Int.cast_ofNat_Int, up_s, up_a, up_i, mp_a, mp_ge]
              try simp only [t3]
              try simp only [e3]
              conv => whnf
              refine ⟨fun g => ?_, fun g => ?_⟩
              · simp only [sx_cc, Classical.not_not] at g
                have hz1 : ¬ (kT tx n9 j = 22 ∧ σ' 32 13 = 0 ∧ σ' 32 12 = 0) := fun z => g z.2.2
                conv => whnf
                refine ⟨(by first | assumption | rfl), ?_⟩
                try simp (disch := omega) only [Int.cast_ofNat_Int, up_s, up_a, up_i, mp_a, mp_ge]
                try simp only [t3]
                try simp only [e3]
                conv => whnf
                refine ⟨fun g => ?_, fun g => ?_⟩
                · simp only [sx_cc, Classical.not_not] at g
                  have g13 := g
                  conv => whnf
                  refine ⟨Nat.le_of_ble_eq_true rfl, Nat.le_of_ble_eq_true rfl, (by first | assumption | rfl), ?_⟩
                  refine c_Topt hqi hI (fun σ4 k hf4 hq4 hb1 hb2 hzf => ?_) (fun σ4 hz9 hq4 => ?_)
                  · have t3 := pt_32_3 hq4.pt
                    conv => whnf
                    refine ⟨(by first | assumption | rfl), ?_⟩
                    try simp (disch := omega) only [Int.cast_ofNat_Int, up_s, up_a, up_i, mp_a, mp_ge]
                    try simp only [t3]
                    try simp only [e3]
                    conv => whnf
                    refine ⟨Nat.le_of_ble_eq_true rfl, Nat.le_of_ble_eq_true rfl, (by first | assumption | rfl), ?_⟩
                    refine c_Tadv hw hq4 (fun σ5 hf5 hq5 => ?_)
                    conv => whnf
                    refine ⟨⟨by omega, by omega⟩, ?_⟩
                    conv => whnf
                    refine ⟨_, ?_, ⟨rfl, _, rfl, rfl, ?_, rfl⟩⟩
                    first
                    | (· omega
                       · have hl : zStep p tx n9 (E c.toNat) σ5 (kI tx n9 c.toNat i) := ⟨by rw [← ej]; exact hz0, by rw [hEc, ← ej]; exact hz1, _, by rw [hEc, ← ej]; exact Or.inl ⟨g13, hz9⟩, hf5⟩
                         obtain ⟨E', hE1, hE2, hE3⟩ := zTr_s hE hl
                         have hJ := eInv_opd hp hI hz9
                         have hbd := eInv_bd (eInv_fr hJ hf5 hp)
                         refine ⟨_, _, hq5, ?_, hbd.1, hbd.2, by omega, Or.inl ⟨rfl, ?_, ?_, eInv_fr hJ hf5 hp, E', hE1.trans hE0, ?_, ?_⟩⟩
                         · exact fun a y z9 => (hf5 a y (by unfold FEv at z9; unfold FXa; omega)).trans ((zOpd_fr hp hz9 a y z9).trans (hfi a y z9))
                         · rw [kI_s (by omega), ← ej]
                         · have := (kE_bd (tx := tx) hqi.bi.2).2.2.1 hz0; omega
                         · rw [show (c + 1).toNat = c.toNat + 1 by omega]; exact hE2
                         · rw [show (c + 1).toNat = c.toNat + 1 by omega]; exact hE3)
                    | (· omega
                       · have hl : zStep p tx n9 (E c.toNat) σ5 (kI tx n9 c.toNat i) := ⟨by rw [← ej]; exact hz0, by rw [hEc, ← ej]; exact hz1, _, by rw [hEc, ← ej]; exact Or.inr ⟨g13, hz9⟩, hf5⟩
                         obtain ⟨E', hE1, hE2, hE3⟩ := zTr_s hE hl
                         have hJ := eInv_opt hp hI hz9
                         have hbd := eInv_bd (eInv_fr hJ hf5 hp)
                         refine ⟨_, _, hq5, ?_, hbd.1, hbd.2, by omega, Or.inl ⟨rfl, ?_, ?_, eInv_fr hJ hf5 hp, E', hE1.trans hE0, ?_, ?_⟩⟩
                         · exact fun a y z9 => (hf5 a y (by unfold FEv at z9; unfold FXa; omega)).trans ((zOpt_fr hp hz9 a y z9).trans (hfi a y z9))
                         · rw [kI_s (by omega), ← ej]
                         · have := (kE_bd (tx := tx) hqi.bi.2).2.2.1 hz0; omega
                         · rw [show (c + 1).toNat = c.toNat + 1 by omega]; exact hE2
                         · rw [show (c + 1).toNat = c.toNat + 1 by omega]; exact hE3)
                    | (· omega
                       · refine ⟨_, _, hq5, ?_, by rw [hf5 _ _ (by decide)]; exact hb1, by rw [hf5 _ _ (by decide)]; exact hb2, by omega, Or.inr ⟨_, _, rfl, E, c.toNat, hE0, hE, by rw [← ej], Or.inr ⟨by rw [← ej]; exact hz0, by rw [hEc, ← ej]; exact hz1, by rw [hEc, ← ej]; exact Or.inl ⟨g13, hzf⟩⟩⟩⟩
                         exact fun a y z9 => (hf5 a y (by unfold FEv at z9; unfold FXa; omega)).trans ((hf4 a y (by unfold FEv at z9; unfold FEx; omega)).trans (hfi a y z9)))
                    | (· omega
                       · refine ⟨_, _, hq5, ?_, by rw [hf5 _ _ (by decide)]; exact hb1, by rw [hf5 _ _ (by decide)]; exact hb2, by omega, Or.inr ⟨_, _, rfl, E, c.toNat, hE0, hE, by rw [← ej], Or.inr ⟨by rw [← ej]; exact hz0, by rw [hEc, ← ej]; exact hz1, by rw [hEc, ← ej]; exact Or.inr ⟨g13, hzf⟩⟩⟩⟩
                         exact fun a y z9 => (hf5 a y (by unfold FEv at z9; unfold FXa; omega)).trans ((hf4 a y (by unfold FEv at z9; unfold FEx; omega)).trans (hfi a y z9)))
                  · have t3 := pt_32_3 hq4.pt
                    conv => whnf
                    refine ⟨(by first | assumption | rfl), ?_⟩
                    try simp (disch := omega) only [Int.cast_ofNat_Int, up_s, up_a, up_i, mp_a, mp_ge]
                    try simp only [t3]
                    try simp only [e3]
                    conv => whnf
                    refine ⟨Nat.le_of_ble_eq_true rfl, Nat.le_of_ble_eq_true rfl, (by first | assumption | rfl), ?_⟩
                    refine c_Tadv hw hq4 (fun σ5 hf5 hq5 => ?_)
                    conv => whnf
                    refine ⟨⟨by omega, by omega⟩, ?_⟩
                    conv => whnf
                    refine ⟨_, ?_, ⟨rfl, _, rfl, rfl, ?_, rfl⟩⟩
                    first
                    | (· omega
                       · have hl : zStep p tx n9 (E c.toNat) σ5 (kI tx n9 c.toNat i) := ⟨by rw [← ej]; exact hz0, by rw [hEc, ← ej]; exact hz1, _, by rw [hEc, ← ej]; exact Or.inl ⟨g13, hz9⟩, hf5⟩
                         obtain ⟨E', hE1, hE2, hE3⟩ := zTr_s hE hl
                         have hJ := eInv_opd hp hI hz9
                         have hbd := eInv_bd (eInv_fr hJ hf5 hp)
                         refine ⟨_, _, hq5, ?_, hbd.1, hbd.2, by omega, Or.inl ⟨rfl, ?_, ?_, eInv_fr hJ hf5 hp, E', hE1.trans hE0, ?_, ?_⟩⟩
                         · exact fun a y z9 => (hf5 a y (by unfold FEv at z9; unfold FXa; omega)).trans ((zOpd_fr hp hz9 a y z9).trans (hfi a y z9))
                         · rw [kI_s (by omega), ← ej]
                         · have := (kE_bd (tx := tx) hqi.bi.2).2.2.1 hz0; omega
                         · rw [show (c + 1).toNat = c.toNat + 1 by omega]; exact hE2
                         · rw [show (c + 1).toNat = c.toNat + 1 by omega]; exact hE3)
                    | (· omega
                       · have hl : zStep p tx n9 (E c.toNat) σ5 (kI tx n9 c.toNat i) := ⟨by rw [← ej]; exact hz0, by rw [hEc, ← ej]; exact hz1, _, by rw [hEc, ← ej]; exact Or.inr ⟨g13, hz9⟩, hf5⟩
                         obtain ⟨E', hE1, hE2, hE3⟩ := zTr_s hE hl
                         have hJ := eInv_opt hp hI hz9
                         have hbd := eInv_bd (eInv_fr hJ hf5 hp)
                         refine ⟨_, _, hq5, ?_, hbd.1, hbd.2, by omega, Or.inl ⟨rfl, ?_, ?_, eInv_fr hJ hf5 hp, E', hE1.trans hE0, ?_, ?_⟩⟩
                         · exact fun a y z9 => (hf5 a y (by unfold FEv at z9; unfold FXa; omega)).trans ((zOpt_fr hp hz9 a y z9).trans (hfi a y z9))
                         · rw [kI_s (by omega), ← ej]
                         · have := (kE_bd (tx := tx) hqi.bi.2).2.2.1 hz0; omega
                         · rw [show (c + 1).toNat = c.toNat + 1 by omega]; exact hE2
                         · rw [show (c + 1).toNat = c.toNat + 1 by omega]; exact hE3)
                    | (· omega
                       · refine ⟨_, _, hq5, ?_, by rw [hf5 _ _ (by decide)]; exact hb1, by rw [hf5 _ _ (by decide)]; exact hb2, by omega, Or.inr ⟨_, _, rfl, E, c.toNat, hE0, hE, by rw [← ej], Or.inr ⟨by rw [← ej]; exact hz0, by rw [hEc, ← ej]; exact hz1, by rw [hEc, ← ej]; exact Or.inl ⟨g13, hzf⟩⟩⟩⟩
                         exact fun a y z9 => (hf5 a y (by unfold FEv at z9; unfold FXa; omega)).trans ((hf4 a y (by unfold FEv at z9; unfold FEx; omega)).trans (hfi a y z9)))
                    | (· omega
                       · refine ⟨_, _, hq5, ?_, by rw [hf5 _ _ (by decide)]; exact hb1, by rw [hf5 _ _ (by decide)]; exact hb2, by omega, Or.inr ⟨_, _, rfl, E, c.toNat, hE0, hE, by rw [← ej], Or.inr ⟨by rw [← ej]; exact hz0, by rw [hEc, ← ej]; exact hz1, by rw [hEc, ← ej]; exact Or.inr ⟨g13, hzf⟩⟩⟩⟩
                         exact fun a y z9 => (hf5 a y (by unfold FEv at z9; unfold FXa; omega)).trans ((hf4 a y (by unfold FEv at z9; unfold FEx; omega)).trans (hfi a y z9)))
                · simp only [sx_cc, Classical.not_not] at g
                  have g13 := g
                  conv => whnf
                  refine ⟨Nat.le_of_ble_eq_true rfl, Nat.le_of_ble_eq_true rfl, (by first | assumption | rfl), ?_⟩
                  refine c_Topd hqi hI (fun σ4 k hf4 hq4 hb1 hb2 hzf => ?_) (fun σ4 hz9 hq4 => ?_)
                  · have t3 := pt_32_3 hq4.pt
                    conv => whnf
                    refine ⟨(by first | assumption | rfl), ?_⟩
                    try simp (disch := omega) only [Int.cast_ofNat_Int, up_s, up_a, up_i, mp_a, mp_ge]
                    try simp only [t3]
                    try simp only [e3]
                    conv => whnf
                    refine ⟨Nat.le_of_ble_eq_true rfl, Nat.le_of_ble_eq_true rfl, (by first | assumption | rfl), ?_⟩
                    refine c_Tadv hw hq4 (fun σ5 hf5 hq5 => ?_)
                    conv => whnf
                    refine ⟨⟨by omega, by omega⟩, ?_⟩
                    conv => whnf
                    refine ⟨_, ?_, ⟨rfl, _, rfl, rfl, ?_, rfl⟩⟩
                    first
                    | (· omega
                       · have hl : zStep p tx n9 (E c.toNat) σ5 (kI tx n9 c.toNat i) := ⟨by rw [← ej]; exact hz0, by rw [hEc, ← ej]; exact hz1, _, by rw [hEc, ← ej]; exact Or.inl ⟨g13, hz9⟩, hf5⟩
                         obtain ⟨E', hE1, hE2, hE3⟩ := zTr_s hE hl
                         have hJ := eInv_opd hp hI hz9
                         have hbd := eInv_bd (eInv_fr hJ hf5 hp)
                         refine ⟨_, _, hq5, ?_, hbd.1, hbd.2, by omega, Or.inl ⟨rfl, ?_, ?_, eInv_fr hJ hf5 hp, E', hE1.trans hE0, ?_, ?_⟩⟩
                         · exact fun a y z9 => (hf5 a y (by unfold FEv at z9; unfold FXa; omega)).trans ((zOpd_fr hp hz9 a y z9).trans (hfi a y z9))
                         · rw [kI_s (by omega), ← ej]
                         · have := (kE_bd (tx := tx) hqi.bi.2).2.2.1 hz0; omega
                         · rw [show (c + 1).toNat = c.toNat + 1 by omega]; exact hE2
                         · rw [show (c + 1).toNat = c.toNat + 1 by omega]; exact hE3)
                    | (· omega
                       · have hl : zStep p tx n9 (E c.toNat) σ5 (kI tx n9 c.toNat i) := ⟨by rw [← ej]; exact hz0, by rw [hEc, ← ej]; exact hz1, _, by rw [hEc, ← ej]; exact Or.inr ⟨g13, hz9⟩, hf5⟩
                         obtain ⟨E', hE1, hE2, hE3⟩ := zTr_s hE hl
                         have hJ := eInv_opt hp hI hz9
                         have hbd := eInv_bd (eInv_fr hJ hf5 hp)
                         refine ⟨_, _, hq5, ?_, hbd.1, hbd.2, by omega, Or.inl ⟨rfl, ?_, ?_, eInv_fr hJ hf5 hp, E', hE1.trans hE0, ?_, ?_⟩⟩
                         · exact fun a y z9 => (hf5 a y (by unfold FEv at z9; unfold FXa; omega)).trans ((zOpt_fr hp hz9 a y z9).trans (hfi a y z9))
                         · rw [kI_s (by omega), ← ej]
                         · have := (kE_bd (tx := tx) hqi.bi.2).2.2.1 hz0; omega
                         · rw [show (c + 1).toNat = c.toNat + 1 by omega]; exact hE2
                         · rw [show (c + 1).toNat = c.toNat + 1 by omega]; exact hE3)
                    | (· omega
                       · refine ⟨_, _, hq5, ?_, by rw [hf5 _ _ (by decide)]; exact hb1, by rw [hf5 _ _ (by decide)]; exact hb2, by omega, Or.inr ⟨_, _, rfl, E, c.toNat, hE0, hE, by rw [← ej], Or.inr ⟨by rw [← ej]; exact hz0, by rw [hEc, ← ej]; exact hz1, by rw [hEc, ← ej]; exact Or.inl ⟨g13, hzf⟩⟩⟩⟩
                         exact fun a y z9 => (hf5 a y (by unfold FEv at z9; unfold FXa; omega)).trans ((hf4 a y (by unfold FEv at z9; unfold FEx; omega)).trans (hfi a y z9)))
                    | (· omega
                       · refine ⟨_, _, hq5, ?_, by rw [hf5 _ _ (by decide)]; exact hb1, by rw [hf5 _ _ (by decide)]; exact hb2, by omega, Or.inr ⟨_, _, rfl, E, c.toNat, hE0, hE, by rw [← ej], Or.inr ⟨by rw [← ej]; exact hz0, by rw [hEc, ← ej]; exact hz1, by rw [hEc, ← ej]; exact Or.inr ⟨g13, hzf⟩⟩⟩⟩
                         exact fun a y z9 => (hf5 a y (by unfold FEv at z9; unfold FXa; omega)).trans ((hf4 a y (by unfold FEv at z9; unfold FEx; omega)).trans (hfi a y z9)))
                  · have t3 := pt_32_3 hq4.pt
                    conv => whnf
                    refine ⟨(by first | assumption | rfl), ?_⟩
                    try simp (disch := omega) only [Int.cast_ofNat_Int, up_s, up_a, up_i, mp_a, mp_ge]
                    try simp only [t3]
                    try simp only [e3]
                    conv => whnf
                    refine ⟨Nat.le_of_ble_eq_true rfl, Nat.le_of_ble_eq_true rfl, (by first | assumption | rfl), ?_⟩
                    refine c_Tadv hw hq4 (fun σ5 hf5 hq5 => ?_)
                    conv => whnf
                    refine ⟨⟨by omega, by omega⟩, ?_⟩
                    conv => whnf
                    refine ⟨_, ?_, ⟨rfl, _, rfl, rfl, ?_, rfl⟩⟩
                    first
                    | (· omega
                       · have hl : zStep p tx n9 (E c.toNat) σ5 (kI tx n9 c.toNat i) := ⟨by rw [← ej]; exact hz0, by rw [hEc, ← ej]; exact hz1, _, by rw [hEc, ← ej]; exact Or.inl ⟨g13, hz9⟩, hf5⟩
                         obtain ⟨E', hE1, hE2, hE3⟩ := zTr_s hE hl
                         have hJ := eInv_opd hp hI hz9
                         have hbd := eInv_bd (eInv_fr hJ hf5 hp)
                         refine ⟨_, _, hq5, ?_, hbd.1, hbd.2, by omega, Or.inl ⟨rfl, ?_, ?_, eInv_fr hJ hf5 hp, E', hE1.trans hE0, ?_, ?_⟩⟩
                         · exact fun a y z9 => (hf5 a y (by unfold FEv at z9; unfold FXa; omega)).trans ((zOpd_fr hp hz9 a y z9).trans (hfi a y z9))
                         · rw [kI_s (by omega), ← ej]
                         · have := (kE_bd (tx := tx) hqi.bi.2).2.2.1 hz0; omega
                         · rw [show (c + 1).toNat = c.toNat + 1 by omega]; exact hE2
                         · rw [show (c + 1).toNat = c.toNat + 1 by omega]; exact hE3)
                    | (· omega
                       · have hl : zStep p tx n9 (E c.toNat) σ5 (kI tx n9 c.toNat i) := ⟨by rw [← ej]; exact hz0, by rw [hEc, ← ej]; exact hz1, _, by rw [hEc, ← ej]; exact Or.inr ⟨g13, hz9⟩, hf5⟩
                         obtain ⟨E', hE1, hE2, hE3⟩ := zTr_s hE hl
                         have hJ := eInv_opt hp hI hz9
                         have hbd := eInv_bd (eInv_fr hJ hf5 hp)
                         refine ⟨_, _, hq5, ?_, hbd.1, hbd.2, by omega, Or.inl ⟨rfl, ?_, ?_, eInv_fr hJ hf5 hp, E', hE1.trans hE0, ?_, ?_⟩⟩
                         · exact fun a y z9 => (hf5 a y (by unfold FEv at z9; unfold FXa; omega)).trans ((zOpt_fr hp hz9 a y z9).trans (hfi a y z9))
                         · rw [kI_s (by omega), ← ej]
                         · have := (kE_bd (tx := tx) hqi.bi.2).2.2.1 hz0; omega
                         · rw [show (c + 1).toNat = c.toNat + 1 by omega]; exact hE2
                         · rw [show (c + 1).toNat = c.toNat + 1 by omega]; exact hE3)
                    | (· omega
                       · refine ⟨_, _, hq5, ?_, by rw [hf5 _ _ (by decide)]; exact hb1, by rw [hf5 _ _ (by decide)]; exact hb2, by omega, Or.inr ⟨_, _, rfl, E, c.toNat, hE0, hE, by rw [← ej], Or.inr ⟨by rw [← ej]; exact hz0, by rw [hEc, ← ej]; exact hz1, by rw [hEc, ← ej]; exact Or.inl ⟨g13, hzf⟩⟩⟩⟩
                         exact fun a y z9 => (hf5 a y (by unfold FEv at z9; unfold FXa; omega)).trans ((hf4 a y (by unfold FEv at z9; unfold FEx; omega)).trans (hfi a y z9)))
                    | (· omega
                       · refine ⟨_, _, hq5, ?_, by rw [hf5 _ _ (by decide)]; exact hb1, by rw [hf5 _ _ (by decide)]; exact hb2, by omega, Or.inr ⟨_, _, rfl, E, c.toNat, hE0, hE, by rw [← ej], Or.inr ⟨by rw [← ej]; exact hz0, by rw [hEc, ← ej]; exact hz1, by rw [hEc, ← ej]; exact Or.inr ⟨g13, hzf⟩⟩⟩⟩
                         exact fun a y z9 => (hf5 a y (by unfold FEv at z9; unfold FXa; omega)).trans ((hf4 a y (by unfold FEv at z9; unfold FEx; omega)).trans (hfi a y z9)))
              · simp only [sx_cc, Classical.not_not] at g
                have g12 := g
                conv => whnf
                refine ⟨Nat.le_of_ble_eq_true rfl, Nat.le_of_ble_eq_true rfl, (by first | assumption | rfl), ?_⟩
                refine c_Trel hqi (by decide) hb11 hb14 (fun σ4 m hr => ?_)
                conv => whnf
                refine ⟨rfl, ?_⟩
                have hfr := fun a y z9 => (pRel_fr hr a y z9).trans (hfi a y z9)
                rcases hab with ⟨eF, ej, hic, hI, E, hE0, hE, hEc⟩ | ⟨k9, pl9, e9, hz⟩
                · try subst eF
                  have hq4 : cQ p σ4 tx n9 j none := cQ_of hqi (fun a y z9 => hr.2.1 a y (by unfold FPd at z9; unfold FRl; omega))
                  by_cases e36 : kT tx n9 j = 36
                  · exact hE9 _ _ hfr hq4 e36 ⟨E, c.toNat, hE0, hE, by rw [← ej], Or.inl ⟨by rw [← ej]; exact e36, rfl⟩⟩
                  · first
                    | exact absurd g36 e36
                    | exact hS _ _ hfr hq4 ⟨E, c.toNat, hE0, hE, ej, g22, by rw [hEc]; exact g13, by rw [hEc]; exact g12, m, by rw [hEc]; exact hr⟩
                    | (exfalso
                       have hj : j = n9 := by have := hqi.bi; have := hqi.lx.2.2.1; omega
                       rw [hj] at e36
                       exact e36 kT_n9)
                    | exact absurd (hqi.fl.1) gf
                · first
                  | exact absurd e9 (by simp)
                  | (subst e9
                     exact hF _ _ _ _ hfr (cQ_of hqi (fun a y z9 => hr.2.1 a y (by unfold FPd at z9; unfold FRl; omega))) hz)
end SXP9
