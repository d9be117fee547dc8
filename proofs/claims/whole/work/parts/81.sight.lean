/-! WHAT IS SEEN (by wip/whole) -/
section SXM14
variable {X : sx_X} {Q : sx_R} {p : Int} {σ σ0 σ' σ1 σ2 : sx_S} {P : aP} {A : aM}
def fRay (P : aP) (y : Int) : Nat → Int → Int → Int
  | 0, _, b => b
  | n + 1, a, b => if a = -1 ∨ P.ki a = 1 then b else fRay P y n (fBes P.w P.h a y) (sx_orL b (sx_shlL 1 a))
def fSeen (P : aP) (c : Int) : Nat → Int
  | 0 => sx_shlL 1 c
  | y + 1 => fRay P y 48 (fBes P.w P.h c y) (fSeen P c y)
def aSee (P : aP) (c : Int) : Int := fSeen P c 4
theorem fSeen_s {c y : Int} (h : 0 ≤ y) : fSeen P c (y + 1).toNat = fRay P y 48 (fBes P.w P.h c y) (fSeen P c y.toNat) := by
  rw [toNat_s h]
  show fRay P ((y.toNat : Nat) : Int) 48 (fBes P.w P.h c ((y.toNat : Nat) : Int)) _ = _
  rw [Int.toNat_of_nonneg h]
theorem fRay_e {y a b : Int} (h : a = -1 ∨ P.ki a = 1) : ∀ n : Nat, fRay P y n a b = b
  | 0 => rfl
  | n + 1 => if_pos h
theorem fRay_s {y a b : Int} {n : Nat} (h1 : ¬ a = -1) (h2 : ¬ P.ki a = 1) : fRay P y (n + 1) a b = fRay P y n (fBes P.w P.h a y) (sx_orL b (sx_shlL 1 a)) := if_neg (fun z => by rcases z with z | z; exact h1 z; exact h2 z)
/-- how far to the border -/
def fDt (P : aP) (y a : Int) : Int := if a = -1 then 0 else 1 + (if y = 0 then a.tdiv P.w else if y = 1 then P.w - 1 - a.tmod P.w else if y = 2 then P.h - 1 - a.tdiv P.w else a.tmod P.w)
theorem fDt_bd (wp : wP P) {y a : Int} (ha : a = -1 ∨ (0 ≤ a ∧ a < P.w * P.h)) : 0 ≤ fDt P y a ∧ fDt P y a ≤ 8 := by
  have v1 := wp.w
  have v2 := wp.h
  unfold fDt
  by_cases e : a = -1
  · rw [if_pos e]; decide
  · rw [if_neg e]
    have ha' : 0 ≤ a ∧ a < P.w * P.h := by omega
    have h1 := tm_bd ha'.1 (show 0 < P.w by omega)
    have h2 := td_bd ha'.1 (show 0 < P.w by omega) ha'.2
    repeat (first | omega | split)
theorem fDt_s (wp : wP P) {y a : Int} (hy : 0 ≤ y ∧ y ≤ 3) (ha : 0 ≤ a ∧ a < P.w * P.h) : fDt P y (fBes P.w P.h a y) ≤ fDt P y a - 1 := by
  have v1 := wp.w
  have v2 := wp.h
  have h1 := tm_bd ha.1 (show 0 < P.w by omega)
  have h2 := td_bd ha.1 (show 0 < P.w by omega) ha.2
  have e0 : ¬ a = -1 := by omega
  by_cases e : fBes P.w P.h a y = -1
  · unfold fDt
    rw [if_pos e, if_neg e0]
    repeat (first | omega | split)
  · have hc : 0 ≤ a.tmod P.w + fDx y ∧ a.tmod P.w + fDx y < P.w ∧ 0 ≤ a.tdiv P.w + fDy y ∧ a.tdiv P.w + fDy y < P.h := by
      by_cases hc : 0 ≤ a.tmod P.w + fDx y ∧ a.tmod P.w + fDx y < P.w ∧ 0 ≤ a.tdiv P.w + fDy y ∧ a.tdiv P.w + fDy y < P.h
      · exact hc
      · exact absurd (show fBes P.w P.h a y = -1 from if_neg hc) e
    have eb : fBes P.w P.h a y = (a.tdiv P.w + fDy y) * P.w + (a.tmod P.w + fDx y) := if_pos hc
    have h3 := tdm (show 0 < P.w by omega) ⟨hc.1, hc.2.1⟩ hc.2.2.1
    rw [← eb] at h3
    unfold fDt
    rw [if_neg e, if_neg e0, h3.1, h3.2]
    rcases (show y = 0 ∨ y = 1 ∨ y = 2 ∨ y = 3 by omega) with e9 | e9 | e9 | e9 <;> subst e9 <;> simp [fDx, fDy] <;> omega
theorem fRay_st (wp : wP P) {y : Int} (hy : 0 ≤ y ∧ y ≤ 3) : ∀ (n : Nat) (a b : Int), (a = -1 ∨ (0 ≤ a ∧ a < P.w * P.h)) → fDt P y a ≤ n → fRay P y (n + 1) a b = fRay P y n a b
  | 0, a, b, ha, hd => by
    have e : a = -1 := by
      have h1 := fDt_bd wp (y := y) ha
      rcases ha with h | h
      · exact h
      · have h2 := fDt_s wp hy h
        by_cases e9 : fBes P.w P.h a y = -1
        · have h3 : fDt P y (fBes P.w P.h a y) = 0 := if_pos e9
          omega
        · have h3 := fDt_bd wp (y := y) (a := fBes P.w P.h a y) (Or.inr (fBes_b e9))
          omega
    exact if_pos (Or.inl e)
  | n + 1, a, b, ha, hd => by
    by_cases e : a = -1 ∨ P.ki a = 1
    · rw [fRay_e e, fRay_e e]
    · have e1 : ¬ a = -1 := fun z => e (Or.inl z)
      have e2 : ¬ P.ki a = 1 := fun z => e (Or.inr z)
      rw [fRay_s e1 e2, fRay_s e1 e2]
      have ha' : 0 ≤ a ∧ a < P.w * P.h := by omega
      have h2 := fDt_s wp hy ha'
      refine fRay_st wp hy n _ _ ?_ (by omega)
      by_cases e9 : fBes P.w P.h a y = -1
      · exact Or.inl e9
      · exact Or.inr (fBes_b e9)
theorem fBes_o {a y : Int} : fBes P.w P.h a y = -1 ∨ (0 ≤ fBes P.w P.h a y ∧ fBes P.w P.h a y < P.w * P.h) := by
  by_cases e9 : fBes P.w P.h a y = -1
  · exact Or.inl e9
  · exact Or.inr (fBes_b e9)
set_option maxRecDepth 20000 in
theorem c_see (hp : isP p) (wp : wP P) (hT : PT σ) (gp : cP p σ P) {c : Int} (hc0 : 0 ≤ c ∧ c < P.w * P.h) (h : Q (some (.inr (.inl (aSee P c)))) shM σ) : sx_Run X 70 [.inr (.inr 121), .inr (.inr p), .inl c] shM σ Q := by
  have q0 := lkP0 hp
  have q1 := lkP1 hp
  have t2 := ptP_2 hT hp
  have v4 := wp.wh
  refine sx_rule2 (own := 8) (cd := kX8_from) (nL := 8) (by decide +kernel) (by decide +kernel) kX8_from_ok (by decide +kernel) (Nat.le_of_ble_eq_true rfl) [7, 25] 40 (fun n t L st _ σ' => (t = 7 ∧ ∃ v y : Int, ∃ w6 : Option sx_V, ∃ w7 : Option sx_V, st = [] ∧ L = [some (.inr (.inr (121))), some (.inr (.inr (p))), some (.inl (c)), some (.inr (.inl (v))), none, some (.inl (y)), w6, w7] ∧ (σ' = σ ∧ v = fSeen P c y.toNat ∧ 0 ≤ y ∧ y ≤ 4) ∧ n = ((4 - y) * 100 + 60).toNat) ∨ (t = 25 ∧ ∃ v y u i : Int, st = [] ∧ L = [some (.inr (.inr (121))), some (.inr (.inr (p))), some (.inl (c)), some (.inr (.inl (v))), none, some (.inl (y)), some (.inl (u)), some (.inl (i))] ∧ (σ' = σ ∧ fRay P y (48 - i).toNat u v = fSeen P c (y + 1).toNat ∧ (u = -1 ∨ (0 ≤ u ∧ u < P.w * P.h)) ∧ 0 ≤ y ∧ y < 4 ∧ 0 ≤ i ∧ i ≤ 48) ∧ n = ((4 - y) * 100 + (48 - i)).toNat)) ?_ ?_
  · skip
    conv => whnf
    refine ⟨_, Or.inl ⟨rfl, _, _, _, _, rfl, rfl, ?_, rfl⟩⟩
    exact ⟨rfl, rfl, by omega, by omega⟩
  · intro n t L st σ' hk
    rcases hk with hk | hk
    · obtain ⟨rfl, v, y, w6, w7, rfl, rfl, hc, rfl⟩ := hk
      obtain ⟨rfl, hv, hy0, hy1⟩ := hc
      conv => whnf
      refine ⟨fun g => ?_, fun g => ?_⟩
      · simp only [sx_cc, Classical.not_not] at g
        conv => whnf
        rw [hv, show y = 4 by omega]
        exact h
      · simp only [sx_cc, Classical.not_not] at g
        conv => whnf
        refine ⟨Nat.le_of_ble_eq_true rfl, Nat.le_of_ble_eq_true rfl, (by first | assumption | rfl), ?_⟩
        refine c_Pbeside hp (gp.pd wp) hc0.1 (by rw [gp.w, gp.h]; exact hc0.2) ?_
        rw [gp.w, gp.h]
        conv => whnf
        refine ⟨_, ?_, Or.inr (⟨rfl, _, _, _, _, rfl, rfl, ?_, rfl⟩)⟩
        · omega
        · exact ⟨rfl, by rw [fSeen_s hy0, hv]; rfl, fBes_o, by omega, by omega, by omega, by omega⟩
    · obtain ⟨rfl, v, y, u, i, rfl, rfl, hc, rfl⟩ := hk
      obtain ⟨rfl, hr, hu, hy0, hy1, hi0, hi1⟩ := hc
      conv => whnf
      refine ⟨fun g => ?_, fun g => ?_⟩
      · simp only [sx_cc, Classical.not_not] at g
        conv => whnf
        refine ⟨⟨by omega, by omega⟩, ?_⟩
        conv => whnf
        refine ⟨_, ?_, Or.inl ⟨rfl, _, _, _, _, rfl, rfl, ?_, rfl⟩⟩
        · omega
        · first | exact ⟨rfl, by rw [← hr, fRay_e (Or.inl (by omega))], by omega, by omega⟩ | exact ⟨rfl, by rw [← hr, fRay_e (Or.inr (by assumption))], by omega, by omega⟩ | exact ⟨rfl, by rw [← hr, show (48 - i).toNat = 0 by omega]; rfl, by omega, by omega⟩
      · simp only [sx_cc, Classical.not_not] at g
        conv => whnf
        refine ⟨fun g => ?_, fun g => ?_⟩
        · simp only [sx_cc, Classical.not_not] at g
          conv => whnf
          refine ⟨⟨by omega, by omega⟩, ?_⟩
          conv => whnf
          refine ⟨_, ?_, Or.inl ⟨rfl, _, _, _, _, rfl, rfl, ?_, rfl⟩⟩
          · omega
          · first | exact ⟨rfl, by rw [← hr, fRay_e (Or.inl (by omega))], by omega, by omega⟩ | exact ⟨rfl, by rw [← hr, fRay_e (Or.inr (by assumption))], by omega, by omega⟩ | exact ⟨rfl, by rw [← hr, show (48 - i).toNat = 0 by omega]; rfl, by omega, by omega⟩
        · simp only [sx_cc, Classical.not_not] at g
          have hu9 : 0 ≤ u ∧ u < P.w * P.h := (by omega)
          have eki := gp.ki u hu9.1 (by omega)
          conv => whnf
          refine ⟨(by first | assumption | rfl), ?_⟩
          try simp (disch := omega) only [Int.cast_ofNat_Int, up_s, up_a, up_i, mp_a, mp_ge]
          try simp only [t2]
          try simp only [eki]
          conv => whnf
          refine ⟨sx_ixI (by first | assumption | rfl) (by omega) (by omega), ?_⟩
          try simp (disch := omega) only [Int.cast_ofNat_Int, up_s, up_a, up_i, mp_a, mp_ge]
          try simp only [t2]
          try simp only [eki]
          conv => whnf
          refine ⟨fun g => ?_, fun g => ?_⟩
          · simp only [sx_cc, Classical.not_not] at g
            conv => whnf
            refine ⟨⟨by omega, by omega⟩, ?_⟩
            conv => whnf
            refine ⟨_, ?_, Or.inl ⟨rfl, _, _, _, _, rfl, rfl, ?_, rfl⟩⟩
            · omega
            · first | exact ⟨rfl, by rw [← hr, fRay_e (Or.inl (by omega))], by omega, by omega⟩ | exact ⟨rfl, by rw [← hr, fRay_e (Or.inr (by assumption))], by omega, by omega⟩ | exact ⟨rfl, by rw [← hr, show (48 - i).toNat = 0 by omega]; rfl, by omega, by omega⟩
          · simp only [sx_cc, Classical.not_not] at g
            conv => whnf
            refine ⟨Nat.le_of_ble_eq_true rfl, Nat.le_of_ble_eq_true rfl, (by first | assumption | rfl), ?_⟩
            refine c_Pbeside hp (gp.pd wp) (by omega) (by rw [gp.w, gp.h]; omega) ?_
            rw [gp.w, gp.h]
            conv => whnf
            refine ⟨⟨by omega, by omega⟩, ?_⟩
            conv => whnf
            refine ⟨_, ?_, Or.inr (⟨rfl, _, _, _, _, rfl, rfl, ?_, rfl⟩)⟩
            · omega
            · exact ⟨rfl, by rw [← hr, show (48 - i).toNat = (48 - (i + 1)).toNat + 1 by omega, fRay_s (by omega) (by assumption)]; rfl, fBes_o, by omega, by omega, by omega, by omega⟩
set_option maxRecDepth 20000 in
theorem c_Rsee (wp : wP P) (hT : PT σ) (gp : rP σ P) {c : Int} (hc0 : 0 ≤ c ∧ c < P.w * P.h) (h : Q (some (.inr (.inl (aSee P c)))) shM σ) : sx_Run X 286 [.inr (.inr 124), .inl c] shM σ Q := by
  have r30 := pt_124_30 hT
  have v4 := wp.wh
  refine sx_rule2 (own := 12) (cd := kX12_seenBy) (nL := 6) (by decide +kernel) (by decide +kernel) kX12_seenBy_ok (by decide +kernel) (Nat.le_of_ble_eq_true rfl) [7, 22] 40 (fun n t L st _ σ' => (t = 7 ∧ ∃ v y : Int, ∃ w5 : Option sx_V, st = [] ∧ L = [some (.inr (.inr (124))), some (.inl (c)), some (.inr (.inl (v))), none, some (.inl (y)), w5] ∧ (σ' = σ ∧ v = fSeen P c y.toNat ∧ 0 ≤ y ∧ y ≤ 4) ∧ n = ((4 - y) * 100 + 60).toNat) ∨ (t = 22 ∧ ∃ v y u : Int, st = [] ∧ L = [some (.inr (.inr (124))), some (.inl (c)), some (.inr (.inl (v))), none, some (.inl (y)), some (.inl (u))] ∧ (σ' = σ ∧ fRay P y 48 u v = fSeen P c (y + 1).toNat ∧ (u = -1 ∨ (0 ≤ u ∧ u < P.w * P.h)) ∧ 0 ≤ y ∧ y < 4) ∧ n = ((4 - y) * 100 + fDt P y u).toNat)) ?_ ?_
  · skip
    conv => whnf
    refine ⟨_, Or.inl ⟨rfl, _, _, _, rfl, rfl, ?_, rfl⟩⟩
    exact ⟨rfl, rfl, by omega, by omega⟩
  · intro n t L st σ' hk
    rcases hk with hk | hk
    · obtain ⟨rfl, v, y, w5, rfl, rfl, hc, rfl⟩ := hk
      obtain ⟨rfl, hv, hy0, hy1⟩ := hc
      conv => whnf
      refine ⟨fun g => ?_, fun g => ?_⟩
      · simp only [sx_cc, Classical.not_not] at g
        conv => whnf
        rw [hv, show y = 4 by omega]
        exact h
      · simp only [sx_cc, Classical.not_not] at g
        conv => whnf
        refine ⟨Nat.le_of_ble_eq_true rfl, Nat.le_of_ble_eq_true rfl, (by first | assumption | rfl), ?_⟩
        refine c_Rbeside (gp.rd wp) hc0.1 (by rw [gp.w, gp.h]; exact hc0.2) ?_
        rw [gp.w, gp.h]
        conv => whnf
        refine ⟨_, ?_, Or.inr (⟨rfl, _, _, _, rfl, rfl, ?_, rfl⟩)⟩
        · have h9 := fDt_bd wp (y := y) (a := fBes P.w P.h c y) fBes_o
          omega
        · exact ⟨rfl, by rw [fSeen_s hy0, hv], fBes_o, by omega, by omega⟩
    · obtain ⟨rfl, v, y, u, rfl, rfl, hc, rfl⟩ := hk
      obtain ⟨rfl, hr, hu, hy0, hy1⟩ := hc
      conv => whnf
      refine ⟨fun g => ?_, fun g => ?_⟩
      · simp only [sx_cc, Classical.not_not] at g
        conv => whnf
        refine ⟨⟨by omega, by omega⟩, ?_⟩
        conv => whnf
        refine ⟨_, ?_, Or.inl ⟨rfl, _, _, _, rfl, rfl, ?_, rfl⟩⟩
        · have h9 := fDt_bd wp (y := y) hu
          omega
        · first | exact ⟨rfl, by rw [← hr, fRay_e (Or.inl (by omega))], by omega, by omega⟩ | exact ⟨rfl, by rw [← hr, fRay_e (Or.inr (by assumption))], by omega, by omega⟩
      · simp only [sx_cc, Classical.not_not] at g
        have hu9 : 0 ≤ u ∧ u < P.w * P.h := (by omega)
        have eki := gp.ki u hu9.1 (by omega)
        conv => whnf
        refine ⟨(by first | assumption | rfl), ?_⟩
        try simp (disch := omega) only [Int.cast_ofNat_Int, up_s, up_a, up_i, mp_a, mp_ge]
        try simp only [r30]
        try simp only [eki]
        conv => whnf
        refine ⟨sx_ixI (by first | assumption | rfl) (by omega) (by omega), ?_⟩
        try simp (disch := omega) only [Int.cast_ofNat_Int, up_s, up_a, up_i, mp_a, mp_ge]
        try simp only [r30]
        try simp only [eki]
        conv => whnf
        refine ⟨fun g => ?_, fun g => ?_⟩
        · simp only [sx_cc, Classical.not_not] at g
          conv => whnf
          refine ⟨⟨by omega, by omega⟩, ?_⟩
          conv => whnf
          refine ⟨_, ?_, Or.inl ⟨rfl, _, _, _, rfl, rfl, ?_, rfl⟩⟩
          · have h9 := fDt_bd wp (y := y) hu
            omega
          · first | exact ⟨rfl, by rw [← hr, fRay_e (Or.inl (by omega))], by omega, by omega⟩ | exact ⟨rfl, by rw [← hr, fRay_e (Or.inr (by assumption))], by omega, by omega⟩
        · simp only [sx_cc, Classical.not_not] at g
          conv => whnf
          refine ⟨Nat.le_of_ble_eq_true rfl, Nat.le_of_ble_eq_true rfl, (by first | assumption | rfl), ?_⟩
          refine c_Rbeside (gp.rd wp) (by omega) (by rw [gp.w, gp.h]; omega) ?_
          rw [gp.w, gp.h]
          conv => whnf
          refine ⟨_, ?_, Or.inr (⟨rfl, _, _, _, rfl, rfl, ?_, rfl⟩)⟩
          · have h9 := fDt_s wp (y := y) ⟨hy0, by omega⟩ hu9
            have h8 := fDt_bd wp (y := y) (a := fBes P.w P.h u y) fBes_o
            omega
          · have h9 := fDt_s wp (y := y) ⟨hy0, by omega⟩ hu9
            have h8 := fDt_bd wp (y := y) hu
            exact ⟨rfl, by rw [fRay_st wp (y := y) ⟨hy0, by omega⟩ 47 _ _ fBes_o (by omega), ← hr, fRay_s (n := 47) (by omega) (by assumption)]; rfl, fBes_o, by omega, by omega⟩
set_option maxRecDepth 20000 in
theorem c_sees (hp : isP p) (e2 : σ 0 2 = p) (wp : wP P) (hT : PT σ) (gp : cP p σ P) {c : Int} (h0 : ¬ (0 ≤ c ∧ c < P.w * P.h ∧ ¬ P.ki c = 1) → Q (some (.inr (.inl (-1)))) shM σ) (h1 : (0 ≤ c ∧ c < P.w * P.h ∧ ¬ P.ki c = 1) → Q (some (.inr (.inl (aSee P c)))) shM σ) : sx_Run X 158 [.inr (.inr 0), .inl c] shM σ Q := by
  have a13 := pt_0_13 hT
  have q0 := lkP0 hp
  have q1 := lkP1 hp
  have t2 := ptP_2 hT hp
  have v4 := wp.wh
  refine sx_rule0 (own := 11) (cd := kX11_sees) (nL := 2) (by decide +kernel) (by decide +kernel) kX11_sees_ok (by decide +kernel) (Nat.le_of_ble_eq_true rfl) 40 ?_
  conv => whnf
  refine ⟨(by first | assumption | rfl), ?_⟩
  try simp (disch := omega) only [Int.cast_ofNat_Int, up_s, up_a, up_i, mp_a, mp_ge]
  try simp only [e2]
  try simp only [a13]
  try simp only [t2]
  try simp only [eki]
  conv => whnf
  refine ⟨Nat.le_of_ble_eq_true rfl, Nat.le_of_ble_eq_true rfl, (by first | assumption | rfl), ?_⟩
  refine c_Phascell hp (gp.pd wp) (fun y1 y2 => ?_) (fun y0 => ?_)
  · rw [gp.w, gp.h] at y2
    have eki := gp.ki c y1 (by omega)
    conv => whnf
    refine ⟨fun g => ?_, fun g => ?_⟩
    · exact absurd g (by simp [sx_cc])
    · skip
      conv => whnf
      refine ⟨(by first | assumption | rfl), ?_⟩
      try simp (disch := omega) only [Int.cast_ofNat_Int, up_s, up_a, up_i, mp_a, mp_ge]
      try simp only [e2]
      try simp only [a13]
      try simp only [t2]
      try simp only [eki]
      conv => whnf
      refine ⟨(by first | assumption | rfl), ?_⟩
      try simp (disch := omega) only [Int.cast_ofNat_Int, up_s, up_a, up_i, mp_a, mp_ge]
      try simp only [e2]
      try simp only [a13]
      try simp only [t2]
      try simp only [eki]
      conv => whnf
      refine ⟨sx_ixI (by first | assumption | rfl) (by omega) (by omega), ?_⟩
      try simp (disch := omega) only [Int.cast_ofNat_Int, up_s, up_a, up_i, mp_a, mp_ge]
      try simp only [e2]
      try simp only [a13]
      try simp only [t2]
      try simp only [eki]
      conv => whnf
      refine ⟨fun g => ?_, fun g => ?_⟩
      · simp only [sx_cc, Classical.not_not] at g
        conv => whnf
        refine ⟨(by first | assumption | rfl), ?_⟩
        try simp (disch := omega) only [Int.cast_ofNat_Int, up_s, up_a, up_i, mp_a, mp_ge]
        try simp only [e2]
        try simp only [a13]
        try simp only [t2]
        try simp only [eki]
        conv => whnf
        refine ⟨(by first | assumption | rfl), ?_⟩
        try simp (disch := omega) only [Int.cast_ofNat_Int, up_s, up_a, up_i, mp_a, mp_ge]
        try simp only [e2]
        try simp only [a13]
        try simp only [t2]
        try simp only [eki]
        conv => whnf
        refine ⟨Nat.le_of_ble_eq_true rfl, Nat.le_of_ble_eq_true rfl, (by first | assumption | rfl), ?_⟩
        refine c_see hp wp hT gp ⟨y1, y2⟩ ?_
        conv => whnf
        exact h1 ⟨y1, y2, by assumption⟩
      · simp only [sx_cc, Classical.not_not] at g
        conv => whnf
        exact h0 (by omega)
  · rw [gp.w, gp.h] at y0
    conv => whnf
    refine ⟨fun g => ?_, fun g => ?_⟩
    · skip
      conv => whnf
      exact h0 (by omega)
    · exact absurd g (by simp [sx_cc])
set_option maxRecDepth 20000 in
theorem r_sees (e0 : σ0 = sx_up σ 124 2 0) (wp : wP P) (hT : PT σ0) (gp : rP σ0 P) {c : Int} (h0 : ¬ (0 ≤ c ∧ c < P.w * P.h ∧ ¬ P.ki c = 1) → Q (some (.inr (.inl (-1)))) shM σ0) (h1 : (0 ≤ c ∧ c < P.w * P.h ∧ ¬ P.ki c = 1) → Q (some (.inr (.inl (aSee P c)))) shM σ0) : sx_Run X 287 [.inr (.inr 124), .inl c] shM σ Q := by
  have r30 := pt_124_30 hT
  have v4 := wp.wh
  refine sx_rule0 (own := 12) (cd := kX12_sees) (nL := 2) (by decide +kernel) (by decide +kernel) kX12_sees_ok (by decide +kernel) (Nat.le_of_ble_eq_true rfl) 40 ?_
  conv => whnf
  refine ⟨(by first | assumption | rfl), ?_⟩
  try simp (disch := omega) only [Int.cast_ofNat_Int, up_s, up_a, up_i, mp_a, mp_ge]
  try simp only [r30]
  try simp only [eki]
  rw [← e0]
  conv => whnf
  refine ⟨Nat.le_of_ble_eq_true rfl, Nat.le_of_ble_eq_true rfl, (by first | assumption | rfl), ?_⟩
  refine c_Riscell (gp.rd wp) (fun y1 y2 => ?_) (fun y0 => ?_)
  · rw [gp.w, gp.h] at y2
    have eki := gp.ki c y1 (by omega)
    conv => whnf
    refine ⟨fun g => ?_, fun g => ?_⟩
    · exact absurd g (by simp [sx_cc])
    · skip
      conv => whnf
      refine ⟨(by first | assumption | rfl), ?_⟩
      try simp (disch := omega) only [Int.cast_ofNat_Int, up_s, up_a, up_i, mp_a, mp_ge]
      try simp only [r30]
      try simp only [eki]
      conv => whnf
      refine ⟨sx_ixI (by first | assumption | rfl) (by omega) (by omega), ?_⟩
      try simp (disch := omega) only [Int.cast_ofNat_Int, up_s, up_a, up_i, mp_a, mp_ge]
      try simp only [r30]
      try simp only [eki]
      conv => whnf
      refine ⟨fun g => ?_, fun g => ?_⟩
      · simp only [sx_cc, Classical.not_not] at g
        conv => whnf
        first | exact h0 (by omega) | exact h1 ⟨y1, y2, by assumption⟩
      · simp only [sx_cc, Classical.not_not] at g
        conv => whnf
        refine ⟨Nat.le_of_ble_eq_true rfl, Nat.le_of_ble_eq_true rfl, (by first | assumption | rfl), ?_⟩
        refine c_Rsee wp hT gp ⟨y1, y2⟩ ?_
        conv => whnf
        first | exact h0 (by omega) | exact h1 ⟨y1, y2, by assumption⟩
  · rw [gp.w, gp.h] at y0
    conv => whnf
    refine ⟨fun g => ?_, fun g => ?_⟩
    · skip
      conv => whnf
      first | exact h0 (by omega) | exact h1 ⟨y1, y2, by assumption⟩
    · exact absurd g (by simp [sx_cc])
end SXM14
