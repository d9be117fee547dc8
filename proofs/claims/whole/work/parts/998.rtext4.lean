/-! A TEXT IS READ, reference side (by wip/whole) -/
section SXS6
variable {X : sx_X} {Q : sx_R} {σ σ0 σ' σ1 σ2 s s' r r1 : sx_S} {tx : Int → Int} {n9 p i : Int} {S : Nat → sx_S} {J : Nat → Int} {m : Nat} {O : Option (Int × Int)}
theorem zRun_wT (hp : 2 ≤ p ∧ p ≤ 17) (hn : 0 ≤ n9 ∧ n9 ≤ 700) (h : zRun p tx n9 S J m) : ∀ c : Nat, c ≤ m → wT p (S c) ∧ (0 ≤ J c ∧ J c ≤ n9) ∧ (c : Int) ≤ J c
  | 0, _ => ⟨wT_ini hp h.1 h.2.1, by rw [h.2.2.1]; omega, by rw [h.2.2.1]; decide⟩
  | c + 1, hc => by
    have h1 := zRun_wT hp hn h c (by omega)
    have h2 := (h.2.2.2 c (by omega)).2
    have h3 := pLn_gt h1.2.1 h2
    exact ⟨wT_line hp hn.2 h1.2.1 h1.1 h2, by omega, by omega⟩
/-- how a text's telling ends -/
def zEnd (p : Int) (tx : Int → Int) (n9 : Int) (S : Nat → sx_S) (J : Nat → Int) (m : Nat) (O : Option (Int × Int)) : Prop := (O = none ∧ kT tx n9 (J m) = 36) ∨ (∃ k pl : Int, O = some (k, pl) ∧ ¬ kT tx n9 (J m) = 36 ∧ pLnF p tx n9 (S m) (J m) k pl)
theorem tx_L {c : Nat} (hR : zRun p tx n9 S J m) (hE : zEnd p tx n9 S J m O) (hc : c ≤ m) (h36 : ¬ kT tx n9 (J c) = 36) : ∃ O' : Option (Int × Int), zLine p tx n9 (S c) (J c) (S (c + 1)) (J (c + 1)) O' ∧ (O' = none → c < m) ∧ (∀ k pl : Int, O' = some (k, pl) → O = some (k, pl)) := by
  by_cases hlt : c < m
  · exact ⟨none, Or.inl ⟨rfl, (hR.2.2.2 c hlt).2⟩, fun _ => hlt, fun k pl z => absurd z (by simp)⟩
  · have e : c = m := by omega
    subst e
    rcases hE with ⟨_, h⟩ | ⟨k, pl, h1, _, h2⟩
    · exact absurd h h36
    · exact ⟨some (k, pl), Or.inr ⟨k, pl, rfl, h2⟩, fun z => absurd z (by simp), fun k' pl' z => h1.trans z⟩
theorem tx_E {c : Nat} (hR : zRun p tx n9 S J m) (hE : zEnd p tx n9 S J m O) (hc : c ≤ m) (h36 : kT tx n9 (J c) = 36) : c = m ∧ O = none := by
  by_cases hlt : c < m
  · exact absurd h36 (hR.2.2.2 c hlt).1
  · have e : c = m := by omega
    subst e
    rcases hE with ⟨h1, _⟩ | ⟨k, pl, _, h1, _⟩
    · exact ⟨rfl, h1⟩
    · exact absurd h36 h1
theorem cpl_ini (h : pIni p s) (h0 : pPl0 r) (h1 : ∀ c : Int, 48 ≤ c → c < 96 → r 127 c = 0 ∧ r 128 c = -1) (h2 : ∀ c : Int, 24 ≤ c → c < 48 → r 135 c = 0) (h3 : ∀ c : Int, 3 ≤ c → c < 6 → r 136 c = 0) (hb : hB5 r) : cpl p s r := by
  obtain ⟨⟨c0, c1, c4, c6, c13, c14, ck, cg, ch, cs, ce⟩, l2, f6, f7, f8, f9, w14, k1, k2⟩ := h
  obtain ⟨p18, p19, p20, p21, p22, p51, p23, p24, p25, p26, p27, p28, p29⟩ := h0
  refine ⟨⟨by omega, by omega, by omega, by omega, by omega, by omega, by omega⟩, ⟨by omega, by omega, by omega, by omega, by omega, by omega⟩, fun c y0 y1 => by rw [(h1 (48 + c) (by omega) (by omega)).1, ck c y0 y1], fun c y0 y1 => by rw [(h1 (48 + c) (by omega) (by omega)).2, cg c y0 y1], fun f y0 y1 => by omega, fun f y0 y1 => by omega, fun f y0 y1 => by rw [h2 (24 + f) (by omega) (by omega), ch f y0 y1], hb, fun k y0 y1 => ?_, fun k y y0 y1 z0 z1 => ?_⟩
  · have hf := fLk_in ⟨y0, y1⟩
    exact Or.inl ⟨h3 _ (by omega) (by omega), by rw [cs k y0 y1, ce k y0 y1]; decide⟩
  · rw [cs k y0 y1] at z0
    rw [ce k y0 y1] at z1
    omega
abbrev FRz (a j : Int) : Prop := FRh a j ∨ (a = 124 ∧ (j = 1 ∨ j = 6))
abbrev FRy (a j : Int) : Prop := (a = 124 ∧ (j = 1 ∨ (4 ≤ j ∧ j ≤ 29) ∨ (45 ≤ j ∧ j ≤ 53 ∧ ¬ j = 46 ∧ ¬ j = 47) ∨ (72 ≤ j ∧ j ≤ 75) ∨ j = 83 ∨ j = 85)) ∨ (127 ≤ a ∧ a ≤ 143) ∨ (154 ≤ a ∧ a ≤ 156 ∧ j = 0) ∨ (157 ≤ a ∧ a ≤ 160)
theorem frz_y {a j : Int} (z : FRz a j) : FRy a j := by
  rcases z with (z | z) | z
  · rcases z with z | z | z
    · exact Or.inl ⟨z.1, by omega⟩
    · exact Or.inr (Or.inl (by omega))
    · exact Or.inr (Or.inl (by omega))
  · exact Or.inr (Or.inl (by omega))
  · exact Or.inl ⟨z.1, by omega⟩
theorem fpl_x {a j : Int} (z : FPl a j) : FRx a j := by
  unfold FPl at z
  rcases z with z | z | z | z | z
  · exact Or.inl (by omega)
  · exact frx_k (by omega)
  · exact frx_k (by omega)
  · exact Or.inr (Or.inl ⟨by omega, by omega, by omega, by unfold fHalf; rw [if_neg (by omega), if_pos (by omega)]; omega⟩)
  · exact frx_3 (by omega)
theorem T6_pts : ptL.all (fun q => decide (¬ (q.1 = 124 ∧ (q.2.1 = 1 ∨ q.2.1 = 4 ∨ q.2.1 = 5 ∨ q.2.1 = 6 ∨ q.2.1 = 7)))) = true := by decide +kernel
theorem cpl_136 (hc : cpl p s r) {y : Int} (h : 3 ≤ y ∧ y < 6) : r 136 y = 0 ∨ r 136 y = 1 := by
  have hl := hc.2.2.2.2.2.2.2.2.1
  have h9 : ∀ k : Int, 0 ≤ k → k < 3 → 3 + fLk k = y → r 136 y = 0 ∨ r 136 y = 1 := fun k k0 k1 e => by
    rcases hl k k0 k1 with ⟨h1, _⟩ | ⟨h1, _⟩
    · rw [e] at h1; exact Or.inl h1
    · rw [e] at h1; exact Or.inr h1
  have hy : y = 3 ∨ y = 4 ∨ y = 5 := by omega
  rcases hy with e | e | e
  · exact h9 2 (by decide) (by decide) (by rw [e]; decide)
  · exact h9 0 (by decide) (by decide) (by rw [e]; decide)
  · exact h9 1 (by decide) (by decide) (by rw [e]; decide)
theorem FRh_pts : ptL.all (fun q => decide (¬ FRh q.1 q.2.1)) = true := by decide +kernel
theorem fr.ptrh {σ σ' : sx_S} (h : fr FRh σ σ') (hT : PT σ) : PT σ' := hT.fr (fun q hq => h _ _ (of_decide_eq_true (List.all_eq_true.mp FRh_pts q hq)))
set_option maxRecDepth 20000 in
theorem r_text {n0 nx : Int} (e0 : σ0 = sx_up σ 124 2 0) (hp : 2 ≤ p ∧ p ≤ 17) (hT : PT σ0) (hwd : rWd σ0) (en : σ0 124 1 = n0) (hn0 : 0 ≤ n0 ∧ n0 ≤ 700) (ht : ∀ j : Int, 0 ≤ j → j < n0 → σ0 125 j = tx j) (hsc : SCK σ0) (hb : hB5 σ0) (h0 : ¬ (0 ≤ nx ∧ nx ≤ n0) → Q (some (.inl (-2))) shM σ0) (hR : (0 ≤ nx ∧ nx ≤ n0) → zRun p tx nx S J m ∧ zEnd p tx nx S J m O) (hF : (0 ≤ nx ∧ nx ≤ n0) → ∀ (k pl : Int) (σ' : sx_S), O = some (k, pl) → fr FRz σ0 σ' → PT σ' → hB5 σ' → rFl σ' k pl → σ' 124 1 = 0 → Q (some (.inl (-1))) shM σ') (hS : (0 ≤ nx ∧ nx ≤ n0) → O = none → ∀ (σ' : sx_S), fr FRy σ0 σ' → GR 0 (fPl p (S m)) (aM0 (fPl p (S m))) σ' → rW (fPl p (S m)) σ' (aW0 (fPl p (S m))) → hB5 σ' → σ' 124 74 = 0 → σ' 124 75 = -1 → σ' 124 83 = 0 → σ' 124 85 = 0 → rFl σ' 0 (-1) → σ' 124 1 = 0 → Q (some (.inl (m : Int))) shM σ') : sx_Run X 201 [.inr (.inr 124), .inl nx] shM σ Q := by
  refine sx_rule2 (own := 12) (cd := kX12_text) (nL := 3) (by decide +kernel) (by decide +kernel) kX12_text_ok (by decide +kernel) (Nat.le_of_ble_eq_true rfl) [55] 40 (fun n t L st _ σ' => (t = 55 ∧ ∃ y : Int, st = [] ∧ L = [some (.inr (.inr (124))), some (.inl (nx)), some (.inl (y))] ∧ ((∃ c : Nat, y = (c : Int) ∧ c ≤ m ∧ rQ σ' tx nx (J c) ∧ cpl p (S c) σ' ∧ fr FRz σ0 σ' ∧ rFl σ' 0 (-1) ∧ σ' 124 1 = 0) ∧ (0 ≤ nx ∧ nx ≤ n0)) ∧ n = ((m : Int) - y).toNat)) ?_ ?_
  · skip
    conv => whnf
    refine ⟨(by first | assumption | rfl), ?_⟩
    try simp (disch := omega) only [Int.cast_ofNat_Int, up_s, up_a, up_i, mp_a, mp_ge]
    try simp only [en]
    rw [← e0]
    conv => whnf
    refine ⟨fun g => ?_, fun g => ?_⟩
    · simp only [sx_cc, Classical.not_not] at g
      conv => whnf
      refine ⟨fun q9 => by first | (simp at q9; done) | omega, ?_⟩
      exact h0 (by omega)
    · simp only [sx_cc, Classical.not_not] at g
      conv => whnf
      refine ⟨(by first | assumption | rfl), ?_⟩
      try simp (disch := omega) only [Int.cast_ofNat_Int, up_s, up_a, up_i, mp_a, mp_ge]
      try simp only [en]
      conv => whnf
      refine ⟨fun g => ?_, fun g => ?_⟩
      · simp only [sx_cc, Classical.not_not] at g
        conv => whnf
        refine ⟨(by first | assumption | rfl), ?_⟩
        try simp (disch := omega) only [Int.cast_ofNat_Int, up_s, up_a, up_i, mp_a, mp_ge]
        try simp only [en]
        conv => whnf
        refine ⟨(by first | assumption | rfl), ?_⟩
        try simp (disch := omega) only [Int.cast_ofNat_Int, up_s, up_a, up_i, mp_a, mp_ge]
        try simp only [en]
        conv => whnf
        refine ⟨(by first | assumption | rfl), ?_⟩
        try simp (disch := omega) only [Int.cast_ofNat_Int, up_s, up_a, up_i, mp_a, mp_ge]
        try simp only [en]
        conv => whnf
        refine ⟨(by first | assumption | rfl), ?_⟩
        try simp (disch := omega) only [Int.cast_ofNat_Int, up_s, up_a, up_i, mp_a, mp_ge]
        try simp only [en]
        conv => whnf
        refine ⟨(by first | assumption | rfl), ?_⟩
        try simp (disch := omega) only [Int.cast_ofNat_Int, up_s, up_a, up_i, mp_a, mp_ge]
        try simp only [en]
        generalize e5 : (sx_up (sx_up (sx_up (sx_up (sx_up σ0 124 6 nx) 124 1 0) 124 4 0) 124 5 (-1)) 124 7 0) = σ5
        have f5 : ∀ a j : Int, ¬ (a = 124 ∧ (j = 1 ∨ j = 4 ∨ j = 5 ∨ j = 6 ∨ j = 7)) → σ5 a j = σ0 a j := fun a j z => by rw [← e5, up_n (by omega), up_n (by omega), up_n (by omega), up_n (by omega), up_n (by omega)]
        have T5 : PT σ5 := hT.fr (fun q hq => f5 _ _ (by have h1 := of_decide_eq_true (List.all_eq_true.mp T6_pts q hq); omega))
        have v1 : σ5 124 1 = 0 := by rw [← e5, up_n (by omega), up_n (by omega), up_n (by omega), up_s]
        have v4 : σ5 124 4 = 0 := by rw [← e5, up_n (by omega), up_n (by omega), up_s]
        have v5 : σ5 124 5 = -1 := by rw [← e5, up_n (by omega), up_s]
        have v6 : σ5 124 6 = nx := by rw [← e5, up_n (by omega), up_n (by omega), up_n (by omega), up_n (by omega), up_s]
        have v7 : σ5 124 7 = 0 := by rw [← e5, up_s]
        conv => whnf
        refine ⟨Nat.le_of_ble_eq_true rfl, Nat.le_of_ble_eq_true rfl, (by first | assumption | rfl), ?_⟩
        refine c_Rplain T5 (fun σ6 f6 p6 a6 b6 d6 => ?_)
        have T6 := f6.ptpl T5
        conv => whnf
        refine ⟨Nat.le_of_ble_eq_true rfl, Nat.le_of_ble_eq_true rfl, (by first | assumption | rfl), ?_⟩
        refine c_Rtok T6 (tx := tx) (n9 := nx) ⟨pt_124_0 T6, (f6 _ _ (by unfold FPl; omega)).trans v6, by omega, fun j y0 y1 => by rw [f6 125 j (by unfold FPl; omega), f5 125 j (by omega)]; exact ht j y0 (by omega)⟩ (fun j y0 y1 => by rw [f6 126 j (by unfold FPl; omega), f5 126 j (by omega)]; exact hwd j y0 y1) (i := 0) ((f6 _ _ (by unfold FPl; omega)).trans v7) (by omega) (fun σ7 f7 k7 => ?_)
        conv => whnf
        refine ⟨_, ⟨rfl, _, rfl, rfl, ?_, rfl⟩⟩
        have hR9 := hR (by omega)
        have g6 : ∀ a j : Int, ¬ FRx a j → σ6 a j = σ5 a j := fun a j z => f6 a j (fun y => z (fpl_x y))
        refine ⟨⟨0, rfl, Nat.zero_le _, ?_, ?_, fun a j z => ?_, ⟨?_, ?_⟩, ?_⟩, by omega⟩
        · rw [hR9.1.2.2.1]
          exact ⟨fr.ptrt f7 T6, ⟨(f7 _ _ (by unfold FRt; omega)).trans (pt_124_0 T6), (f7 _ _ (by unfold FRt; omega)).trans ((f6 _ _ (by unfold FPl; omega)).trans v6), by omega, fun j y0 y1 => by rw [f7 125 j (by unfold FRt; omega), f6 125 j (by unfold FPl; omega), f5 125 j (by omega)]; exact ht j y0 (by omega)⟩, fun j y0 y1 => by rw [f7 126 j (by unfold FRt; omega), f6 126 j (by unfold FPl; omega), f5 126 j (by omega)]; exact hwd j y0 y1, by omega, k7⟩
        · refine cpl_fr hp (cpl_ini hR9.1.1 p6 a6 b6 d6 (fun f y0 y1 => by rw [f6 134 _ (by unfold FPl; omega), f5 134 _ (by omega)]; exact hb f y0 y1)) (fun _ _ _ => rfl) (fun a j z => f7 a j (by unfold FRt; omega))
        · rw [f7 a j (fun y => z (Or.inl (Or.inl (frx_t y)))), g6 a j (fun y => z (Or.inl (Or.inl y))), f5 a j (fun y => z (by rcases y with ⟨y1, y2⟩; by_cases e : j = 1 ∨ j = 6; exact Or.inr ⟨y1, e⟩; exact Or.inl (Or.inl (Or.inl ⟨y1, by omega⟩))))]
        · rw [f7 _ _ (by unfold FRt; omega), f6 _ _ (by unfold FPl; omega)]; exact v4
        · rw [f7 _ _ (by unfold FRt; omega), f6 _ _ (by unfold FPl; omega)]; exact v5
        · rw [f7 _ _ (by unfold FRt; omega), f6 _ _ (by unfold FPl; omega)]; exact v1
      · simp only [sx_cc, Classical.not_not] at g
        conv => whnf
        refine ⟨fun q9 => by first | (simp at q9; done) | omega, ?_⟩
        exact h0 (by omega)
  · intro n t L st σ' hk
    obtain ⟨rfl, y, rfl, rfl, hc, rfl⟩ := hk
    obtain ⟨⟨c, eyc, hcm, hqi, hcc, hfi, hfl, h01⟩, hn9⟩ := hc
    have hR9 := hR hn9
    have hwc := zRun_wT hp (by omega) hR9.1 c hcm
    have hJc := hwc.2
    conv => whnf
    refine ⟨(by first | assumption | rfl), ?_⟩
    try simp (disch := omega) only [Int.cast_ofNat_Int, up_s, up_a, up_i, mp_a, mp_ge]
    try simp only [en]
    conv => whnf
    refine ⟨fun g => ?_, fun g => ?_⟩
    · simp only [sx_cc, Classical.not_not] at g
      conv => whnf
      refine ⟨Nat.le_of_ble_eq_true rfl, Nat.le_of_ble_eq_true rfl, (by first | assumption | rfl), ?_⟩
      obtain ⟨ecm, eO⟩ := tx_E hR9.1 hR9.2 hcm ((pKz_21 hqi.tk.2.2).2.2.1.mp g)
      subst ecm
      refine c_Rkeept2 (wP_F hwc.1) hqi.pt (hsc.of (fun j => hfi 145 j (by unfold FRz FRh FRx; omega)) (hfi 124 56 (by unfold FRz FRh FRx; omega))) (fun j y0 y1 => cpl_136 hcc ⟨y0, y1⟩) (fun r1 hK => cpl_rP hp hcc hwc.1 hK) (fun r1 σ9 hK f9 g9 w9 b1 b2 b3 b4 => ?_)
      conv => whnf
      refine ⟨fun q9 => by first | (simp at q9; done) | omega, ?_⟩
      rw [eyc]
      refine hS hn9 eO _ (fun a j z => ?_) g9 w9 (fun f y0 y1 => ?_) b1 b2 b3 b4 ⟨?_, ?_⟩ ?_
      · rw [f9 a j (by unfold FRy at z; unfold FBr; omega), hK.1 a j (by unfold FRy at z; omega) (by unfold FRy at z; omega)]; exact hfi a j (fun y => z (frz_y y))
      · rw [f9 _ _ (by unfold FBr; omega), hK.1 _ _ (by omega) (by rw [show fHalf 134 = 5 by decide]; omega)]; exact hcc.2.2.2.2.2.2.2.1 f y0 y1
      · rw [f9 _ _ (by unfold FBr; omega), hK.1 _ _ (by omega) (by omega)]; exact hfl.1
      · rw [f9 _ _ (by unfold FBr; omega), hK.1 _ _ (by omega) (by omega)]; exact hfl.2
      · rw [f9 _ _ (by unfold FBr; omega), hK.1 _ _ (by omega) (by omega)]; exact h01
    · simp only [sx_cc, Classical.not_not] at g
      conv => whnf
      refine ⟨Nat.le_of_ble_eq_true rfl, Nat.le_of_ble_eq_true rfl, (by first | assumption | rfl), ?_⟩
      have h36 : ¬ kT tx nx (J c) = 36 := fun z => g ((pKz_21 hqi.tk.2.2).2.2.1.mpr z)
      obtain ⟨O9, hZ, hZn, hZs⟩ := tx_L hR9.1 hR9.2 hcm h36
      refine r_line hqi hp (by omega) hcc hwc.1 hZ (fun k pl σ8 hO hf8 hb8 hl8 => ?_) (fun hO σ8 hc8 hq8 hf8 h45 => ?_)
      · skip
        conv => whnf
        refine ⟨fun g => ?_, fun g => ?_⟩
        · exact absurd g (by simp [sx_cc])
        · skip
          conv => whnf
          refine ⟨fun q9 => by first | (simp at q9; done) | omega, ?_⟩
          exact hF hn9 k pl _ (hZs k pl hO) (fun a j z => (hf8 a j (fun y => z (Or.inl y))).trans (hfi a j z)) (fr.ptrh hf8 hqi.pt) hb8 hl8 ((hf8 _ _ (by unfold FRh FRx; omega)).trans h01)
      · have hlt := hZn hO
        conv => whnf
        refine ⟨fun g => ?_, fun g => ?_⟩
        · skip
          conv => whnf
          refine ⟨⟨by omega, by omega⟩, ?_⟩
          conv => whnf
          refine ⟨_, ?_, ⟨rfl, _, rfl, rfl, ?_, rfl⟩⟩
          · omega
          · exact ⟨⟨c + 1, by rw [eyc]; omega, hlt, hq8, hc8, fun a j z => (hf8 a j (fun y => z (Or.inl y))).trans (hfi a j z), ⟨h45.1.trans hfl.1, h45.2.trans hfl.2⟩, (hf8 _ _ (by unfold FRh FRx; omega)).trans h01⟩, hn9⟩
        · exact absurd g (by simp [sx_cc])
end SXS6
