/-! WAYS THAT LEAVE LEAST, class side (by wip/whole) -/
section SXN5
variable {X : sx_X} {Q : sx_R} {p to N : Int} {σ σ0 σ' σ1 σ2 : sx_S} {P : aP} {A : aM} {G : Int → Int}
def fTl (P : aP) (A : aM) : Int → Int := fun c => if P.ki c = 0 ∧ aTop A c = -1 then 101 else 1
theorem fTl_o (n : Int) : fTl P A n = 1 ∨ fTl P A n = 101 := by unfold fTl; split; exact Or.inr rfl; exact Or.inl rfl
theorem or01 {a b : Int} (ha : a = 0 ∨ a = 1) (hb : b = 0 ∨ b = 1) : (sx_or a b = 0 ∨ sx_or a b = 1) ∧ (sx_or a b = 0 → a = 0 ∧ b = 0) := by
  rcases ha with e | e <;> rcases hb with f | f <;> subst e <;> subst f <;> decide
theorem cnS_full {F : Int → Int} (hN : 0 ≤ N) (h : ∀ c : Int, 0 ≤ c → c < N → F c = G c) : N ≤ cnS N G F := by
  have h1 : ∀ k : Nat, (k : Int) ≤ N → fCnt (fun c => decide (F c = G c)) k = k := by
    intro k
    induction k with
    | zero => intro _; rfl
    | succ k ih =>
      intro hk
      show fCnt (fun c => decide (F c = G c)) k + (if decide (F (k : Int) = G (k : Int)) = true then 1 else 0) = _
      rw [ih (by omega), if_pos (decide_eq_true (h k (by omega) (by omega)))]
      omega
  unfold cnS
  rw [h1 N.toNat (by omega)]
  omega
theorem cnS_1 {F : Int → Int} (hto : 0 ≤ to ∧ to < N) (h : F to = G to) : 1 ≤ cnS N G F := by
  have h2 := fCnt_less (b := fun _ => false) (b' := fun c => decide (F c = G c)) hto.1 N.toNat (by omega) (fun i _ _ z => absurd z (by simp)) rfl (decide_eq_true h)
  have h3 := fCnt_le (fun _ => false) N.toNat
  unfold cnS
  omega
abbrev pRt (σ σ' : sx_S) : Prop := ∀ b i : Int, ¬ (118 ≤ b ∧ b ≤ 120) → ¬ (b = 117 ∧ (i = 0 ∨ i = 1)) → σ' b i = σ b i
theorem pRt_pts : ptL.all (fun q => decide (¬ (118 ≤ q.1 ∧ q.1 ≤ 120) ∧ ¬ (q.1 = 117 ∧ (q.2.1 = 0 ∨ q.2.1 = 1)))) = true := by decide +kernel
theorem pRt_pt (h : pRt σ σ') (hT : PT σ) : PT σ' := hT.fr (fun q hq => by have h1 := of_decide_eq_true (List.all_eq_true.mp pRt_pts q hq); exact h _ _ h1.1 h1.2)
theorem pRt_cp (h : pRt σ σ') (hp : isP p) (g : cP p σ P) : cP p σ' P := g.of (fun a i z1 z2 => h _ _ (by rcases hp with h9 | h9 <;> omega) (by rcases hp with h9 | h9 <;> omega))
set_option maxRecDepth 20000 in
theorem c_find (hp : isP p) (wp : wP P) (hT : PT σ) (gp : cP p σ P) (hrd : ∀ e : Int, 0 ≤ e → e < 48 → σ 54 e = aTop A e) (hMn : pMn P (P.w * P.h) to (fTl P A) G) {a : Int} (ha : 0 ≤ a ∧ a < (P.w * P.h)) (hto : 0 ≤ to ∧ to < (P.w * P.h)) (h : ∀ σ', pRt σ σ' → σ' 117 0 = (G a).tdiv 100 → σ' 117 1 = G a % 100 → (∀ k : Int, 0 ≤ k → k ≤ G a % 100 → σ' 118 k = fCh P (fTl P A) G a k.toNat) → Q none shM σ') : sx_Run X 65 [.inr (.inr 117), .inr (.inr p), .inr (.inr 54), .inl a, .inl to] shM σ Q := by
  have q0 := lkP0 hp
  have q1 := lkP1 hp
  have v4 := wp.wh
  have hN : (P.w * P.h) = P.w * P.h ∧ (P.w * P.h) ≤ 48 := ⟨rfl, by omega⟩
  have hga := pMn_st hN hMn ha
  refine sx_rule2 (own := 7) (cd := kX7_find) (nL := 9) (by decide +kernel) (by decide +kernel) kX7_find_ok (by decide +kernel) (Nat.le_of_ble_eq_true rfl) [9, 88, 106] 40 (fun n t L st _ σ' => (t = 9 ∧ ∃ i : Int, ∃ w7 : Option sx_V, ∃ w8 : Option sx_V, st = [] ∧ L = [some (.inr (.inr (117))), some (.inr (.inr (p))), some (.inr (.inr (54))), some (.inl (a)), some (.inl (to)), some (.inl ((P.w * P.h))), some (.inl (i)), w7, w8] ∧ (pRt σ σ' ∧ (∀ d : Int, 0 ≤ d → d < i → σ' 119 d = fTl P A d ∧ σ' 120 d = 1000000) ∧ 0 ≤ i ∧ i ≤ (P.w * P.h)) ∧ n = (1000000 - i).toNat) ∨ (t = 88 ∧ ∃ v r : Int, ∃ w8 : Option sx_V, st = [] ∧ L = [some (.inr (.inr (117))), some (.inr (.inr (p))), some (.inr (.inr (54))), some (.inl (a)), some (.inl (to)), some (.inl ((P.w * P.h))), some (.inl (v)), some (.inl (r)), w8] ∧ (pRt σ σ' ∧ (∀ d : Int, 0 ≤ d → d < (P.w * P.h) → σ' 119 d = fTl P A d) ∧ (∀ d : Int, 0 ≤ d → d < (P.w * P.h) → G d ≤ σ' 120 d ∧ σ' 120 d ≤ 1000000) ∧ σ' 120 to = 0 ∧ (¬ (∀ c : Int, 0 ≤ c → c < (P.w * P.h) → σ' 120 c = G c) → r + 1 ≤ cnS (P.w * P.h) G (σ' 120)) ∧ (v = 0 → (∀ c : Int, 0 ≤ c → c < (P.w * P.h) → σ' 120 c = G c)) ∧ (v = 0 ∨ v = 1) ∧ 0 ≤ r ∧ r ≤ (P.w * P.h)) ∧ n = (((P.w * P.h) - r) * 1000 + 500).toNat) ∨ (t = 106 ∧ ∃ v r i : Int, st = [] ∧ L = [some (.inr (.inr (117))), some (.inr (.inr (p))), some (.inr (.inr (54))), some (.inl (a)), some (.inl (to)), some (.inl ((P.w * P.h))), some (.inl (v)), some (.inl (r)), some (.inl (i))] ∧ (∃ Fs : Int → Int, (∀ d : Int, 0 ≤ d → d < (P.w * P.h) → G d ≤ Fs d ∧ Fs d ≤ 1000000) ∧ Fs to = 0 ∧ (¬ (∀ c : Int, 0 ≤ c → c < (P.w * P.h) → Fs c = G c) → r + 1 ≤ cnS (P.w * P.h) G Fs) ∧ pRt σ σ' ∧ (∀ d : Int, 0 ≤ d → d < (P.w * P.h) → σ' 119 d = fTl P A d) ∧ (∀ d : Int, 0 ≤ d → d < (P.w * P.h) → G d ≤ σ' 120 d ∧ σ' 120 d ≤ Fs d) ∧ (∀ c m : Int, 0 ≤ c → c < i → pNb P c m → Fs m = G m → σ' 120 c ≤ G m + fTl P A m) ∧ (v = 0 → ∀ c : Int, 0 ≤ c → c < (P.w * P.h) → σ' 120 c = Fs c) ∧ (v = 0 ∨ v = 1) ∧ 0 ≤ r ∧ r < (P.w * P.h) ∧ 0 ≤ i ∧ i ≤ (P.w * P.h)) ∧ n = (((P.w * P.h) - r) * 1000 + 400 - i).toNat)) ?_ ?_
  · skip
    conv => whnf
    refine ⟨Nat.le_of_ble_eq_true rfl, Nat.le_of_ble_eq_true rfl, (by first | assumption | rfl), ?_⟩
    refine c_Pcells hp (gp.pd wp) ?_
    rw [gp.w, gp.h]
    conv => whnf
    refine ⟨_, Or.inl ⟨rfl, _, _, _, rfl, rfl, ?_, rfl⟩⟩
    exact ⟨fun b i z1 z2 => rfl, fun d y0 y1 => by omega, by omega, by omega⟩
  · intro n t L st σ' hk
    rcases hk with hk | hk | hk
    · obtain ⟨rfl, i, w7, w8, rfl, rfl, hc, rfl⟩ := hk
      obtain ⟨xc, hini, hi0, hi1⟩ := hc
      have Tc := pRt_pt xc hT
      have gc := pRt_cp xc hp gp
      have a3 := pt_117_3 Tc
      have a4 := pt_117_4 Tc
      have t2 := ptP_2 Tc hp
      conv => whnf
      refine ⟨fun g => ?_, fun g => ?_⟩
      · simp only [sx_cc, Classical.not_not] at g
        conv => whnf
        refine ⟨(by first | assumption | rfl), ?_⟩
        try simp (disch := omega) only [Int.cast_ofNat_Int, up_s, up_a, up_i, mp_a, mp_ge]
        try simp only [a3]
        try simp only [a4]
        try simp only [t2]
        try simp only [eki]
        try simp only [erd]
        try simp only [eca]
        conv => whnf
        refine ⟨sx_ixI (by first | assumption | rfl) (by omega) (by omega), ?_⟩
        conv => whnf
        refine ⟨_, ?_, Or.inr (Or.inl ⟨rfl, _, _, _, rfl, rfl, ?_, rfl⟩)⟩
        · omega
        · have hgt := pMn_to hMn
          refine ⟨fun b j z1 z2 => by rw [up_a (by omega)]; exact xc b j z1 z2, fun d y0 y1 => by rw [up_a (by decide)]; exact (hini d y0 (by omega)).1, fun d y0 y1 => ?_, up_s, fun _ => ?_, fun z9 => absurd z9 (by decide), Or.inr rfl, by omega, by omega⟩
          · by_cases e9 : d = to
            · rw [e9, up_s]; omega
            · rw [up_i e9, (hini d y0 (by omega)).2]; have h9 := pMn_st hN hMn (c := d) ⟨y0, y1⟩; omega
          · have h9 := cnS_1 (G := G) (F := sx_up σ' 120 to 0 120) hto (by rw [up_s]; exact hgt.symm); omega
      · simp only [sx_cc, Classical.not_not] at g
        have eki := gc.ki i hi0 (by omega)
        have erd : σ' 54 i = aTop A i := (xc _ _ (by decide) (by omega)).trans (hrd i hi0 (by omega))
        conv => whnf
        refine ⟨(by first | assumption | rfl), ?_⟩
        try simp (disch := omega) only [Int.cast_ofNat_Int, up_s, up_a, up_i, mp_a, mp_ge]
        try simp only [a3]
        try simp only [a4]
        try simp only [t2]
        try simp only [eki]
        try simp only [erd]
        try simp only [eca]
        conv => whnf
        refine ⟨sx_ixI (by first | assumption | rfl) (by omega) (by omega), ?_⟩
        try simp (disch := omega) only [Int.cast_ofNat_Int, up_s, up_a, up_i, mp_a, mp_ge]
        try simp only [a3]
        try simp only [a4]
        try simp only [t2]
        try simp only [eki]
        try simp only [erd]
        try simp only [eca]
        conv => whnf
        refine ⟨fun g => ?_, fun g => ?_⟩
        · simp only [sx_cc, Classical.not_not] at g
          have etl : fTl P A i = 1 := if_neg (fun z9 => absurd z9.1 (by assumption))
          conv => whnf
          refine ⟨(by first | assumption | rfl), ?_⟩
          try simp (disch := omega) only [Int.cast_ofNat_Int, up_s, up_a, up_i, mp_a, mp_ge]
          try simp only [a3]
          try simp only [a4]
          try simp only [t2]
          try simp only [eki]
          try simp only [erd]
          try simp only [eca]
          conv => whnf
          refine ⟨fun g => ?_, fun g => ?_⟩
          · skip
            conv => whnf
            refine ⟨sx_ixI (by first | assumption | rfl) (by omega) (by omega), ?_⟩
            conv => whnf
            refine ⟨(by first | assumption | rfl), ?_⟩
            try simp (disch := omega) only [Int.cast_ofNat_Int, up_s, up_a, up_i, mp_a, mp_ge]
            try simp only [a3]
            try simp only [a4]
            try simp only [t2]
            try simp only [eki]
            try simp only [erd]
            try simp only [eca]
            conv => whnf
            refine ⟨sx_ixI (by first | assumption | rfl) (by omega) (by omega), ?_⟩
            conv => whnf
            refine ⟨⟨by omega, by omega⟩, ?_⟩
            conv => whnf
            refine ⟨_, ?_, Or.inl ⟨rfl, _, _, _, rfl, rfl, ?_, rfl⟩⟩
            · omega
            · refine ⟨fun b j z1 z2 => by rw [up_a (by omega), up_a (by omega)]; exact xc b j z1 z2, fun d y0 y1 => ?_, by omega, by omega⟩
              rw [up_a (show ¬ (119 : Int) = 120 by decide)]
              by_cases e9 : d = i
              · rw [e9, up_s, up_s, etl]; exact ⟨rfl, rfl⟩
              · rw [up_i e9, up_i e9, up_a (show ¬ (120 : Int) = 119 by decide)]; exact hini d y0 (by omega)
          · exact absurd g (by simp [sx_cc])
        · simp only [sx_cc, Classical.not_not] at g
          conv => whnf
          refine ⟨sx_ixI (by first | assumption | rfl) (by omega) (by omega), ?_⟩
          try simp (disch := omega) only [Int.cast_ofNat_Int, up_s, up_a, up_i, mp_a, mp_ge]
          try simp only [a3]
          try simp only [a4]
          try simp only [t2]
          try simp only [eki]
          try simp only [erd]
          try simp only [eca]
          conv => whnf
          refine ⟨fun g => ?_, fun g => ?_⟩
          · simp only [sx_cc, Classical.not_not] at g
            have etl : fTl P A i = 1 := if_neg (fun z9 => absurd z9.2 (by assumption))
            conv => whnf
            refine ⟨(by first | assumption | rfl), ?_⟩
            try simp (disch := omega) only [Int.cast_ofNat_Int, up_s, up_a, up_i, mp_a, mp_ge]
            try simp only [a3]
            try simp only [a4]
            try simp only [t2]
            try simp only [eki]
            try simp only [erd]
            try simp only [eca]
            conv => whnf
            refine ⟨fun g => ?_, fun g => ?_⟩
            · skip
              conv => whnf
              refine ⟨sx_ixI (by first | assumption | rfl) (by omega) (by omega), ?_⟩
              conv => whnf
              refine ⟨(by first | assumption | rfl), ?_⟩
              try simp (disch := omega) only [Int.cast_ofNat_Int, up_s, up_a, up_i, mp_a, mp_ge]
              try simp only [a3]
              try simp only [a4]
              try simp only [t2]
              try simp only [eki]
              try simp only [erd]
              try simp only [eca]
              conv => whnf
              refine ⟨sx_ixI (by first | assumption | rfl) (by omega) (by omega), ?_⟩
              conv => whnf
              refine ⟨⟨by omega, by omega⟩, ?_⟩
              conv => whnf
              refine ⟨_, ?_, Or.inl ⟨rfl, _, _, _, rfl, rfl, ?_, rfl⟩⟩
              · omega
              · refine ⟨fun b j z1 z2 => by rw [up_a (by omega), up_a (by omega)]; exact xc b j z1 z2, fun d y0 y1 => ?_, by omega, by omega⟩
                rw [up_a (show ¬ (119 : Int) = 120 by decide)]
                by_cases e9 : d = i
                · rw [e9, up_s, up_s, etl]; exact ⟨rfl, rfl⟩
                · rw [up_i e9, up_i e9, up_a (show ¬ (120 : Int) = 119 by decide)]; exact hini d y0 (by omega)
            · exact absurd g (by simp [sx_cc])
          · simp only [sx_cc, Classical.not_not] at g
            have etl : fTl P A i = 101 := if_pos ⟨by assumption, by assumption⟩
            conv => whnf
            refine ⟨(by first | assumption | rfl), ?_⟩
            try simp (disch := omega) only [Int.cast_ofNat_Int, up_s, up_a, up_i, mp_a, mp_ge]
            try simp only [a3]
            try simp only [a4]
            try simp only [t2]
            try simp only [eki]
            try simp only [erd]
            try simp only [eca]
            conv => whnf
            refine ⟨fun g => ?_, fun g => ?_⟩
            · exact absurd g (by simp [sx_cc])
            · skip
              conv => whnf
              refine ⟨sx_ixI (by first | assumption | rfl) (by omega) (by omega), ?_⟩
              conv => whnf
              refine ⟨(by first | assumption | rfl), ?_⟩
              try simp (disch := omega) only [Int.cast_ofNat_Int, up_s, up_a, up_i, mp_a, mp_ge]
              try simp only [a3]
              try simp only [a4]
              try simp only [t2]
              try simp only [eki]
              try simp only [erd]
              try simp only [eca]
              conv => whnf
              refine ⟨sx_ixI (by first | assumption | rfl) (by omega) (by omega), ?_⟩
              conv => whnf
              refine ⟨⟨by omega, by omega⟩, ?_⟩
              conv => whnf
              refine ⟨_, ?_, Or.inl ⟨rfl, _, _, _, rfl, rfl, ?_, rfl⟩⟩
              · omega
              · refine ⟨fun b j z1 z2 => by rw [up_a (by omega), up_a (by omega)]; exact xc b j z1 z2, fun d y0 y1 => ?_, by omega, by omega⟩
                rw [up_a (show ¬ (119 : Int) = 120 by decide)]
                by_cases e9 : d = i
                · rw [e9, up_s, up_s, etl]; exact ⟨rfl, rfl⟩
                · rw [up_i e9, up_i e9, up_a (show ¬ (120 : Int) = 119 by decide)]; exact hini d y0 (by omega)
    · obtain ⟨rfl, v, r, w8, rfl, rfl, hc, rfl⟩ := hk
      obtain ⟨xc, hto9, hF, hFt, hcn, hv0, hv1, hr0, hr1⟩ := hc
      have Tc := pRt_pt xc hT
      have gc := pRt_cp xc hp gp
      have a3 := pt_117_3 Tc
      have a4 := pt_117_4 Tc
      have t2 := ptP_2 Tc hp
      conv => whnf
      refine ⟨fun g => ?_, fun g => ?_⟩
      · simp only [sx_cc, Classical.not_not] at g
        conv => whnf
        refine ⟨(by first | assumption | rfl), ?_⟩
        try simp (disch := omega) only [Int.cast_ofNat_Int, up_s, up_a, up_i, mp_a, mp_ge]
        try simp only [a3]
        try simp only [a4]
        try simp only [t2]
        try simp only [eki]
        try simp only [erd]
        try simp only [eca]
        conv => whnf
        refine ⟨sx_ixI (by first | assumption | rfl) (by omega) (by omega), ?_⟩
        try simp (disch := omega) only [Int.cast_ofNat_Int, up_s, up_a, up_i, mp_a, mp_ge]
        try simp only [a3]
        try simp only [a4]
        try simp only [t2]
        try simp only [eki]
        try simp only [erd]
        try simp only [eca]
        conv => whnf
        refine ⟨by omega, (show sx_r32 _ from (by have h9 := hF a ha.1 ha.2; have h8 := tm_bd (show 0 ≤ σ' 120 a by omega) (show (0 : Int) < 100 by decide); exact ⟨by omega, by omega⟩)), ?_⟩
        conv => whnf
        refine ⟨(by first | assumption | rfl), ?_⟩
        try simp (disch := omega) only [Int.cast_ofNat_Int, up_s, up_a, up_i, mp_a, mp_ge]
        try simp only [a3]
        try simp only [a4]
        try simp only [t2]
        try simp only [eki]
        try simp only [erd]
        try simp only [eca]
        conv => whnf
        refine ⟨Nat.le_of_ble_eq_true rfl, Nat.le_of_ble_eq_true rfl, (by first | assumption | rfl), ?_⟩
        have eall : (∀ c : Int, 0 ≤ c → c < (P.w * P.h) → σ' 120 c = G c) := by
          by_cases q : (∀ c : Int, 0 ≤ c → c < (P.w * P.h) → σ' 120 c = G c)
          · exact q
          · by_cases q0 : v = 0
            · exact hv0 q0
            · have h9 := hcn q
              exact cnS_all (by omega) (by omega)
        generalize e7 : sx_up σ' 117 0 _ = σ7
        have x7 : pRt σ σ7 := fun b j z1 z2 => by rw [← e7, up_n (by omega)]; exact xc b j z1 z2
        have y7 : ∀ b j : Int, ¬ (b = 117 ∧ j = 0) → σ7 b j = σ' b j := fun b j z9 => by rw [← e7, up_n z9]
        refine c_follow (G := G) (tl := fTl P A) hp wp (pRt_pt x7 hT) (pRt_cp x7 hp gp) (fun d y0 y1 => (y7 _ _ (by omega)).trans (hto9 d y0 y1)) (fun d y0 y1 => (y7 _ _ (by omega)).trans (eall d y0 y1)) fTl_o hMn ha hto ?_
        intro σ8 x8 s8 c8
        conv => whnf
        refine ⟨rfl, ?_⟩
        have e0 : σ8 117 0 = (G a).tdiv 100 := by rw [x8 _ _ (by decide) (by decide), ← e7, up_s, eall a ha.1 ha.2]
        exact h _ (fun b j z1 z2 => (x8 b j (by omega) (by omega)).trans (x7 b j z1 z2)) e0 s8 c8
      · simp only [sx_cc, Classical.not_not] at g
        conv => whnf
        refine ⟨fun g => ?_, fun g => ?_⟩
        · simp only [sx_cc, Classical.not_not] at g
          conv => whnf
          refine ⟨(by first | assumption | rfl), ?_⟩
          try simp (disch := omega) only [Int.cast_ofNat_Int, up_s, up_a, up_i, mp_a, mp_ge]
          try simp only [a3]
          try simp only [a4]
          try simp only [t2]
          try simp only [eki]
          try simp only [erd]
          try simp only [eca]
          conv => whnf
          refine ⟨sx_ixI (by first | assumption | rfl) (by omega) (by omega), ?_⟩
          try simp (disch := omega) only [Int.cast_ofNat_Int, up_s, up_a, up_i, mp_a, mp_ge]
          try simp only [a3]
          try simp only [a4]
          try simp only [t2]
          try simp only [eki]
          try simp only [erd]
          try simp only [eca]
          conv => whnf
          refine ⟨by omega, (show sx_r32 _ from (by have h9 := hF a ha.1 ha.2; have h8 := tm_bd (show 0 ≤ σ' 120 a by omega) (show (0 : Int) < 100 by decide); exact ⟨by omega, by omega⟩)), ?_⟩
          conv => whnf
          refine ⟨(by first | assumption | rfl), ?_⟩
          try simp (disch := omega) only [Int.cast_ofNat_Int, up_s, up_a, up_i, mp_a, mp_ge]
          try simp only [a3]
          try simp only [a4]
          try simp only [t2]
          try simp only [eki]
          try simp only [erd]
          try simp only [eca]
          conv => whnf
          refine ⟨Nat.le_of_ble_eq_true rfl, Nat.le_of_ble_eq_true rfl, (by first | assumption | rfl), ?_⟩
          have eall : (∀ c : Int, 0 ≤ c → c < (P.w * P.h) → σ' 120 c = G c) := by
            by_cases q : (∀ c : Int, 0 ≤ c → c < (P.w * P.h) → σ' 120 c = G c)
            · exact q
            · by_cases q0 : v = 0
              · exact hv0 q0
              · have h9 := hcn q
                exact cnS_all (by omega) (by omega)
          generalize e7 : sx_up σ' 117 0 _ = σ7
          have x7 : pRt σ σ7 := fun b j z1 z2 => by rw [← e7, up_n (by omega)]; exact xc b j z1 z2
          have y7 : ∀ b j : Int, ¬ (b = 117 ∧ j = 0) → σ7 b j = σ' b j := fun b j z9 => by rw [← e7, up_n z9]
          refine c_follow (G := G) (tl := fTl P A) hp wp (pRt_pt x7 hT) (pRt_cp x7 hp gp) (fun d y0 y1 => (y7 _ _ (by omega)).trans (hto9 d y0 y1)) (fun d y0 y1 => (y7 _ _ (by omega)).trans (eall d y0 y1)) fTl_o hMn ha hto ?_
          intro σ8 x8 s8 c8
          conv => whnf
          refine ⟨rfl, ?_⟩
          have e0 : σ8 117 0 = (G a).tdiv 100 := by rw [x8 _ _ (by decide) (by decide), ← e7, up_s, eall a ha.1 ha.2]
          exact h _ (fun b j z1 z2 => (x8 b j (by omega) (by omega)).trans (x7 b j z1 z2)) e0 s8 c8
        · simp only [sx_cc, Classical.not_not] at g
          conv => whnf
          refine ⟨_, ?_, Or.inr (Or.inr (⟨rfl, _, _, _, rfl, rfl, ?_, rfl⟩))⟩
          · omega
          · exact ⟨σ' 120, hF, hFt, hcn, xc, hto9, fun d y0 y1 => ⟨(hF d y0 y1).1, Int.le_refl _⟩, fun c m y0 y1 => by omega, fun _ c y0 y1 => rfl, Or.inl rfl, hr0, by omega, by omega, by omega⟩
    · obtain ⟨rfl, v, r, i, rfl, rfl, hc, rfl⟩ := hk
      obtain ⟨Fs, hFs, hFst, hcn, xc, hto9, hF, hrl, hv0, hv1, hr0, hr1, hi0, hi1⟩ := hc
      have Tc := pRt_pt xc hT
      have gc := pRt_cp xc hp gp
      have a3 := pt_117_3 Tc
      have a4 := pt_117_4 Tc
      have t2 := ptP_2 Tc hp
      conv => whnf
      refine ⟨fun g => ?_, fun g => ?_⟩
      · simp only [sx_cc, Classical.not_not] at g
        conv => whnf
        refine ⟨⟨by omega, by omega⟩, ?_⟩
        conv => whnf
        refine ⟨_, ?_, Or.inr (Or.inl ⟨rfl, _, _, _, rfl, rfl, ?_, rfl⟩)⟩
        · omega
        · have ei : i = (P.w * P.h) := by omega
          have hgt := pMn_to hMn
          have hrs := round_s (F := Fs) (F' := σ' 120) rfl fTl_o hMn.1 hMn.2.2 (hFst.trans hgt.symm) (fun c y0 y1 => (hF c y0 y1).1) (fun c y0 y1 => (hF c y0 y1).2) (fun c m y0 y1 => hrl c m y0 (by omega))
          have hall : (∀ c : Int, 0 ≤ c → c < (P.w * P.h) → Fs c = G c) → (∀ c : Int, 0 ≤ c → c < (P.w * P.h) → σ' 120 c = G c) := fun z9 c y0 y1 => by have h9 := z9 c y0 y1; have h8 := hF c y0 y1; omega
          refine ⟨xc, hto9, fun d y0 y1 => ?_, ?_, fun z9 => ?_, fun z9 => ?_, hv1, by omega, by omega⟩
          · have h9 := hF d y0 y1; have h8 := hFs d y0 y1; omega
          · have h9 := hF to hto.1 hto.2; omega
          · rcases hrs with q | q
            · exact absurd (hall q) z9
            · have h9 := hcn (fun w => z9 (hall w)); omega
          · rcases hrs with q | q
            · exact hall q
            · obtain ⟨c, c1, c2, c3⟩ := q.2
              exact absurd (hv0 z9 c c1 c2) c3
      · simp only [sx_cc, Classical.not_not] at g
        conv => whnf
        refine ⟨Nat.le_of_ble_eq_true rfl, Nat.le_of_ble_eq_true rfl, (by first | assumption | rfl), ?_⟩
        refine c_low (G := G) (tl := fTl P A) hp wp Tc gc hto9 fTl_o (fun d y0 y1 => by have h9 := hF d y0 y1; have h8 := (pMn_st hN hMn (c := d) ⟨y0, y1⟩).1; have h7 := hFs d y0 y1; omega) (fun d y0 y1 => (hF d y0 y1).1) (fun d y0 y1 => (pMn_st hN hMn (c := d) ⟨y0, y1⟩).1) (c := i) ⟨hi0, by omega⟩ (fun n hn => hMn.2.1 i n hi0 (by omega) hn (hMn.2.2 n (pNb_in hn).1 (pNb_in hn).2)) ?_
        intro σ2 v2 x2 hle2 hg2 hal2 hz2 hv2
        have hor := or01 hv1 hv2
        conv => whnf
        refine ⟨⟨by omega, by omega⟩, ?_⟩
        conv => whnf
        refine ⟨_, ?_, Or.inr (Or.inr (⟨rfl, _, _, _, rfl, rfl, ?_, rfl⟩))⟩
        · omega
        · refine ⟨Fs, hFs, hFst, hcn, fun b j z1 z2 => by rw [x2 b j (by omega)]; exact xc b j z1 z2, fun d y0 y1 => by rw [x2 _ _ (by omega)]; exact hto9 d y0 y1, fun d y0 y1 => ?_, fun c m y0 y1 y2 y3 => ?_, fun z9 c y0 y1 => ?_, hor.1, hr0, hr1, by omega, by omega⟩
          · have h9 := hF d y0 y1
            by_cases e9 : d = i
            · rw [e9] at h9 ⊢; omega
            · rw [x2 _ _ (fun w => e9 w.2)]; exact h9
          · by_cases e9 : c = i
            · rw [e9] at y2 ⊢
              have h9 := hal2 m y2
              have mb := pNb_in y2
              have h8 := hF m mb.1 mb.2
              omega
            · rw [x2 _ _ (fun w => e9 w.2)]; exact hrl c m y0 (by omega) y2 y3
          · have h9 := hor.2 z9
            by_cases e9 : c = i
            · rw [e9, hz2 h9.2]; exact hv0 h9.1 i hi0 (by omega)
            · rw [x2 _ _ (fun w => e9 w.2)]; exact hv0 h9.1 c y0 y1
end SXN5
