/-! THE REFERENCE: cells, reading, trails (by wip/whole) -/
section SXR3
variable {X : sx_X} {σ σ0 : sx_S} {Q : sx_R}
theorem c_Rread0 (hT : PT σ) {c : Int} (hn : 0 ≤ σ 154 0 ∧ σ 154 0 ≤ 90) (h : Q (some (.inl (fTop (σ 147) (σ 150) (σ 151) c (σ 154 0).toNat))) shM σ) : sx_Run X 233 [.inr (.inr 124), .inl 0, .inl c] shM σ Q := by
  refine c_Rread hT (Or.inl rfl) hn ?_
  have e : ∀ f : Int → Int, (fun j => f (90 * 0 + j)) = f := fun f => funext fun j => by rw [show 90 * 0 + j = j by omega]
  rw [e, e, e]
  exact h
def fNk (b : Int → Bool) (k : Int) : Int → Int := fun i => if b i = true ∧ fCnt b i.toNat = k then i else -1
def fNth (b : Int → Bool) (k : Int) (n : Nat) : Int := if k < 0 then fCnt b n else if fSe (fNk b k) n = -1 then -2 else fSe (fNk b k) n
theorem fNth_skip {b : Int → Bool} {k i v : Int} (h0 : 0 ≤ i) (hb : b i = false) (hv : v = fCnt b i.toNat) (hs : fSe (fNk b k) i.toNat = -1) : v = fCnt b (i + 1).toNat ∧ fSe (fNk b k) (i + 1).toNat = -1 := by
  refine ⟨?_, fSe_no h0 hs ?_⟩
  · rw [fCnt_s h0, hb, hv]; simp
  · unfold fNk; rw [hb]; simp
theorem fNth_take {b : Int → Bool} {k i v : Int} (h0 : 0 ≤ i) (hb : b i = true) (hv : v = fCnt b i.toNat) (hk : ¬ v = k) (hs : fSe (fNk b k) i.toNat = -1) : v + 1 = fCnt b (i + 1).toNat ∧ fSe (fNk b k) (i + 1).toNat = -1 := by
  refine ⟨?_, fSe_no h0 hs ?_⟩
  · rw [fCnt_s h0, hb, hv]; simp
  · unfold fNk; rw [if_neg (fun z => hk (by rw [hv]; exact z.2))]
theorem fNth_hit {b : Int → Bool} {k i : Int} {n : Nat} (h0 : 0 ≤ i) (hn : i < n) (hb : b i = true) (hv : fCnt b i.toNat = k) (hs : fSe (fNk b k) i.toNat = -1) : fNth b k n = i := by
  have h1 := fCnt_le b i.toNat
  have e : fNk b k i = i := by unfold fNk; rw [if_pos ⟨hb, hv⟩]
  unfold fNth
  rw [if_neg (by omega), fSe_hit h0 hn hs (by rw [e]; omega), e, if_neg (by omega)]
theorem fNth_end {b : Int → Bool} {k : Int} {n : Nat} (hs : fSe (fNk b k) n = -1) : fNth b k n = if k < 0 then fCnt b n else -2 := by
  unfold fNth
  by_cases e : k < 0
  · rw [if_pos e, if_pos e]
  · rw [if_neg e, if_neg e, if_pos hs]
def pFgd (w h : Int) (kind gait home look cell deep cov blur : Int → Int) (n : Nat) (k : Int) : Prop := fTop cell deep cov (cell k) n = k ∧ blur k = 0 ∧ ¬ pClo w h kind gait home look cell deep k
noncomputable def bFgd (w h : Int) (kind gait home look cell deep cov blur : Int → Int) (n : Nat) (k : Int) : Bool := @decide (pFgd w h kind gait home look cell deep cov blur n k) (Classical.propDecidable _)
theorem bFgd_t {w h : Int} {kind gait home look cell deep cov blur : Int → Int} {n : Nat} {k : Int} (z : pFgd w h kind gait home look cell deep cov blur n k) : bFgd w h kind gait home look cell deep cov blur n k = true := by unfold bFgd; exact @decide_eq_true _ (Classical.propDecidable _) z
theorem bFgd_f {w h : Int} {kind gait home look cell deep cov blur : Int → Int} {n : Nat} {k : Int} (z : ¬ pFgd w h kind gait home look cell deep cov blur n k) : bFgd w h kind gait home look cell deep cov blur n k = false := by unfold bFgd; exact @decide_eq_false _ (Classical.propDecidable _) z
set_option maxRecDepth 20000 in
theorem c_Rforgedat (hT : PT σ) (hn : 0 ≤ σ 154 0 ∧ σ 154 0 ≤ 90) (hd : RD σ) (hl : ∀ i : Int, 0 ≤ i → i < σ 154 0 → 0 ≤ σ 146 i ∧ σ 146 i < 5) (hce : ∀ i : Int, 0 ≤ i → i < σ 154 0 → 0 ≤ σ 147 i ∧ σ 147 i < 48) (hho : ∀ i : Int, 0 ≤ i → i < σ 124 15 → 0 ≤ σ 134 i ∧ σ 134 i < σ 124 12 * σ 124 13) (hlw : ∀ i : Int, 0 ≤ i → i < σ 154 0 → σ 146 i < σ 124 15) {k : Int} (h : Q (some (.inl (fNth (bFgd (σ 124 12) (σ 124 13) (σ 127) (σ 133) (σ 134) (σ 146) (σ 147) (σ 150) (σ 151) (σ 153) (σ 154 0).toNat) k (σ 154 0).toNat))) shM σ) : sx_Run X 264 [.inr (.inr 124), .inl k] shM σ Q := by
  have r30 := pt_124_30 hT
  have r31 := pt_124_31 hT
  have r32 := pt_124_32 hT
  have r33 := pt_124_33 hT
  have r34 := pt_124_34 hT
  have r35 := pt_124_35 hT
  have r36 := pt_124_36 hT
  have r37 := pt_124_37 hT
  have r38 := pt_124_38 hT
  have r57 := pt_124_57 hT
  have r58 := pt_124_58 hT
  have r59 := pt_124_59 hT
  have r60 := pt_124_60 hT
  have r61 := pt_124_61 hT
  have r62 := pt_124_62 hT
  have r63 := pt_124_63 hT
  have r64 := pt_124_64 hT
  have r65 := pt_124_65 hT
  have r66 := pt_124_66 hT
  have r67 := pt_124_67 hT
  have r68 := pt_124_68 hT
  have r69 := pt_124_69 hT
  have r70 := pt_124_70 hT
  have r71 := pt_124_71 hT
  refine sx_rule2 (own := 12) (cd := kX12_forgedAt) (nL := 4) (by decide +kernel) (by decide +kernel) kX12_forgedAt_ok (by decide +kernel) (Nat.le_of_ble_eq_true rfl) [4] 40 (fun n t L st _ σ' => (t = 4 ∧ ∃ v i : Int, st = [] ∧ L = [some (.inr (.inr (124))), some (.inl (k)), some (.inl (v)), some (.inl (i))] ∧ (σ = σ' ∧ 0 ≤ i ∧ i ≤ σ 154 0 ∧ v ≤ i ∧ v = fCnt (bFgd (σ 124 12) (σ 124 13) (σ 127) (σ 133) (σ 134) (σ 146) (σ 147) (σ 150) (σ 151) (σ 153) (σ 154 0).toNat) i.toNat ∧ fSe (fNk (bFgd (σ 124 12) (σ 124 13) (σ 127) (σ 133) (σ 134) (σ 146) (σ 147) (σ 150) (σ 151) (σ 153) (σ 154 0).toNat) k) i.toNat = -1) ∧ n = (σ 154 0 - i).toNat)) ?_ ?_
  · skip
    conv => whnf
    refine ⟨_, ⟨rfl, _, _, rfl, rfl, ?_, rfl⟩⟩
    exact ⟨rfl, by omega, by omega, by omega, rfl, rfl⟩
  · intro n t L st σ' hk
    obtain ⟨rfl, v, i, rfl, rfl, hc, rfl⟩ := hk
    obtain ⟨rfl, hi0, hi1, hv9, hvv, hs⟩ := hc
    have hle := fCnt_le (bFgd (σ 124 12) (σ 124 13) (σ 127) (σ 133) (σ 134) (σ 146) (σ 147) (σ 150) (σ 151) (σ 153) (σ 154 0).toNat) i.toNat
    conv => whnf
    refine ⟨(by first | assumption | rfl), ?_⟩
    try simp (disch := omega) only [Int.cast_ofNat_Int, up_s, up_a, up_i, mp_a, mp_ge, cp_a, r30, r31, r32, r33, r34, r35, r36, r37, r38, r57, r58, r59, r60, r61, r62, r63, r64, r65, r66, r67, r68, r69, r70, r71]
    conv => whnf
    refine ⟨sx_ixI (by first | assumption | rfl) (by omega) (by omega), ?_⟩
    try simp (disch := omega) only [Int.cast_ofNat_Int, up_s, up_a, up_i, mp_a, mp_ge, cp_a, r30, r31, r32, r33, r34, r35, r36, r37, r38, r57, r58, r59, r60, r61, r62, r63, r64, r65, r66, r67, r68, r69, r70, r71]
    conv => whnf
    refine ⟨fun g => ?_, fun g => ?_⟩
    · simp only [sx_cc, Classical.not_not] at g
      conv => whnf
      refine ⟨fun g => ?_, fun g => ?_⟩
      · simp only [sx_cc, Classical.not_not] at g
        conv => whnf
        refine ⟨fun q9 => by first | (simp at q9; done) | omega, ?_⟩
        have e9 : i = σ 154 0 := by omega
        subst e9
        exact q_to h (by rw [fNth_end hs]; first | (rw [if_pos (by omega)]; omega) | (rw [if_neg (by omega)]; done))
      · simp only [sx_cc, Classical.not_not] at g
        conv => whnf
        refine ⟨fun q9 => by first | (simp at q9; done) | omega, ?_⟩
        have e9 : i = σ 154 0 := by omega
        subst e9
        exact q_to h (by rw [fNth_end hs]; first | (rw [if_pos (by omega)]; omega) | (rw [if_neg (by omega)]; done))
    · simp only [sx_cc, Classical.not_not] at g
      conv => whnf
      refine ⟨(by first | assumption | rfl), ?_⟩
      try simp (disch := omega) only [Int.cast_ofNat_Int, up_s, up_a, up_i, mp_a, mp_ge, cp_a, r30, r31, r32, r33, r34, r35, r36, r37, r38, r57, r58, r59, r60, r61, r62, r63, r64, r65, r66, r67, r68, r69, r70, r71]
      conv => whnf
      refine ⟨sx_ixI (by first | assumption | rfl) (by omega) (by omega), ?_⟩
      try simp (disch := omega) only [Int.cast_ofNat_Int, up_s, up_a, up_i, mp_a, mp_ge, cp_a, r30, r31, r32, r33, r34, r35, r36, r37, r38, r57, r58, r59, r60, r61, r62, r63, r64, r65, r66, r67, r68, r69, r70, r71]
      conv => whnf
      refine ⟨Nat.le_of_ble_eq_true rfl, Nat.le_of_ble_eq_true rfl, (by first | assumption | rfl), ?_⟩
      refine c_Rread0 hT hn ?_
      conv => whnf
      refine ⟨fun g => ?_, fun g => ?_⟩
      · simp only [sx_cc, Classical.not_not] at g
        conv => whnf
        refine ⟨⟨by omega, by omega⟩, ?_⟩
        conv => whnf
        refine ⟨_, ?_, ⟨rfl, _, _, rfl, rfl, ?_, rfl⟩⟩
        · omega
        · refine ⟨rfl, by omega, by omega, by omega, ?_⟩
          first | exact fNth_skip hi0 (bFgd_f (fun z => absurd z.1 (by omega))) hvv hs | exact fNth_skip hi0 (bFgd_f (fun z => absurd z.2.1 (by omega))) hvv hs | exact fNth_skip hi0 (bFgd_f (fun z => z.2.2 (by assumption))) hvv hs | exact fNth_take hi0 (bFgd_t ⟨by omega, by omega, by assumption⟩) hvv (by omega) hs
      · simp only [sx_cc, Classical.not_not] at g
        conv => whnf
        refine ⟨(by first | assumption | rfl), ?_⟩
        try simp (disch := omega) only [Int.cast_ofNat_Int, up_s, up_a, up_i, mp_a, mp_ge, cp_a, r30, r31, r32, r33, r34, r35, r36, r37, r38, r57, r58, r59, r60, r61, r62, r63, r64, r65, r66, r67, r68, r69, r70, r71]
        conv => whnf
        refine ⟨by decide, ?_⟩
        conv => whnf
        refine ⟨sx_ixI (by first | assumption | rfl) (by omega) (by omega), ?_⟩
        try simp (disch := omega) only [Int.cast_ofNat_Int, up_s, up_a, up_i, mp_a, mp_ge, cp_a, r30, r31, r32, r33, r34, r35, r36, r37, r38, r57, r58, r59, r60, r61, r62, r63, r64, r65, r66, r67, r68, r69, r70, r71]
        conv => whnf
        refine ⟨fun g => ?_, fun g => ?_⟩
        · simp only [sx_cc, Classical.not_not] at g
          conv => whnf
          refine ⟨⟨by omega, by omega⟩, ?_⟩
          conv => whnf
          refine ⟨_, ?_, ⟨rfl, _, _, rfl, rfl, ?_, rfl⟩⟩
          · omega
          · refine ⟨rfl, by omega, by omega, by omega, ?_⟩
            first | exact fNth_skip hi0 (bFgd_f (fun z => absurd z.1 (by omega))) hvv hs | exact fNth_skip hi0 (bFgd_f (fun z => absurd z.2.1 (by omega))) hvv hs | exact fNth_skip hi0 (bFgd_f (fun z => z.2.2 (by assumption))) hvv hs | exact fNth_take hi0 (bFgd_t ⟨by omega, by omega, by assumption⟩) hvv (by omega) hs
        · simp only [sx_cc, Classical.not_not] at g
          conv => whnf
          refine ⟨Nat.le_of_ble_eq_true rfl, Nat.le_of_ble_eq_true rfl, (by first | assumption | rfl), ?_⟩
          refine c_Rcloses hT hn hd hl hce hho hlw ⟨by omega, by omega⟩ (fun g1 => ?_) (fun g0 => ?_)
          · skip
            conv => whnf
            refine ⟨fun g => ?_, fun g => ?_⟩
            · exact absurd g (by simp [sx_cc])
            · skip
              conv => whnf
              refine ⟨⟨by omega, by omega⟩, ?_⟩
              conv => whnf
              refine ⟨_, ?_, ⟨rfl, _, _, rfl, rfl, ?_, rfl⟩⟩
              · omega
              · refine ⟨rfl, by omega, by omega, by omega, ?_⟩
                first | exact fNth_skip hi0 (bFgd_f (fun z => absurd z.1 (by omega))) hvv hs | exact fNth_skip hi0 (bFgd_f (fun z => absurd z.2.1 (by omega))) hvv hs | exact fNth_skip hi0 (bFgd_f (fun z => z.2.2 (by assumption))) hvv hs | exact fNth_take hi0 (bFgd_t ⟨by omega, by omega, by assumption⟩) hvv (by omega) hs
          · skip
            conv => whnf
            refine ⟨fun g => ?_, fun g => ?_⟩
            · skip
              conv => whnf
              refine ⟨fun g => ?_, fun g => ?_⟩
              · simp only [sx_cc, Classical.not_not] at g
                conv => whnf
                refine ⟨⟨by omega, by omega⟩, ?_⟩
                conv => whnf
                refine ⟨⟨by omega, by omega⟩, ?_⟩
                conv => whnf
                refine ⟨_, ?_, ⟨rfl, _, _, rfl, rfl, ?_, rfl⟩⟩
                · omega
                · refine ⟨rfl, by omega, by omega, by omega, ?_⟩
                  first | exact fNth_skip hi0 (bFgd_f (fun z => absurd z.1 (by omega))) hvv hs | exact fNth_skip hi0 (bFgd_f (fun z => absurd z.2.1 (by omega))) hvv hs | exact fNth_skip hi0 (bFgd_f (fun z => z.2.2 (by assumption))) hvv hs | exact fNth_take hi0 (bFgd_t ⟨by omega, by omega, by assumption⟩) hvv (by omega) hs
              · simp only [sx_cc, Classical.not_not] at g
                conv => whnf
                refine ⟨fun q9 => by first | (simp at q9; done) | omega, ?_⟩
                exact q_to h (fNth_hit hi0 (by omega) (bFgd_t ⟨by omega, by omega, by assumption⟩) (by omega) hs)
            · exact absurd g (by simp [sx_cc])
def aForgery (b : Int → Bool) (n : Nat) (k : Int) : Int := if k < 0 then -1 else fNth b k n
set_option maxRecDepth 20000 in
theorem r_forged (e0 : σ0 = sx_up σ 124 2 0) (hT : PT σ0) (hn : 0 ≤ σ0 154 0 ∧ σ0 154 0 ≤ 90) (hd : RD σ0) (hl : ∀ i : Int, 0 ≤ i → i < σ0 154 0 → 0 ≤ σ0 146 i ∧ σ0 146 i < 5) (hce : ∀ i : Int, 0 ≤ i → i < σ0 154 0 → 0 ≤ σ0 147 i ∧ σ0 147 i < 48) (hho : ∀ i : Int, 0 ≤ i → i < σ0 124 15 → 0 ≤ σ0 134 i ∧ σ0 134 i < σ0 124 12 * σ0 124 13) (hlw : ∀ i : Int, 0 ≤ i → i < σ0 154 0 → σ0 146 i < σ0 124 15) (h : Q (some (.inl (fCnt (bFgd (σ0 124 12) (σ0 124 13) (σ0 127) (σ0 133) (σ0 134) (σ0 146) (σ0 147) (σ0 150) (σ0 151) (σ0 153) (σ0 154 0).toNat) (σ0 154 0).toNat))) shM σ0) : sx_Run X 265 [.inr (.inr 124)] shM σ Q := by
  refine sx_rule0 (own := 12) (cd := kX12_forged) (nL := 1) (by decide +kernel) (by decide +kernel) kX12_forged_ok (by decide +kernel) (Nat.le_of_ble_eq_true rfl) 40 ?_
  conv => whnf
  refine ⟨(by first | assumption | rfl), ?_⟩
  try simp (disch := omega) only [Int.cast_ofNat_Int, up_s, up_a, up_i, mp_a, mp_ge, cp_a]
  rw [← e0]
  conv => whnf
  refine ⟨Nat.le_of_ble_eq_true rfl, Nat.le_of_ble_eq_true rfl, (by first | assumption | rfl), ?_⟩
  refine c_Rforgedat hT hn hd hl hce hho hlw ?_
  conv => whnf
  refine ⟨fun q9 => by first | (simp at q9; done) | omega, ?_⟩
  exact h
set_option maxRecDepth 20000 in
theorem r_forgery (e0 : σ0 = sx_up σ 124 2 0) (hT : PT σ0) (hn : 0 ≤ σ0 154 0 ∧ σ0 154 0 ≤ 90) (hd : RD σ0) (hl : ∀ i : Int, 0 ≤ i → i < σ0 154 0 → 0 ≤ σ0 146 i ∧ σ0 146 i < 5) (hce : ∀ i : Int, 0 ≤ i → i < σ0 154 0 → 0 ≤ σ0 147 i ∧ σ0 147 i < 48) (hho : ∀ i : Int, 0 ≤ i → i < σ0 124 15 → 0 ≤ σ0 134 i ∧ σ0 134 i < σ0 124 12 * σ0 124 13) (hlw : ∀ i : Int, 0 ≤ i → i < σ0 154 0 → σ0 146 i < σ0 124 15) {k : Int} (h : Q (some (.inl (aForgery (bFgd (σ0 124 12) (σ0 124 13) (σ0 127) (σ0 133) (σ0 134) (σ0 146) (σ0 147) (σ0 150) (σ0 151) (σ0 153) (σ0 154 0).toNat) (σ0 154 0).toNat k))) shM σ0) : sx_Run X 266 [.inr (.inr 124), .inl k] shM σ Q := by
  refine sx_rule0 (own := 12) (cd := kX12_forgery) (nL := 2) (by decide +kernel) (by decide +kernel) kX12_forgery_ok (by decide +kernel) (Nat.le_of_ble_eq_true rfl) 40 ?_
  conv => whnf
  refine ⟨(by first | assumption | rfl), ?_⟩
  try simp (disch := omega) only [Int.cast_ofNat_Int, up_s, up_a, up_i, mp_a, mp_ge, cp_a]
  rw [← e0]
  conv => whnf
  refine ⟨fun g => ?_, fun g => ?_⟩
  · simp only [sx_cc, Classical.not_not] at g
    conv => whnf
    refine ⟨Nat.le_of_ble_eq_true rfl, Nat.le_of_ble_eq_true rfl, (by first | assumption | rfl), ?_⟩
    refine c_Rforgedat hT hn hd hl hce hho hlw ?_
    conv => whnf
    refine ⟨fun q9 => by first | (simp at q9; done) | omega, ?_⟩
    exact q_to h (by unfold aForgery; first | (rw [if_pos (by omega)]; done) | (rw [if_neg (by omega)]; done))
  · simp only [sx_cc, Classical.not_not] at g
    conv => whnf
    refine ⟨fun q9 => by first | (simp at q9; done) | omega, ?_⟩
    exact q_to h (by unfold aForgery; first | (rw [if_pos (by omega)]; done) | (rw [if_neg (by omega)]; done))
set_option maxRecDepth 20000 in
theorem c_Rnewat (hT : PT σ) (hn : 0 ≤ σ 154 0 ∧ σ 154 0 ≤ 90) {c : Int} (hc : 0 ≤ c ∧ c < 48) (h : Q (some (.inl (if σ 127 c = 0 ∧ fTop (σ 147) (σ 150) (σ 151) c (σ 154 0).toNat < 0 then 1 else 0))) shM σ) : sx_Run X 270 [.inr (.inr 124), .inl c] shM σ Q := by
  have r30 := pt_124_30 hT
  have r31 := pt_124_31 hT
  have r32 := pt_124_32 hT
  have r33 := pt_124_33 hT
  have r34 := pt_124_34 hT
  have r35 := pt_124_35 hT
  have r36 := pt_124_36 hT
  have r37 := pt_124_37 hT
  have r38 := pt_124_38 hT
  have r57 := pt_124_57 hT
  have r58 := pt_124_58 hT
  have r59 := pt_124_59 hT
  have r60 := pt_124_60 hT
  have r61 := pt_124_61 hT
  have r62 := pt_124_62 hT
  have r63 := pt_124_63 hT
  have r64 := pt_124_64 hT
  have r65 := pt_124_65 hT
  have r66 := pt_124_66 hT
  have r67 := pt_124_67 hT
  have r68 := pt_124_68 hT
  have r69 := pt_124_69 hT
  have r70 := pt_124_70 hT
  have r71 := pt_124_71 hT
  refine sx_rule0 (own := 12) (cd := kX12_newAt) (nL := 2) (by decide +kernel) (by decide +kernel) kX12_newAt_ok (by decide +kernel) (Nat.le_of_ble_eq_true rfl) 40 ?_
  conv => whnf
  refine ⟨(by first | assumption | rfl), ?_⟩
  try simp (disch := omega) only [Int.cast_ofNat_Int, up_s, up_a, up_i, mp_a, mp_ge, cp_a, r30, r31, r32, r33, r34, r35, r36, r37, r38, r57, r58, r59, r60, r61, r62, r63, r64, r65, r66, r67, r68, r69, r70, r71]
  conv => whnf
  refine ⟨sx_ixI (by first | assumption | rfl) (by omega) (by omega), ?_⟩
  try simp (disch := omega) only [Int.cast_ofNat_Int, up_s, up_a, up_i, mp_a, mp_ge, cp_a, r30, r31, r32, r33, r34, r35, r36, r37, r38, r57, r58, r59, r60, r61, r62, r63, r64, r65, r66, r67, r68, r69, r70, r71]
  conv => whnf
  refine ⟨fun g => ?_, fun g => ?_⟩
  · simp only [sx_cc, Classical.not_not] at g
    conv => whnf
    refine ⟨fun q9 => by first | (simp at q9; done) | omega, ?_⟩
    exact q_to h (by first | (rw [if_pos ⟨by omega, by omega⟩]; done) | (rw [if_neg (by omega)]; done))
  · simp only [sx_cc, Classical.not_not] at g
    conv => whnf
    refine ⟨Nat.le_of_ble_eq_true rfl, Nat.le_of_ble_eq_true rfl, (by first | assumption | rfl), ?_⟩
    refine c_Rread0 hT hn ?_
    conv => whnf
    refine ⟨fun g => ?_, fun g => ?_⟩
    · simp only [sx_cc, Classical.not_not] at g
      conv => whnf
      refine ⟨fun q9 => by first | (simp at q9; done) | omega, ?_⟩
      exact q_to h (by first | (rw [if_pos ⟨by omega, by omega⟩]; done) | (rw [if_neg (by omega)]; done))
    · simp only [sx_cc, Classical.not_not] at g
      conv => whnf
      refine ⟨fun q9 => by first | (simp at q9; done) | omega, ?_⟩
      exact q_to h (by first | (rw [if_pos ⟨by omega, by omega⟩]; done) | (rw [if_neg (by omega)]; done))
set_option maxRecDepth 20000 in
theorem r_trail (e0 : σ0 = sx_up σ 124 2 0) (hT : PT σ0) (hn : 0 ≤ σ0 154 0 ∧ σ0 154 0 ≤ 90) (hd : RD σ0) (hl : ∀ i : Int, 0 ≤ i → i < σ0 154 0 → 0 ≤ σ0 146 i ∧ σ0 146 i < 5) (hce : ∀ i : Int, 0 ≤ i → i < σ0 154 0 → 0 ≤ σ0 147 i ∧ σ0 147 i < 48) {m : Int} (h : Q (some (.inl (aTrail (fun k => fBef (σ0 124 12) (σ0 133) (σ0 146) (σ0 147) (σ0 150) k k.toNat) (σ0 154 0) (σ0 150) m))) shM σ0) : sx_Run X 268 [.inr (.inr 124), .inl m] shM σ Q := by
  have r30 := pt_124_30 hT
  have r31 := pt_124_31 hT
  have r32 := pt_124_32 hT
  have r33 := pt_124_33 hT
  have r34 := pt_124_34 hT
  have r35 := pt_124_35 hT
  have r36 := pt_124_36 hT
  have r37 := pt_124_37 hT
  have r38 := pt_124_38 hT
  have r57 := pt_124_57 hT
  have r58 := pt_124_58 hT
  have r59 := pt_124_59 hT
  have r60 := pt_124_60 hT
  have r61 := pt_124_61 hT
  have r62 := pt_124_62 hT
  have r63 := pt_124_63 hT
  have r64 := pt_124_64 hT
  have r65 := pt_124_65 hT
  have r66 := pt_124_66 hT
  have r67 := pt_124_67 hT
  have r68 := pt_124_68 hT
  have r69 := pt_124_69 hT
  have r70 := pt_124_70 hT
  have r71 := pt_124_71 hT
  refine sx_rule2 (own := 12) (cd := kX12_trail) (nL := 4) (by decide +kernel) (by decide +kernel) kX12_trail_ok (by decide +kernel) (Nat.le_of_ble_eq_true rfl) [19] 40 (fun n t L st _ σ' => (t = 19 ∧ ∃ v x : Int, st = [] ∧ L = [some (.inr (.inr (124))), some (.inl (m)), some (.inl (v)), some (.inl (x))] ∧ (σ0 = σ' ∧ 0 ≤ m ∧ m < σ0 154 0 ∧ 0 < σ0 150 m ∧ -1 ≤ x ∧ x < σ0 154 0 ∧ 0 ≤ v ∧ x + v ≤ m ∧ v ≤ m + 1 ∧ v + fTrl (fun k => fBef (σ0 124 12) (σ0 133) (σ0 146) (σ0 147) (σ0 150) k k.toNat) (90 - v).toNat x = fTrl (fun k => fBef (σ0 124 12) (σ0 133) (σ0 146) (σ0 147) (σ0 150) k k.toNat) 90 m) ∧ n = (x + 1).toNat)) ?_ ?_
  · skip
    conv => whnf
    refine ⟨(by first | assumption | rfl), ?_⟩
    try simp (disch := omega) only [Int.cast_ofNat_Int, up_s, up_a, up_i, mp_a, mp_ge, cp_a, r30, r31, r32, r33, r34, r35, r36, r37, r38, r57, r58, r59, r60, r61, r62, r63, r64, r65, r66, r67, r68, r69, r70, r71]
    rw [← e0]
    conv => whnf
    refine ⟨Nat.le_of_ble_eq_true rfl, Nat.le_of_ble_eq_true rfl, (by first | assumption | rfl), ?_⟩
    refine c_Risthere hT hn (fun g1 g2 g3 => ?_) (fun g0 => ?_)
    · skip
      conv => whnf
      refine ⟨fun g => ?_, fun g => ?_⟩
      · skip
        conv => whnf
        refine ⟨_, ⟨rfl, _, _, rfl, rfl, ?_, rfl⟩⟩
        refine ⟨rfl, by omega, by omega, by omega, by omega, by omega, by omega, by omega, by omega, ?_⟩
        rw [show (90 - 0 : Int).toNat = 90 from rfl]
        omega
      · exact absurd g (by simp [sx_cc])
    · skip
      conv => whnf
      refine ⟨fun g => ?_, fun g => ?_⟩
      · exact absurd g (by simp [sx_cc])
      · skip
        conv => whnf
        refine ⟨fun q9 => by first | (simp at q9; done) | omega, ?_⟩
        exact q_to h (by unfold aTrail; rw [if_neg (by omega)])
  · intro n t L st σ' hk
    obtain ⟨rfl, v, x, rfl, rfl, hc, rfl⟩ := hk
    obtain ⟨rfl, hm0, hm1, hm2, hx0, hx1, hi0, hi1, hi2, hv⟩ := hc
    have hbl := fBef_lt (σ0 124 12) (σ0 133) (σ0 146) (σ0 147) (σ0 150) x x.toNat
    conv => whnf
    refine ⟨fun g => ?_, fun g => ?_⟩
    · simp only [sx_cc, Classical.not_not] at g
      conv => whnf
      refine ⟨fun q9 => by first | (simp at q9; done) | omega, ?_⟩
      have e9 : fTrl (fun k => fBef (σ0 124 12) (σ0 133) (σ0 146) (σ0 147) (σ0 150) k k.toNat) (90 - v).toNat x = 0 := by
        rw [show x = -1 by omega]; exact fTrl_no _ _
      exact q_to h (by unfold aTrail; rw [if_pos ⟨by omega, by omega, by omega⟩]; omega)
    · simp only [sx_cc, Classical.not_not] at g
      conv => whnf
      refine ⟨⟨by omega, by omega⟩, ?_⟩
      conv => whnf
      refine ⟨Nat.le_of_ble_eq_true rfl, Nat.le_of_ble_eq_true rfl, (by first | assumption | rfl), ?_⟩
      refine c_Rbefore hT hn hd hl hce ⟨by omega, by omega⟩ ?_
      conv => whnf
      refine ⟨_, ?_, ⟨rfl, _, _, rfl, rfl, ?_, rfl⟩⟩
      · omega
      · have e7 := fTrl_s (f := (fun k => fBef (σ0 124 12) (σ0 133) (σ0 146) (σ0 147) (σ0 150) k k.toNat)) (n := 90 - v) (x := x) (by omega) (by omega)
        rw [show 90 - v - 1 = 90 - (v + 1) by omega] at e7
        refine ⟨rfl, by omega, by omega, by omega, by omega, by omega, by omega, by omega, by omega, ?_⟩
        omega
set_option maxRecDepth 20000 in
theorem r_trailed (e0 : σ0 = sx_up σ 124 2 0) (hT : PT σ0) (hn : 0 ≤ σ0 154 0 ∧ σ0 154 0 ≤ 90) (hd : RD σ0) (hl : ∀ i : Int, 0 ≤ i → i < σ0 154 0 → 0 ≤ σ0 146 i ∧ σ0 146 i < 5) (hce : ∀ i : Int, 0 ≤ i → i < σ0 154 0 → 0 ≤ σ0 147 i ∧ σ0 147 i < 48) {m k : Int} (hkr : k ≤ 2147483647) (h : Q (some (.inl (aTrailed (fun k => fBef (σ0 124 12) (σ0 133) (σ0 146) (σ0 147) (σ0 150) k k.toNat) (σ0 154 0) (σ0 150) m k))) shM σ0) : sx_Run X 269 [.inr (.inr 124), .inl m, .inl k] shM σ Q := by
  have r30 := pt_124_30 hT
  have r31 := pt_124_31 hT
  have r32 := pt_124_32 hT
  have r33 := pt_124_33 hT
  have r34 := pt_124_34 hT
  have r35 := pt_124_35 hT
  have r36 := pt_124_36 hT
  have r37 := pt_124_37 hT
  have r38 := pt_124_38 hT
  have r57 := pt_124_57 hT
  have r58 := pt_124_58 hT
  have r59 := pt_124_59 hT
  have r60 := pt_124_60 hT
  have r61 := pt_124_61 hT
  have r62 := pt_124_62 hT
  have r63 := pt_124_63 hT
  have r64 := pt_124_64 hT
  have r65 := pt_124_65 hT
  have r66 := pt_124_66 hT
  have r67 := pt_124_67 hT
  have r68 := pt_124_68 hT
  have r69 := pt_124_69 hT
  have r70 := pt_124_70 hT
  have r71 := pt_124_71 hT
  refine sx_rule2 (own := 12) (cd := kX12_trailed) (nL := 5) (by decide +kernel) (by decide +kernel) kX12_trailed_ok (by decide +kernel) (Nat.le_of_ble_eq_true rfl) [24] 40 (fun n t L st _ σ' => (t = 24 ∧ ∃ x i : Int, st = [] ∧ L = [some (.inr (.inr (124))), some (.inl (m)), some (.inl (k)), some (.inl (x)), some (.inl (i))] ∧ (σ0 = σ' ∧ 0 ≤ m ∧ m < σ0 154 0 ∧ 0 < σ0 150 m ∧ 0 ≤ k ∧ -1 ≤ x ∧ x < σ0 154 0 ∧ 0 ≤ i ∧ i ≤ k ∧ fItr (fun k => fBef (σ0 124 12) (σ0 133) (σ0 146) (σ0 147) (σ0 150) k k.toNat) (k - i).toNat x = fItr (fun k => fBef (σ0 124 12) (σ0 133) (σ0 146) (σ0 147) (σ0 150) k k.toNat) k.toNat m) ∧ n = (x + 1).toNat)) ?_ ?_
  · skip
    conv => whnf
    refine ⟨(by first | assumption | rfl), ?_⟩
    try simp (disch := omega) only [Int.cast_ofNat_Int, up_s, up_a, up_i, mp_a, mp_ge, cp_a, r30, r31, r32, r33, r34, r35, r36, r37, r38, r57, r58, r59, r60, r61, r62, r63, r64, r65, r66, r67, r68, r69, r70, r71]
    rw [← e0]
    conv => whnf
    refine ⟨Nat.le_of_ble_eq_true rfl, Nat.le_of_ble_eq_true rfl, (by first | assumption | rfl), ?_⟩
    refine c_Risthere hT hn (fun g1 g2 g3 => ?_) (fun g0 => ?_)
    · skip
      conv => whnf
      refine ⟨fun g => ?_, fun g => ?_⟩
      · exact absurd g (by simp [sx_cc])
      · skip
        conv => whnf
        refine ⟨fun g => ?_, fun g => ?_⟩
        · simp only [sx_cc, Classical.not_not] at g
          conv => whnf
          refine ⟨_, ⟨rfl, _, _, rfl, rfl, ?_, rfl⟩⟩
          refine ⟨rfl, by omega, by omega, by omega, by omega, by omega, by omega, by omega, by omega, ?_⟩
          rw [show k - 0 = k by omega]
        · simp only [sx_cc, Classical.not_not] at g
          conv => whnf
          refine ⟨fun q9 => by first | (simp at q9; done) | omega, ?_⟩
          exact q_to h (by unfold aTrailed; rw [if_neg (by omega)])
    · skip
      conv => whnf
      refine ⟨fun g => ?_, fun g => ?_⟩
      · skip
        conv => whnf
        refine ⟨fun q9 => by first | (simp at q9; done) | omega, ?_⟩
        exact q_to h (by unfold aTrailed; rw [if_neg (by omega)])
      · exact absurd g (by simp [sx_cc])
  · intro n t L st σ' hk
    obtain ⟨rfl, x, i, rfl, rfl, hc, rfl⟩ := hk
    obtain ⟨rfl, hm0, hm1, hm2, hk0, hx0, hx1, hi0, hi1, hv⟩ := hc
    have hbl := fBef_lt (σ0 124 12) (σ0 133) (σ0 146) (σ0 147) (σ0 150) x x.toNat
    conv => whnf
    refine ⟨fun g => ?_, fun g => ?_⟩
    · simp only [sx_cc, Classical.not_not] at g
      conv => whnf
      refine ⟨fun g => ?_, fun g => ?_⟩
      · simp only [sx_cc, Classical.not_not] at g
        conv => whnf
        refine ⟨fun q9 => by first | (simp at q9; done) | omega, ?_⟩
        have e9 : fItr (fun k => fBef (σ0 124 12) (σ0 133) (σ0 146) (σ0 147) (σ0 150) k k.toNat) (k - i).toNat x = x := by
          by_cases e8 : x = -1
          · rw [e8]; exact fItr_no _ _
          · rw [show (k - i).toNat = 0 by omega]; rfl
        rw [e9] at hv
        exact q_to h (by unfold aTrailed; rw [if_pos ⟨by omega, by omega, by omega, by omega⟩, ← hv]; first | (rw [if_pos (by omega)]; done) | (rw [if_neg (by omega)]; done))
      · simp only [sx_cc, Classical.not_not] at g
        conv => whnf
        refine ⟨fun q9 => by first | (simp at q9; done) | omega, ?_⟩
        have e9 : fItr (fun k => fBef (σ0 124 12) (σ0 133) (σ0 146) (σ0 147) (σ0 150) k k.toNat) (k - i).toNat x = x := by
          by_cases e8 : x = -1
          · rw [e8]; exact fItr_no _ _
          · rw [show (k - i).toNat = 0 by omega]; rfl
        rw [e9] at hv
        exact q_to h (by unfold aTrailed; rw [if_pos ⟨by omega, by omega, by omega, by omega⟩, ← hv]; first | (rw [if_pos (by omega)]; done) | (rw [if_neg (by omega)]; done))
    · simp only [sx_cc, Classical.not_not] at g
      conv => whnf
      refine ⟨fun g => ?_, fun g => ?_⟩
      · simp only [sx_cc, Classical.not_not] at g
        conv => whnf
        refine ⟨fun g => ?_, fun g => ?_⟩
        · simp only [sx_cc, Classical.not_not] at g
          conv => whnf
          refine ⟨fun q9 => by first | (simp at q9; done) | omega, ?_⟩
          have e9 : fItr (fun k => fBef (σ0 124 12) (σ0 133) (σ0 146) (σ0 147) (σ0 150) k k.toNat) (k - i).toNat x = x := by
            by_cases e8 : x = -1
            · rw [e8]; exact fItr_no _ _
            · rw [show (k - i).toNat = 0 by omega]; rfl
          rw [e9] at hv
          exact q_to h (by unfold aTrailed; rw [if_pos ⟨by omega, by omega, by omega, by omega⟩, ← hv]; first | (rw [if_pos (by omega)]; done) | (rw [if_neg (by omega)]; done))
        · simp only [sx_cc, Classical.not_not] at g
          conv => whnf
          refine ⟨fun q9 => by first | (simp at q9; done) | omega, ?_⟩
          have e9 : fItr (fun k => fBef (σ0 124 12) (σ0 133) (σ0 146) (σ0 147) (σ0 150) k k.toNat) (k - i).toNat x = x := by
            by_cases e8 : x = -1
            · rw [e8]; exact fItr_no _ _
            · rw [show (k - i).toNat = 0 by omega]; rfl
          rw [e9] at hv
          exact q_to h (by unfold aTrailed; rw [if_pos ⟨by omega, by omega, by omega, by omega⟩, ← hv]; first | (rw [if_pos (by omega)]; done) | (rw [if_neg (by omega)]; done))
      · simp only [sx_cc, Classical.not_not] at g
        conv => whnf
        refine ⟨Nat.le_of_ble_eq_true rfl, Nat.le_of_ble_eq_true rfl, (by first | assumption | rfl), ?_⟩
        refine c_Rbefore hT hn hd hl hce ⟨by omega, by omega⟩ ?_
        conv => whnf
        refine ⟨⟨by omega, by omega⟩, ?_⟩
        conv => whnf
        refine ⟨_, ?_, ⟨rfl, _, _, rfl, rfl, ?_, rfl⟩⟩
        · omega
        · have e7 := fItr_s (f := (fun k => fBef (σ0 124 12) (σ0 133) (σ0 146) (σ0 147) (σ0 150) k k.toNat)) (n := k - i) (x := x) (by omega) (by omega)
          rw [show k - i - 1 = k - (i + 1) by omega] at e7
          refine ⟨rfl, by omega, by omega, by omega, by omega, by omega, by omega, by omega, by omega, ?_⟩
          rw [← hv, e7]
theorem fLst_ge {deep cov : Int → Int} {x : Int} (n : Nat) (hx : -1 ≤ x) : -1 ≤ fLst deep cov x n := by
  by_cases h : fLst deep cov x n = -1
  · omega
  · have := (fLst_is n h).1; omega
theorem fAbv_step {deep cov : Int → Int} {x : Int} {n : Nat} : fLst deep cov x n = -1 ∨ fAbv deep cov (fLst deep cov x n) n < fAbv deep cov x n := by
  by_cases h : fLst deep cov x n = -1
  · exact Or.inl h
  · exact Or.inr (fAbv_less h)
set_option maxRecDepth 20000 in
theorem r_layers (e0 : σ0 = sx_up σ 124 2 0) (hT : PT σ0) (hn : 0 ≤ σ0 154 0 ∧ σ0 154 0 ≤ 90) (hcv : ∀ i : Int, 0 ≤ i → i < σ0 154 0 → 0 ≤ σ0 151 i) (h : Q (some (.inl (fTrl (fun x => fLst (σ0 150) (σ0 151) x (σ0 154 0).toNat) 90 (fLst (σ0 150) (σ0 151) (-1) (σ0 154 0).toNat)))) shM σ0) : sx_Run X 296 [.inr (.inr 124)] shM σ Q := by
  have r30 := pt_124_30 hT
  have r31 := pt_124_31 hT
  have r32 := pt_124_32 hT
  have r33 := pt_124_33 hT
  have r34 := pt_124_34 hT
  have r35 := pt_124_35 hT
  have r36 := pt_124_36 hT
  have r37 := pt_124_37 hT
  have r38 := pt_124_38 hT
  have r57 := pt_124_57 hT
  have r58 := pt_124_58 hT
  have r59 := pt_124_59 hT
  have r60 := pt_124_60 hT
  have r61 := pt_124_61 hT
  have r62 := pt_124_62 hT
  have r63 := pt_124_63 hT
  have r64 := pt_124_64 hT
  have r65 := pt_124_65 hT
  have r66 := pt_124_66 hT
  have r67 := pt_124_67 hT
  have r68 := pt_124_68 hT
  have r69 := pt_124_69 hT
  have r70 := pt_124_70 hT
  have r71 := pt_124_71 hT
  refine sx_rule2 (own := 12) (cd := kX12_layers) (nL := 3) (by decide +kernel) (by decide +kernel) kX12_layers_ok (by decide +kernel) (Nat.le_of_ble_eq_true rfl) [13] 40 (fun n t L st _ σ' => (t = 13 ∧ ∃ v x : Int, st = [] ∧ L = [some (.inr (.inr (124))), some (.inl (v)), some (.inl (x))] ∧ (σ0 = σ' ∧ 0 ≤ v ∧ -1 ≤ x ∧ (v ≤ 90) ∧ (x = -1 ∨ v + fAbv (σ0 150) (σ0 151) x (σ0 154 0).toNat < 90) ∧ v + fTrl (fun x => fLst (σ0 150) (σ0 151) x (σ0 154 0).toNat) (90 - v).toNat x = fTrl (fun x => fLst (σ0 150) (σ0 151) x (σ0 154 0).toNat) 90 (fLst (σ0 150) (σ0 151) (-1) (σ0 154 0).toNat)) ∧ n = (if x = -1 then 0 else 1 + fAbv (σ0 150) (σ0 151) x (σ0 154 0).toNat).toNat)) ?_ ?_
  · skip
    conv => whnf
    refine ⟨(by first | assumption | rfl), ?_⟩
    try simp (disch := omega) only [Int.cast_ofNat_Int, up_s, up_a, up_i, mp_a, mp_ge, cp_a, r30, r31, r32, r33, r34, r35, r36, r37, r38, r57, r58, r59, r60, r61, r62, r63, r64, r65, r66, r67, r68, r69, r70, r71]
    rw [← e0]
    conv => whnf
    refine ⟨Nat.le_of_ble_eq_true rfl, Nat.le_of_ble_eq_true rfl, (by first | assumption | rfl), ?_⟩
    refine c_Rcover hT hn hcv ?_
    conv => whnf
    refine ⟨_, ⟨rfl, _, _, rfl, rfl, ?_, rfl⟩⟩
    have hab := fAbv_bd (σ0 150) (σ0 151) (fLst (σ0 150) (σ0 151) (-1) (σ0 154 0).toNat) (σ0 154 0).toNat
    have hge := fLst_ge (deep := σ0 150) (cov := σ0 151) (x := -1) (σ0 154 0).toNat (by omega)
    have hst := fAbv_step (deep := σ0 150) (cov := σ0 151) (x := -1) (n := (σ0 154 0).toNat)
    have hab1 := fAbv_bd (σ0 150) (σ0 151) (-1) (σ0 154 0).toNat
    refine ⟨rfl, by omega, by omega, by omega, by omega, ?_⟩
    rw [show (90 - 0 : Int).toNat = 90 from rfl]
    omega
  · intro n t L st σ' hk
    obtain ⟨rfl, v, x, rfl, rfl, hc, rfl⟩ := hk
    obtain ⟨rfl, hi0, hx0, hi1, hi2, hv⟩ := hc
    have hst := fAbv_step (deep := σ0 150) (cov := σ0 151) (x := x) (n := (σ0 154 0).toNat)
    have hab := fAbv_bd (σ0 150) (σ0 151) x (σ0 154 0).toNat
    have hge := fLst_ge (deep := σ0 150) (cov := σ0 151) (x := x) (σ0 154 0).toNat hx0
    conv => whnf
    refine ⟨fun g => ?_, fun g => ?_⟩
    · simp only [sx_cc, Classical.not_not] at g
      conv => whnf
      refine ⟨fun q9 => by first | (simp at q9; done) | omega, ?_⟩
      have e9 : fTrl (fun x => fLst (σ0 150) (σ0 151) x (σ0 154 0).toNat) (90 - v).toNat x = 0 := by
        rw [show x = -1 by omega]; exact fTrl_no _ _
      exact q_to h (by omega)
    · simp only [sx_cc, Classical.not_not] at g
      conv => whnf
      refine ⟨⟨by omega, by omega⟩, ?_⟩
      conv => whnf
      refine ⟨Nat.le_of_ble_eq_true rfl, Nat.le_of_ble_eq_true rfl, (by first | assumption | rfl), ?_⟩
      refine c_Rcover hT hn hcv ?_
      conv => whnf
      refine ⟨_, ?_, ⟨rfl, _, _, rfl, rfl, ?_, rfl⟩⟩
      · rw [if_neg (show ¬ x = -1 by omega)]; split <;> omega
      · have e7 := fTrl_s (f := (fun x => fLst (σ0 150) (σ0 151) x (σ0 154 0).toNat)) (n := 90 - v) (x := x) (by omega) (by omega)
        rw [show 90 - v - 1 = 90 - (v + 1) by omega] at e7
        refine ⟨rfl, by omega, by omega, by omega, by omega, ?_⟩
        omega
set_option maxRecDepth 20000 in
theorem r_layer (e0 : σ0 = sx_up σ 124 2 0) (hT : PT σ0) (hn : 0 ≤ σ0 154 0 ∧ σ0 154 0 ≤ 90) (hcv : ∀ i : Int, 0 ≤ i → i < σ0 154 0 → 0 ≤ σ0 151 i) {k : Int} (hkr : k ≤ 2147483647) (h : Q (some (.inl (aLayer (fun x => fLst (σ0 150) (σ0 151) x (σ0 154 0).toNat) k))) shM σ0) : sx_Run X 297 [.inr (.inr 124), .inl k] shM σ Q := by
  have r30 := pt_124_30 hT
  have r31 := pt_124_31 hT
  have r32 := pt_124_32 hT
  have r33 := pt_124_33 hT
  have r34 := pt_124_34 hT
  have r35 := pt_124_35 hT
  have r36 := pt_124_36 hT
  have r37 := pt_124_37 hT
  have r38 := pt_124_38 hT
  have r57 := pt_124_57 hT
  have r58 := pt_124_58 hT
  have r59 := pt_124_59 hT
  have r60 := pt_124_60 hT
  have r61 := pt_124_61 hT
  have r62 := pt_124_62 hT
  have r63 := pt_124_63 hT
  have r64 := pt_124_64 hT
  have r65 := pt_124_65 hT
  have r66 := pt_124_66 hT
  have r67 := pt_124_67 hT
  have r68 := pt_124_68 hT
  have r69 := pt_124_69 hT
  have r70 := pt_124_70 hT
  have r71 := pt_124_71 hT
  refine sx_rule2 (own := 12) (cd := kX12_layer) (nL := 4) (by decide +kernel) (by decide +kernel) kX12_layer_ok (by decide +kernel) (Nat.le_of_ble_eq_true rfl) [19] 40 (fun n t L st _ σ' => (t = 19 ∧ ∃ x i : Int, st = [] ∧ L = [some (.inr (.inr (124))), some (.inl (k)), some (.inl (x)), some (.inl (i))] ∧ (σ0 = σ' ∧ 0 ≤ k ∧ 0 ≤ i ∧ i ≤ k ∧ -1 ≤ x ∧ fItr (fun x => fLst (σ0 150) (σ0 151) x (σ0 154 0).toNat) (k - i).toNat x = fItr (fun x => fLst (σ0 150) (σ0 151) x (σ0 154 0).toNat) k.toNat ((fun x => fLst (σ0 150) (σ0 151) x (σ0 154 0).toNat) (-1))) ∧ n = (k - i).toNat)) ?_ ?_
  · skip
    conv => whnf
    refine ⟨(by first | assumption | rfl), ?_⟩
    try simp (disch := omega) only [Int.cast_ofNat_Int, up_s, up_a, up_i, mp_a, mp_ge, cp_a, r30, r31, r32, r33, r34, r35, r36, r37, r38, r57, r58, r59, r60, r61, r62, r63, r64, r65, r66, r67, r68, r69, r70, r71]
    rw [← e0]
    conv => whnf
    refine ⟨fun g => ?_, fun g => ?_⟩
    · simp only [sx_cc, Classical.not_not] at g
      conv => whnf
      refine ⟨Nat.le_of_ble_eq_true rfl, Nat.le_of_ble_eq_true rfl, (by first | assumption | rfl), ?_⟩
      refine c_Rcover hT hn hcv ?_
      conv => whnf
      refine ⟨_, ⟨rfl, _, _, rfl, rfl, ?_, rfl⟩⟩
      have hab := fAbv_bd (σ0 150) (σ0 151) (fLst (σ0 150) (σ0 151) (-1) (σ0 154 0).toNat) (σ0 154 0).toNat
      have hge := fLst_ge (deep := σ0 150) (cov := σ0 151) (x := -1) (σ0 154 0).toNat (by omega)
      have hst := fAbv_step (deep := σ0 150) (cov := σ0 151) (x := -1) (n := (σ0 154 0).toNat)
      have hab1 := fAbv_bd (σ0 150) (σ0 151) (-1) (σ0 154 0).toNat
      refine ⟨rfl, by omega, by omega, by omega, by omega, ?_⟩
      rw [show k - 0 = k by omega]
    · simp only [sx_cc, Classical.not_not] at g
      conv => whnf
      refine ⟨fun q9 => by first | (simp at q9; done) | omega, ?_⟩
      exact q_to h (by unfold aLayer; rw [if_neg (by omega)])
  · intro n t L st σ' hk
    obtain ⟨rfl, x, i, rfl, rfl, hc, rfl⟩ := hk
    obtain ⟨rfl, hk0, hi0, hi1, hx0, hv⟩ := hc
    have hst := fAbv_step (deep := σ0 150) (cov := σ0 151) (x := x) (n := (σ0 154 0).toNat)
    have hab := fAbv_bd (σ0 150) (σ0 151) x (σ0 154 0).toNat
    have hge := fLst_ge (deep := σ0 150) (cov := σ0 151) (x := x) (σ0 154 0).toNat hx0
    conv => whnf
    refine ⟨fun g => ?_, fun g => ?_⟩
    · simp only [sx_cc, Classical.not_not] at g
      conv => whnf
      refine ⟨fun g => ?_, fun g => ?_⟩
      · simp only [sx_cc, Classical.not_not] at g
        conv => whnf
        refine ⟨fun q9 => by first | (simp at q9; done) | omega, ?_⟩
        have e9 : fItr (fun x => fLst (σ0 150) (σ0 151) x (σ0 154 0).toNat) (k - i).toNat x = x := by
          by_cases e8 : x = -1
          · rw [e8]; exact fItr_no _ _
          · rw [show (k - i).toNat = 0 by omega]; rfl
        rw [e9] at hv
        exact q_to h (by unfold aLayer; rw [if_pos (by omega), ← hv]; first | (rw [if_pos (by omega)]; done) | (rw [if_neg (by omega)]; done))
      · simp only [sx_cc, Classical.not_not] at g
        conv => whnf
        refine ⟨fun q9 => by first | (simp at q9; done) | omega, ?_⟩
        have e9 : fItr (fun x => fLst (σ0 150) (σ0 151) x (σ0 154 0).toNat) (k - i).toNat x = x := by
          by_cases e8 : x = -1
          · rw [e8]; exact fItr_no _ _
          · rw [show (k - i).toNat = 0 by omega]; rfl
        rw [e9] at hv
        exact q_to h (by unfold aLayer; rw [if_pos (by omega), ← hv]; first | (rw [if_pos (by omega)]; done) | (rw [if_neg (by omega)]; done))
    · simp only [sx_cc, Classical.not_not] at g
      conv => whnf
      refine ⟨fun g => ?_, fun g => ?_⟩
      · simp only [sx_cc, Classical.not_not] at g
        conv => whnf
        refine ⟨fun g => ?_, fun g => ?_⟩
        · simp only [sx_cc, Classical.not_not] at g
          conv => whnf
          refine ⟨fun q9 => by first | (simp at q9; done) | omega, ?_⟩
          have e9 : fItr (fun x => fLst (σ0 150) (σ0 151) x (σ0 154 0).toNat) (k - i).toNat x = x := by
            by_cases e8 : x = -1
            · rw [e8]; exact fItr_no _ _
            · rw [show (k - i).toNat = 0 by omega]; rfl
          rw [e9] at hv
          exact q_to h (by unfold aLayer; rw [if_pos (by omega), ← hv]; first | (rw [if_pos (by omega)]; done) | (rw [if_neg (by omega)]; done))
        · simp only [sx_cc, Classical.not_not] at g
          conv => whnf
          refine ⟨fun q9 => by first | (simp at q9; done) | omega, ?_⟩
          have e9 : fItr (fun x => fLst (σ0 150) (σ0 151) x (σ0 154 0).toNat) (k - i).toNat x = x := by
            by_cases e8 : x = -1
            · rw [e8]; exact fItr_no _ _
            · rw [show (k - i).toNat = 0 by omega]; rfl
          rw [e9] at hv
          exact q_to h (by unfold aLayer; rw [if_pos (by omega), ← hv]; first | (rw [if_pos (by omega)]; done) | (rw [if_neg (by omega)]; done))
      · simp only [sx_cc, Classical.not_not] at g
        conv => whnf
        refine ⟨Nat.le_of_ble_eq_true rfl, Nat.le_of_ble_eq_true rfl, (by first | assumption | rfl), ?_⟩
        refine c_Rcover hT hn hcv ?_
        conv => whnf
        refine ⟨⟨by omega, by omega⟩, ?_⟩
        conv => whnf
        refine ⟨_, ?_, ⟨rfl, _, _, rfl, rfl, ?_, rfl⟩⟩
        · omega
        · have e7 := fItr_s (f := (fun x => fLst (σ0 150) (σ0 151) x (σ0 154 0).toNat)) (n := k - i) (x := x) (by omega) (by omega)
          rw [show k - i - 1 = k - (i + 1) by omega] at e7
          refine ⟨rfl, by omega, by omega, by omega, by omega, ?_⟩
          rw [← hv, e7]
end SXR3
