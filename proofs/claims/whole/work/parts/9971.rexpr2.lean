/-! A LAW IS TOLD, reference side: operands (by wip/whole) -/
section SXR6
variable {X : sx_X} {Q : sx_R} {σ σ0 σ' σ1 σ2 s s' s1 r r' : sx_S} {tx : Int → Int} {n9 p i lo : Int}
/-- within a law: the reference beside the class -/
def eC (p : Int) (s r : sx_S) (lo : Int) : Prop := r 124 48 = s 32 11 ∧ (∀ j : Int, 0 ≤ j → j < s 32 11 → r 142 j = fKr (s 36 j)) ∧ r 124 50 = s 32 12 ∧ r 124 51 = s p 14 ∧ r 124 52 = s 32 13 ∧ r 124 22 = s 32 14 ∧ r 124 49 = dpF (s (p + 11)) lo (s 32 14) ∧ (∀ d : Int, 0 ≤ d → d < dpF (s (p + 11)) lo (s 32 14) → r 143 d = ixF (s (p + 11)) lo (s 32 14) d) ∧ (∀ y : Int, lo ≤ y → y < s 32 14 → pKo (s (p + 11)) (s (p + 12)) lo y r) ∧ (¬ s 32 13 = 0 → (r 124 53 = 1 ∧ fHdr s ≤ 3) ∨ (r 124 53 = 0 ∧ 3 < fHdr s))
theorem eC_push {t : Int} (hc : eC p s r lo) (hn : 0 ≤ s 32 11) (e11 : s1 32 11 = s 32 11 + 1) (e36 : ∀ j : Int, ¬ j = s 32 11 → s1 36 j = s 36 j) (et : s1 36 (s 32 11) = t) (e14 : s1 32 14 = s 32 14) (ec : s1 (p + 11) = s (p + 11)) (em : s1 (p + 12) = s (p + 12)) (r48 : r' 124 48 = s 32 11 + 1) (r142 : r' 142 (s 32 11) = fKr t) (rf : ∀ j : Int, ¬ j = s 32 11 → r' 142 j = r 142 j) (rr : ∀ a j : Int, (a = 124 ∧ (j = 22 ∨ j = 49)) ∨ (139 ≤ a ∧ a ≤ 141) ∨ a = 143 → r' a j = r a j) (h50 : r' 124 50 = s1 32 12) (h51 : r' 124 51 = s1 p 14) (h52 : r' 124 52 = s1 32 13) (hmn : ¬ s1 32 13 = 0 → (r' 124 53 = 1 ∧ fHdr s1 ≤ 3) ∨ (r' 124 53 = 0 ∧ 3 < fHdr s1)) : eC p s1 r' lo := by
  obtain ⟨w48, w142, w50, w51, w52, w22, w49, w143, wko, wmn⟩ := hc
  unfold eC
  rw [e11, e14, ec, em]
  refine ⟨r48, fun j y0 y1 => ?_, h50, h51, h52, (rr _ _ (by omega)).trans w22, (rr _ _ (by omega)).trans w49, fun d d0 d1 => (rr _ _ (by omega)).trans (w143 d d0 d1), fun y y0 y1 => ?_, hmn⟩
  · by_cases e9 : j = s 32 11
    · rw [e9, et, r142]
    · rw [rf j e9, e36 j e9]; exact w142 j y0 (by omega)
  · have h1 := wko y y0 y1
    unfold pKo
    rw [rr 139 _ (by omega), rr 140 _ (by omega), rr 141 _ (by omega)]
    exact h1
theorem eC_leaf {c v k a : Int} (hp : 2 ≤ p ∧ p ≤ 17) (hk : eStk p s lo) (hc : eC p s r lo) (hcf : pLf c) (hka : (c = 21 ∧ k = 0 ∧ a = v) ∨ (¬ c = 21 ∧ k = 1 ∧ a = fPn c)) (e11 : s1 32 11 = s 32 11) (e36 : s1 36 = s 36) (e13 : s1 32 13 = 0) (e14 : s1 32 14 = s 32 14 + 1) (ec : ∀ j : Int, s1 (p + 11) j = if j = s 32 14 then c else s (p + 11) j) (en : ∀ j : Int, s1 (p + 12) j = if j = s 32 14 then v else s (p + 12) j)
    (r139 : r' 139 (64 + s 32 14) = k) (r140 : r' 140 (64 + s 32 14) = a) (rr : ∀ x j : Int, x = 142 ∨ (x = 124 ∧ j = 48) ∨ (139 ≤ x ∧ x ≤ 141 ∧ ¬ j = 64 + s 32 14) → r' x j = r x j) (r143 : r' 143 (dpF (s (p + 11)) lo (s 32 14)) = s 32 14) (r143b : ∀ d : Int, ¬ d = dpF (s (p + 11)) lo (s 32 14) → r' 143 d = r 143 d) (r22 : r' 124 22 = s 32 14 + 1) (r49 : r' 124 49 = dpF (s (p + 11)) lo (s 32 14) + 1) (h50 : r' 124 50 = s1 32 12) (h51 : r' 124 51 = s1 p 14) (h52 : r' 124 52 = s1 32 13) : eC p s1 r' lo := by
  obtain ⟨w48, w142, w50, w51, w52, w22, w49, w143, wko, wmn⟩ := hc
  have k0 := hk.1
  have ecl : ∀ j : Int, lo ≤ j → j < s 32 14 → s1 (p + 11) j = s (p + 11) j := fun j y0 y1 => by rw [ec, if_neg (by omega)]
  have hdx := dp_cg (code := s (p + 11)) (code' := s1 (p + 11)) (lo := lo) (i := s 32 14) ecl k0
  have ew : s1 (p + 11) (s 32 14) = c := by rw [ec, if_pos rfl]
  have hl := stk_l (code := s1 (p + 11)) (lo := lo) (i := s 32 14) k0 (by rw [ew]; exact hcf)
  unfold eC
  rw [e11, e36, e14, hl.1, hl.2, hdx.1, hdx.2]
  refine ⟨(rr _ _ (by omega)).trans w48, fun j y0 y1 => (rr _ _ (by omega)).trans (w142 j y0 y1), h50, h51, h52, r22, r49, fun d d0 d1 => ?_, fun y y0 y1 => ?_, fun z => by omega⟩
  · show r' 143 d = if d = _ then _ else _
    by_cases e9 : d = dpF (s (p + 11)) lo (s 32 14)
    · rw [if_pos e9, e9]; exact r143
    · rw [if_neg e9, r143b d e9]; exact w143 d d0 (by omega)
  · by_cases e9 : y = s 32 14
    · rw [e9]
      unfold pKo kdF ptF
      rw [ew, r139, r140]
      rcases hka with ⟨h1, h2, h3⟩ | ⟨h1, h2, h3⟩
      · rw [if_pos h1, if_pos h1]
        refine ⟨h2, by rw [h3, en, if_pos rfl], fun z => by omega⟩
      · have h4 : 10 ≤ c ∧ c ≤ 16 := by unfold pLf at hcf; omega
        rw [if_neg h1, if_neg h1, if_pos h4, if_pos h4]
        exact ⟨h2, h3, fun z => by omega⟩
    · have h1 := wko y y0 (by omega)
      have hdy := dp_cg (code := s (p + 11)) (code' := s1 (p + 11)) (lo := lo) (i := y) (fun j z0 z1 => ecl j z0 (by omega)) y0
      unfold pKo kdF ptF otF at *
      rw [rr 139 _ (by omega), rr 140 _ (by omega), rr 141 _ (by omega), hdy.1, hdy.2, ecl y y0 (by omega), en y, if_neg e9]
      exact h1
theorem pKz_e {t k w v : Int} (h : pKz t k w v) : (k = 4 ∧ w = 40 ↔ t = 23) ∧ (k = 4 ∧ w = 41 ↔ t = 24) ∧ (k = 4 ∧ w = 59 ↔ t = 22) ∧ (k = 4 ∧ w = 43 ↔ t = 31) ∧ (k = 4 ∧ w = 45 ↔ t = 32) ∧ (k = 4 ∧ w = 42 ↔ t = 33) ∧ (k = 4 ∧ w = 47 ↔ t = 34) ∧ (k = 1 ∧ w = 13 ↔ t = 19) ∧ (k = 1 ∧ w = 11 ↔ t = 18) ∧ (k = 1 ∧ w = 12 ↔ t = 17) ∧ (k = 5 ↔ 25 ≤ t ∧ t ≤ 30) ∧ (k = 5 → w = t - 25) := by
  rcases h with h | h | h | h | h | h | h | h | h | h | h | h | h <;> omega
theorem pKz_w {t k w v : Int} (h : pKz t k w v) : k = 1 → 0 ≤ w ∧ w ≤ 19 := by
  rcases h with h | h | h | h | h | h | h | h | h | h | h | h | h <;> omega
def rNmq (k w : Int) : Int := if k = 1 then (if w = 8 then 3 else if 17 ≤ w then 4 + w - 17 else if 14 ≤ w then w - 14 else -1) else -1
theorem rNmq_t {t k w v : Int} (h : pKz t k w v) : (10 ≤ t ∧ t ≤ 16 ∧ rNmq k w = fPn t ∧ 0 ≤ fPn t) ∨ (¬ (10 ≤ t ∧ t ≤ 16) ∧ rNmq k w = -1) := by
  unfold rNmq fPn
  rcases h with ⟨h0, h1, h2, h⟩ | h | h | h | h | h | h | h | h | h | h | h | h
  · rw [if_pos h2]
    rcases h with h | h | h | h | h | h | h | h
    · right; rw [if_neg (by omega), if_neg (by omega), if_neg (by omega)]; omega
    · right; rw [if_neg (by omega), if_neg (by omega), if_neg (by omega)]; omega
    · right; rw [if_neg (by omega), if_neg (by omega), if_neg (by omega)]; omega
    · left; rw [if_pos h.2, if_pos h.1]; omega
    · right; rw [if_neg (by omega), if_neg (by omega), if_neg (by omega)]; omega
    · right; rw [if_neg (by omega), if_neg (by omega), if_neg (by omega)]; omega
    · right; rw [if_neg (by omega), if_neg (by omega), if_neg (by omega)]; omega
    · left
      rw [if_neg (by omega), if_neg (show ¬ t = 10 by omega)]
      by_cases e : t ≤ 13
      · rw [if_neg (by omega), if_pos (by omega), if_pos e]; omega
      · rw [if_pos (by omega), if_neg e]; omega
  · right; rw [if_neg (by omega)]; omega
  · right; rw [if_neg (by omega)]; omega
  · right; rw [if_neg (by omega)]; omega
  · right; rw [if_neg (by omega)]; omega
  · right; rw [if_neg (by omega)]; omega
  · right; rw [if_neg (by omega)]; omega
  · right; rw [if_neg (by omega)]; omega
  · right; rw [if_neg (by omega)]; omega
  · right; rw [if_neg (by omega)]; omega
  · right; rw [if_neg (by omega)]; omega
  · right; rw [if_neg (by omega)]; omega
  · right; rw [if_neg (by omega)]; omega
set_option maxRecDepth 20000 in
theorem r_iskey {c : Int} (h1 : σ 124 8 = 1 ∧ σ 124 9 = c → Q (some (.inl 1)) shM σ) (h0 : ¬ (σ 124 8 = 1 ∧ σ 124 9 = c) → Q (some (.inl 0)) shM σ) : sx_Run X 186 [.inr (.inr 124), .inl c] shM σ Q := by
  refine sx_rule0 (own := 12) (cd := kX12_isKey) (nL := 2) (by decide +kernel) (by decide +kernel) kX12_isKey_ok (by decide +kernel) (Nat.le_of_ble_eq_true rfl) 40 ?_
  conv => whnf
  refine ⟨(by first | assumption | rfl), ?_⟩
  try simp (disch := omega) only [Int.cast_ofNat_Int, up_s, up_a, up_i, mp_a, mp_ge]
  conv => whnf
  refine ⟨fun g => ?_, fun g => ?_⟩
  · simp only [sx_cc, Classical.not_not] at g
    conv => whnf
    refine ⟨fun q9 => by first | (simp at q9; done) | omega, ?_⟩
    first | exact h1 (by omega) | exact h0 (by omega)
  · simp only [sx_cc, Classical.not_not] at g
    conv => whnf
    refine ⟨(by first | assumption | rfl), ?_⟩
    try simp (disch := omega) only [Int.cast_ofNat_Int, up_s, up_a, up_i, mp_a, mp_ge]
    conv => whnf
    refine ⟨fun g => ?_, fun g => ?_⟩
    · simp only [sx_cc, Classical.not_not] at g
      conv => whnf
      refine ⟨fun q9 => by first | (simp at q9; done) | omega, ?_⟩
      first | exact h1 (by omega) | exact h0 (by omega)
    · simp only [sx_cc, Classical.not_not] at g
      conv => whnf
      refine ⟨fun q9 => by first | (simp at q9; done) | omega, ?_⟩
      first | exact h1 (by omega) | exact h0 (by omega)
set_option maxRecDepth 20000 in
theorem r_issign {c : Int} (h1 : σ 124 8 = 4 ∧ σ 124 9 = c → Q (some (.inl 1)) shM σ) (h0 : ¬ (σ 124 8 = 4 ∧ σ 124 9 = c) → Q (some (.inl 0)) shM σ) : sx_Run X 187 [.inr (.inr 124), .inl c] shM σ Q := by
  refine sx_rule0 (own := 12) (cd := kX12_isSign) (nL := 2) (by decide +kernel) (by decide +kernel) kX12_isSign_ok (by decide +kernel) (Nat.le_of_ble_eq_true rfl) 40 ?_
  conv => whnf
  refine ⟨(by first | assumption | rfl), ?_⟩
  try simp (disch := omega) only [Int.cast_ofNat_Int, up_s, up_a, up_i, mp_a, mp_ge]
  conv => whnf
  refine ⟨fun g => ?_, fun g => ?_⟩
  · simp only [sx_cc, Classical.not_not] at g
    conv => whnf
    refine ⟨fun q9 => by first | (simp at q9; done) | omega, ?_⟩
    first | exact h1 (by omega) | exact h0 (by omega)
  · simp only [sx_cc, Classical.not_not] at g
    conv => whnf
    refine ⟨(by first | assumption | rfl), ?_⟩
    try simp (disch := omega) only [Int.cast_ofNat_Int, up_s, up_a, up_i, mp_a, mp_ge]
    conv => whnf
    refine ⟨fun g => ?_, fun g => ?_⟩
    · simp only [sx_cc, Classical.not_not] at g
      conv => whnf
      refine ⟨fun q9 => by first | (simp at q9; done) | omega, ?_⟩
      first | exact h1 (by omega) | exact h0 (by omega)
    · simp only [sx_cc, Classical.not_not] at g
      conv => whnf
      refine ⟨fun q9 => by first | (simp at q9; done) | omega, ?_⟩
      first | exact h1 (by omega) | exact h0 (by omega)
set_option maxRecDepth 20000 in
theorem r_nm (h : Q (some (.inl (rNmq (σ 124 8) (σ 124 9)))) shM σ) (hb : σ 124 8 = 1 → 0 ≤ σ 124 9 ∧ σ 124 9 ≤ 19) : sx_Run X 210 [.inr (.inr 124)] shM σ Q := by
  refine sx_rule0 (own := 12) (cd := kX12_nameMet) (nL := 1) (by decide +kernel) (by decide +kernel) kX12_nameMet_ok (by decide +kernel) (Nat.le_of_ble_eq_true rfl) 40 ?_
  conv => whnf
  refine ⟨(by first | assumption | rfl), ?_⟩
  try simp (disch := omega) only [Int.cast_ofNat_Int, up_s, up_a, up_i, mp_a, mp_ge]
  conv => whnf
  refine ⟨fun g => ?_, fun g => ?_⟩
  · simp only [sx_cc, Classical.not_not] at g
    conv => whnf
    refine ⟨(by first | assumption | rfl), ?_⟩
    try simp (disch := omega) only [Int.cast_ofNat_Int, up_s, up_a, up_i, mp_a, mp_ge]
    conv => whnf
    refine ⟨fun g => ?_, fun g => ?_⟩
    · simp only [sx_cc, Classical.not_not] at g
      conv => whnf
      refine ⟨(by first | assumption | rfl), ?_⟩
      try simp (disch := omega) only [Int.cast_ofNat_Int, up_s, up_a, up_i, mp_a, mp_ge]
      conv => whnf
      refine ⟨fun g => ?_, fun g => ?_⟩
      · simp only [sx_cc, Classical.not_not] at g
        conv => whnf
        refine ⟨(by first | assumption | rfl), ?_⟩
        try simp (disch := omega) only [Int.cast_ofNat_Int, up_s, up_a, up_i, mp_a, mp_ge]
        conv => whnf
        refine ⟨fun g => ?_, fun g => ?_⟩
        · simp only [sx_cc, Classical.not_not] at g
          conv => whnf
          refine ⟨fun q9 => by first | (simp at q9; done) | omega, ?_⟩
          unfold rNmq at h
          first
          | (rw [if_neg (by omega)] at h; exact h)
          | (rw [if_pos (by omega), if_pos (by omega)] at h; exact h)
          | (rw [if_pos (by omega), if_neg (by omega), if_pos (by omega)] at h; exact h)
          | (rw [if_pos (by omega), if_neg (by omega), if_neg (by omega), if_pos (by omega)] at h; exact h)
          | (rw [if_pos (by omega), if_neg (by omega), if_neg (by omega), if_neg (by omega)] at h; exact h)
        · simp only [sx_cc, Classical.not_not] at g
          conv => whnf
          refine ⟨(by first | assumption | rfl), ?_⟩
          try simp (disch := omega) only [Int.cast_ofNat_Int, up_s, up_a, up_i, mp_a, mp_ge]
          conv => whnf
          refine ⟨⟨by omega, by omega⟩, ?_⟩
          conv => whnf
          refine ⟨fun q9 => by first | (simp at q9; done) | omega, ?_⟩
          unfold rNmq at h
          first
          | (rw [if_neg (by omega)] at h; exact h)
          | (rw [if_pos (by omega), if_pos (by omega)] at h; exact h)
          | (rw [if_pos (by omega), if_neg (by omega), if_pos (by omega)] at h; exact h)
          | (rw [if_pos (by omega), if_neg (by omega), if_neg (by omega), if_pos (by omega)] at h; exact h)
          | (rw [if_pos (by omega), if_neg (by omega), if_neg (by omega), if_neg (by omega)] at h; exact h)
      · simp only [sx_cc, Classical.not_not] at g
        conv => whnf
        refine ⟨(by first | assumption | rfl), ?_⟩
        try simp (disch := omega) only [Int.cast_ofNat_Int, up_s, up_a, up_i, mp_a, mp_ge]
        conv => whnf
        refine ⟨⟨by omega, by omega⟩, ?_⟩
        conv => whnf
        refine ⟨⟨by omega, by omega⟩, ?_⟩
        conv => whnf
        refine ⟨fun q9 => by first | (simp at q9; done) | omega, ?_⟩
        unfold rNmq at h
        first
        | (rw [if_neg (by omega)] at h; exact h)
        | (rw [if_pos (by omega), if_pos (by omega)] at h; exact h)
        | (rw [if_pos (by omega), if_neg (by omega), if_pos (by omega)] at h; exact h)
        | (rw [if_pos (by omega), if_neg (by omega), if_neg (by omega), if_pos (by omega)] at h; exact h)
        | (rw [if_pos (by omega), if_neg (by omega), if_neg (by omega), if_neg (by omega)] at h; exact h)
    · simp only [sx_cc, Classical.not_not] at g
      conv => whnf
      refine ⟨fun q9 => by first | (simp at q9; done) | omega, ?_⟩
      unfold rNmq at h
      first
      | (rw [if_neg (by omega)] at h; exact h)
      | (rw [if_pos (by omega), if_pos (by omega)] at h; exact h)
      | (rw [if_pos (by omega), if_neg (by omega), if_pos (by omega)] at h; exact h)
      | (rw [if_pos (by omega), if_neg (by omega), if_neg (by omega), if_pos (by omega)] at h; exact h)
      | (rw [if_pos (by omega), if_neg (by omega), if_neg (by omega), if_neg (by omega)] at h; exact h)
  · simp only [sx_cc, Classical.not_not] at g
    conv => whnf
    refine ⟨fun q9 => by first | (simp at q9; done) | omega, ?_⟩
    unfold rNmq at h
    first
    | (rw [if_neg (by omega)] at h; exact h)
    | (rw [if_pos (by omega), if_pos (by omega)] at h; exact h)
    | (rw [if_pos (by omega), if_neg (by omega), if_pos (by omega)] at h; exact h)
    | (rw [if_pos (by omega), if_neg (by omega), if_neg (by omega), if_pos (by omega)] at h; exact h)
    | (rw [if_pos (by omega), if_neg (by omega), if_neg (by omega), if_neg (by omega)] at h; exact h)
set_option maxRecDepth 20000 in
theorem r_cnt {c : Int} (ec : σ 124 51 = c) (hc : 0 ≤ c ∧ c ≤ 64) (h1 : c < 64 → Q (some (.inl 1)) shM (sx_up σ 124 51 (c + 1))) (h0 : c = 64 → Q (some (.inl 0)) shM (sx_up (sx_up σ 124 4 2) 124 5 (σ 124 10))) : sx_Run X 208 [.inr (.inr 124)] shM σ Q := by
  refine sx_rule0 (own := 12) (cd := kX12_isCounted) (nL := 1) (by decide +kernel) (by decide +kernel) kX12_isCounted_ok (by decide +kernel) (Nat.le_of_ble_eq_true rfl) 40 ?_
  conv => whnf
  refine ⟨(by first | assumption | rfl), ?_⟩
  try simp (disch := omega) only [Int.cast_ofNat_Int, up_s, up_a, up_i, mp_a, mp_ge]
  try simp only [ec]
  conv => whnf
  refine ⟨fun g => ?_, fun g => ?_⟩
  · simp only [sx_cc, Classical.not_not] at g
    conv => whnf
    refine ⟨(by first | assumption | rfl), ?_⟩
    try simp (disch := omega) only [Int.cast_ofNat_Int, up_s, up_a, up_i, mp_a, mp_ge]
    try simp only [ec]
    conv => whnf
    refine ⟨⟨by omega, by omega⟩, ?_⟩
    conv => whnf
    refine ⟨(by first | assumption | rfl), ?_⟩
    try simp (disch := omega) only [Int.cast_ofNat_Int, up_s, up_a, up_i, mp_a, mp_ge]
    try simp only [ec]
    conv => whnf
    refine ⟨fun q9 => by first | (simp at q9; done) | omega, ?_⟩
    first | exact h1 (by omega) | exact h0 (by omega)
  · simp only [sx_cc, Classical.not_not] at g
    conv => whnf
    refine ⟨Nat.le_of_ble_eq_true rfl, Nat.le_of_ble_eq_true rfl, (by first | assumption | rfl), ?_⟩
    refine r_wrong ?_
    conv => whnf
    refine ⟨fun q9 => by first | (simp at q9; done) | omega, ?_⟩
    first | exact h1 (by omega) | exact h0 (by omega)
set_option maxRecDepth 20000 in
theorem r_waits (hq : rQ σ tx n9 i) {k n : Int} (en : σ 124 48 = n) (hn : 0 ≤ n ∧ n < 96) (h : Q none shM (sx_up (sx_up σ 142 n k) 124 48 (n + 1))) : sx_Run X 209 [.inr (.inr 124), .inl k] shM σ Q := by
  have t46 := pt_124_46 hq.pt
  refine sx_rule0 (own := 12) (cd := kX12_waitsFor) (nL := 2) (by decide +kernel) (by decide +kernel) kX12_waitsFor_ok (by decide +kernel) (Nat.le_of_ble_eq_true rfl) 40 ?_
  conv => whnf
  refine ⟨(by first | assumption | rfl), ?_⟩
  try simp (disch := omega) only [Int.cast_ofNat_Int, up_s, up_a, up_i, mp_a, mp_ge]
  try simp only [t46]
  try simp only [en]
  try simp only [lk_142]
  conv => whnf
  refine ⟨(by first | assumption | rfl), ?_⟩
  try simp (disch := omega) only [Int.cast_ofNat_Int, up_s, up_a, up_i, mp_a, mp_ge]
  try simp only [t46]
  try simp only [en]
  try simp only [lk_142]
  conv => whnf
  refine ⟨sx_ixI (by first | assumption | rfl) (by omega) (by omega), ?_⟩
  conv => whnf
  refine ⟨(by first | assumption | rfl), ?_⟩
  try simp (disch := omega) only [Int.cast_ofNat_Int, up_s, up_a, up_i, mp_a, mp_ge]
  try simp only [t46]
  try simp only [en]
  try simp only [lk_142]
  conv => whnf
  refine ⟨⟨by omega, by omega⟩, ?_⟩
  conv => whnf
  refine ⟨(by first | assumption | rfl), ?_⟩
  try simp (disch := omega) only [Int.cast_ofNat_Int, up_s, up_a, up_i, mp_a, mp_ge]
  try simp only [t46]
  try simp only [en]
  try simp only [lk_142]
  conv => whnf
  refine ⟨rfl, ?_⟩
  exact h
end SXR6
