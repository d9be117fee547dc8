/-! A LAW IS TOLD, reference side: its signs (by wip/whole) -/
section SXR5
variable {X : sx_X} {Q : sx_R} {σ σ0 σ' σ1 σ2 s s' s1 : sx_S} {tx : Int → Int} {n9 p i lo : Int}
def rRk (k : Int) : Int := if 13 ≤ k then 6 else if 11 ≤ k then 5 else if 5 ≤ k then 4 else if k = 2 then 3 else if k = 3 then 2 else if k = 4 then 1 else 0
/-- the reference's number of a sign -/
def fKr (t : Int) : Int := if t = 23 then 0 else if t = 19 then 2 else fKd t
theorem rRk_k {t : Int} (h : pSn t) : rRk (fKr t) = fRk t := by
  unfold pSn at h
  rcases h with rfl | rfl | rfl | rfl | h
  · rfl
  · rfl
  · rfl
  · rfl
  · have e : fKr t = t - 20 := by
      unfold fKr fKd
      rw [if_neg (show ¬ t = 23 by omega), if_neg (show ¬ t = 19 by omega), if_neg (show ¬ t = 17 by omega), if_neg (show ¬ t = 18 by omega)]
    rw [e]
    unfold rRk fRk
    repeat' split
    all_goals omega
/-- knots of the reference beside the class's signs -/
def pKo (code num : Int → Int) (lo y : Int) (r : sx_S) : Prop := r 139 (64 + y) = kdF code y ∧ r 140 (64 + y) = ptF code num lo y ∧ (3 ≤ kdF code y → r 141 (64 + y) = otF code lo y)
/-- q signs of m are bound -/
def eB (p : Int) (s s1 r : sx_S) (lo q : Int) : Prop := r 124 48 = s 32 11 - q ∧ (∀ j : Int, 0 ≤ j → j < s 32 11 - q → r 142 j = fKr (s 36 j)) ∧ r 124 22 = s 32 14 + q ∧ r 124 49 = dpF (s1 (p + 11)) lo (s 32 14 + q) ∧ (∀ d : Int, 0 ≤ d → d < dpF (s1 (p + 11)) lo (s 32 14 + q) → r 143 d = ixF (s1 (p + 11)) lo (s 32 14 + q) d) ∧ (∀ y : Int, lo ≤ y → y < s 32 14 + q → pKo (s1 (p + 11)) (s1 (p + 12)) lo y r)
abbrev FEb (w a j : Int) : Prop := (a = 124 ∧ (j = 22 ∨ j = 48 ∨ j = 49)) ∨ (139 ≤ a ∧ a ≤ 141 ∧ 64 + w ≤ j) ∨ a = 143
set_option maxRecDepth 20000 in
theorem r_rank {k : Int} (h : Q (some (.inl (rRk k))) shM σ) : sx_Run X 204 [.inl k] shM σ Q := by
  refine sx_rule0 (own := 12) (cd := kX12_rank) (nL := 1) (by decide +kernel) (by decide +kernel) kX12_rank_ok (by decide +kernel) (Nat.le_of_ble_eq_true rfl) 40 ?_
  conv => whnf
  refine ⟨fun g => ?_, fun g => ?_⟩
  · simp only [sx_cc, Classical.not_not] at g
    conv => whnf
    refine ⟨fun g => ?_, fun g => ?_⟩
    · simp only [sx_cc, Classical.not_not] at g
      conv => whnf
      refine ⟨fun g => ?_, fun g => ?_⟩
      · simp only [sx_cc, Classical.not_not] at g
        conv => whnf
        refine ⟨fun g => ?_, fun g => ?_⟩
        · simp only [sx_cc, Classical.not_not] at g
          conv => whnf
          refine ⟨fun g => ?_, fun g => ?_⟩
          · simp only [sx_cc, Classical.not_not] at g
            conv => whnf
            refine ⟨fun g => ?_, fun g => ?_⟩
            · simp only [sx_cc, Classical.not_not] at g
              conv => whnf
              refine ⟨fun q9 => by first | (simp at q9; done) | omega, ?_⟩
              have e9 : rRk k = 0 := by
                unfold rRk
                repeat' split
                all_goals omega
              rw [e9] at h; exact h
            · simp only [sx_cc, Classical.not_not] at g
              conv => whnf
              refine ⟨fun q9 => by first | (simp at q9; done) | omega, ?_⟩
              have e9 : rRk k = 1 := by
                unfold rRk
                repeat' split
                all_goals omega
              rw [e9] at h; exact h
          · simp only [sx_cc, Classical.not_not] at g
            conv => whnf
            refine ⟨fun q9 => by first | (simp at q9; done) | omega, ?_⟩
            have e9 : rRk k = 2 := by
              unfold rRk
              repeat' split
              all_goals omega
            rw [e9] at h; exact h
        · simp only [sx_cc, Classical.not_not] at g
          conv => whnf
          refine ⟨fun q9 => by first | (simp at q9; done) | omega, ?_⟩
          have e9 : rRk k = 3 := by
            unfold rRk
            repeat' split
            all_goals omega
          rw [e9] at h; exact h
      · simp only [sx_cc, Classical.not_not] at g
        conv => whnf
        refine ⟨fun q9 => by first | (simp at q9; done) | omega, ?_⟩
        have e9 : rRk k = 4 := by
          unfold rRk
          repeat' split
          all_goals omega
        rw [e9] at h; exact h
    · simp only [sx_cc, Classical.not_not] at g
      conv => whnf
      refine ⟨fun q9 => by first | (simp at q9; done) | omega, ?_⟩
      have e9 : rRk k = 5 := by
        unfold rRk
        repeat' split
        all_goals omega
      rw [e9] at h; exact h
  · simp only [sx_cc, Classical.not_not] at g
    conv => whnf
    refine ⟨fun q9 => by first | (simp at q9; done) | omega, ?_⟩
    have e9 : rRk k = 6 := by
      unfold rRk
      repeat' split
      all_goals omega
    rw [e9] at h; exact h
set_option maxRecDepth 20000 in
theorem r_grown (hq : rQ σ tx n9 i) {k a b w d : Int} (ew : σ 124 22 = w) (ed : σ 124 49 = d) (hw : 0 ≤ w ∧ w < 64) (hd : 0 ≤ d ∧ d < 96) (h : Q none shM (sx_up (sx_up (sx_up (sx_up (sx_up (sx_up σ 139 (64 + w) k) 140 (64 + w) a) 141 (64 + w) b) 143 d w) 124 49 (d + 1)) 124 22 (w + 1))) : sx_Run X 205 [.inr (.inr 124), .inl k, .inl a, .inl b] shM σ Q := by
  have t1 := pt_124_42 hq.pt
  have t2 := pt_124_43 hq.pt
  have t3 := pt_124_44 hq.pt
  have t4 := pt_124_47 hq.pt
  refine sx_rule0 (own := 12) (cd := kX12_grown) (nL := 4) (by decide +kernel) (by decide +kernel) kX12_grown_ok (by decide +kernel) (Nat.le_of_ble_eq_true rfl) 40 ?_
  conv => whnf
  refine ⟨(by first | assumption | rfl), ?_⟩
  try simp (disch := omega) only [Int.cast_ofNat_Int, up_s, up_a, up_i, mp_a, mp_ge]
  try simp only [t1]
  try simp only [t2]
  try simp only [t3]
  try simp only [t4]
  try simp only [ew]
  try simp only [ed]
  try simp only [lk_139]
  try simp only [lk_140]
  try simp only [lk_141]
  try simp only [lk_143]
  conv => whnf
  refine ⟨(by first | assumption | rfl), ?_⟩
  try simp (disch := omega) only [Int.cast_ofNat_Int, up_s, up_a, up_i, mp_a, mp_ge]
  try simp only [t1]
  try simp only [t2]
  try simp only [t3]
  try simp only [t4]
  try simp only [ew]
  try simp only [ed]
  try simp only [lk_139]
  try simp only [lk_140]
  try simp only [lk_141]
  try simp only [lk_143]
  conv => whnf
  refine ⟨⟨by omega, by omega⟩, ?_⟩
  conv => whnf
  refine ⟨sx_ixI (by first | assumption | rfl) (by omega) (by omega), ?_⟩
  conv => whnf
  refine ⟨(by first | assumption | rfl), ?_⟩
  try simp (disch := omega) only [Int.cast_ofNat_Int, up_s, up_a, up_i, mp_a, mp_ge]
  try simp only [t1]
  try simp only [t2]
  try simp only [t3]
  try simp only [t4]
  try simp only [ew]
  try simp only [ed]
  try simp only [lk_139]
  try simp only [lk_140]
  try simp only [lk_141]
  try simp only [lk_143]
  conv => whnf
  refine ⟨(by first | assumption | rfl), ?_⟩
  try simp (disch := omega) only [Int.cast_ofNat_Int, up_s, up_a, up_i, mp_a, mp_ge]
  try simp only [t1]
  try simp only [t2]
  try simp only [t3]
  try simp only [t4]
  try simp only [ew]
  try simp only [ed]
  try simp only [lk_139]
  try simp only [lk_140]
  try simp only [lk_141]
  try simp only [lk_143]
  conv => whnf
  refine ⟨⟨by omega, by omega⟩, ?_⟩
  conv => whnf
  refine ⟨sx_ixI (by first | assumption | rfl) (by omega) (by omega), ?_⟩
  conv => whnf
  refine ⟨(by first | assumption | rfl), ?_⟩
  try simp (disch := omega) only [Int.cast_ofNat_Int, up_s, up_a, up_i, mp_a, mp_ge]
  try simp only [t1]
  try simp only [t2]
  try simp only [t3]
  try simp only [t4]
  try simp only [ew]
  try simp only [ed]
  try simp only [lk_139]
  try simp only [lk_140]
  try simp only [lk_141]
  try simp only [lk_143]
  conv => whnf
  refine ⟨(by first | assumption | rfl), ?_⟩
  try simp (disch := omega) only [Int.cast_ofNat_Int, up_s, up_a, up_i, mp_a, mp_ge]
  try simp only [t1]
  try simp only [t2]
  try simp only [t3]
  try simp only [t4]
  try simp only [ew]
  try simp only [ed]
  try simp only [lk_139]
  try simp only [lk_140]
  try simp only [lk_141]
  try simp only [lk_143]
  conv => whnf
  refine ⟨⟨by omega, by omega⟩, ?_⟩
  conv => whnf
  refine ⟨sx_ixI (by first | assumption | rfl) (by omega) (by omega), ?_⟩
  conv => whnf
  refine ⟨(by first | assumption | rfl), ?_⟩
  try simp (disch := omega) only [Int.cast_ofNat_Int, up_s, up_a, up_i, mp_a, mp_ge]
  try simp only [t1]
  try simp only [t2]
  try simp only [t3]
  try simp only [t4]
  try simp only [ew]
  try simp only [ed]
  try simp only [lk_139]
  try simp only [lk_140]
  try simp only [lk_141]
  try simp only [lk_143]
  conv => whnf
  refine ⟨(by first | assumption | rfl), ?_⟩
  try simp (disch := omega) only [Int.cast_ofNat_Int, up_s, up_a, up_i, mp_a, mp_ge]
  try simp only [t1]
  try simp only [t2]
  try simp only [t3]
  try simp only [t4]
  try simp only [ew]
  try simp only [ed]
  try simp only [lk_139]
  try simp only [lk_140]
  try simp only [lk_141]
  try simp only [lk_143]
  conv => whnf
  refine ⟨(by first | assumption | rfl), ?_⟩
  try simp (disch := omega) only [Int.cast_ofNat_Int, up_s, up_a, up_i, mp_a, mp_ge]
  try simp only [t1]
  try simp only [t2]
  try simp only [t3]
  try simp only [t4]
  try simp only [ew]
  try simp only [ed]
  try simp only [lk_139]
  try simp only [lk_140]
  try simp only [lk_141]
  try simp only [lk_143]
  conv => whnf
  refine ⟨sx_ixI (by first | assumption | rfl) (by omega) (by omega), ?_⟩
  conv => whnf
  refine ⟨(by first | assumption | rfl), ?_⟩
  try simp (disch := omega) only [Int.cast_ofNat_Int, up_s, up_a, up_i, mp_a, mp_ge]
  try simp only [t1]
  try simp only [t2]
  try simp only [t3]
  try simp only [t4]
  try simp only [ew]
  try simp only [ed]
  try simp only [lk_139]
  try simp only [lk_140]
  try simp only [lk_141]
  try simp only [lk_143]
  conv => whnf
  refine ⟨⟨by omega, by omega⟩, ?_⟩
  conv => whnf
  refine ⟨(by first | assumption | rfl), ?_⟩
  try simp (disch := omega) only [Int.cast_ofNat_Int, up_s, up_a, up_i, mp_a, mp_ge]
  try simp only [t1]
  try simp only [t2]
  try simp only [t3]
  try simp only [t4]
  try simp only [ew]
  try simp only [ed]
  try simp only [lk_139]
  try simp only [lk_140]
  try simp only [lk_141]
  try simp only [lk_143]
  conv => whnf
  refine ⟨(by first | assumption | rfl), ?_⟩
  try simp (disch := omega) only [Int.cast_ofNat_Int, up_s, up_a, up_i, mp_a, mp_ge]
  try simp only [t1]
  try simp only [t2]
  try simp only [t3]
  try simp only [t4]
  try simp only [ew]
  try simp only [ed]
  try simp only [lk_139]
  try simp only [lk_140]
  try simp only [lk_141]
  try simp only [lk_143]
  conv => whnf
  refine ⟨⟨by omega, by omega⟩, ?_⟩
  conv => whnf
  refine ⟨(by first | assumption | rfl), ?_⟩
  try simp (disch := omega) only [Int.cast_ofNat_Int, up_s, up_a, up_i, mp_a, mp_ge]
  try simp only [t1]
  try simp only [t2]
  try simp only [t3]
  try simp only [t4]
  try simp only [ew]
  try simp only [ed]
  try simp only [lk_139]
  try simp only [lk_140]
  try simp only [lk_141]
  try simp only [lk_143]
  conv => whnf
  refine ⟨rfl, ?_⟩
  exact h
set_option maxRecDepth 20000 in
theorem r_drop (hq : rQ σ tx n9 i) {d : Int} (ed : σ 124 49 = d) (hd : 1 ≤ d ∧ d ≤ 96) (h : Q (some (.inl (σ 143 (d - 1)))) shM (sx_up σ 124 49 (d - 1))) : sx_Run X 206 [.inr (.inr 124)] shM σ Q := by
  have t4 := pt_124_47 hq.pt
  refine sx_rule0 (own := 12) (cd := kX12_dropHeld) (nL := 1) (by decide +kernel) (by decide +kernel) kX12_dropHeld_ok (by decide +kernel) (Nat.le_of_ble_eq_true rfl) 40 ?_
  conv => whnf
  refine ⟨(by first | assumption | rfl), ?_⟩
  try simp (disch := omega) only [Int.cast_ofNat_Int, up_s, up_a, up_i, mp_a, mp_ge]
  try simp only [t4]
  try simp only [ed]
  try simp only [lk_143]
  conv => whnf
  refine ⟨⟨by omega, by omega⟩, ?_⟩
  conv => whnf
  refine ⟨(by first | assumption | rfl), ?_⟩
  try simp (disch := omega) only [Int.cast_ofNat_Int, up_s, up_a, up_i, mp_a, mp_ge]
  try simp only [t4]
  try simp only [ed]
  try simp only [lk_143]
  conv => whnf
  refine ⟨(by first | assumption | rfl), ?_⟩
  try simp (disch := omega) only [Int.cast_ofNat_Int, up_s, up_a, up_i, mp_a, mp_ge]
  try simp only [t4]
  try simp only [ed]
  try simp only [lk_143]
  conv => whnf
  refine ⟨(by first | assumption | rfl), ?_⟩
  try simp (disch := omega) only [Int.cast_ofNat_Int, up_s, up_a, up_i, mp_a, mp_ge]
  try simp only [t4]
  try simp only [ed]
  try simp only [lk_143]
  conv => whnf
  refine ⟨sx_ixI (by first | assumption | rfl) (by omega) (by omega), ?_⟩
  try simp (disch := omega) only [Int.cast_ofNat_Int, up_s, up_a, up_i, mp_a, mp_ge]
  try simp only [t4]
  try simp only [ed]
  try simp only [lk_143]
  conv => whnf
  refine ⟨fun q9 => by first | (simp at q9; done) | omega, ?_⟩
  exact h
/-- one more sign is bound -/
theorem eB_s {m k q a b kd : Int} {r r' : sx_S} (hp : 2 ≤ p ∧ p ≤ 17) (hk1 : 1 ≤ k) (hI : eInv p s) (hr : pRel p k s s1 m) (hk : eStk p s lo) (h13 : s 32 13 = 0) (hq : 0 ≤ q ∧ q < m) (hB : eB p s s1 r lo q) (e48 : r' 124 48 = s 32 11 - q - 1) (e22 : r' 124 22 = s 32 14 + q + 1)
    (ek : r' 139 (64 + (s 32 14 + q)) = kd) (ea : r' 140 (64 + (s 32 14 + q)) = a) (eb : r' 141 (64 + (s 32 14 + q)) = b)
    (hc : (s 36 (s 32 11 - 1 - q) = 19 ∧ kd = 2 ∧ a = ixF (s1 (p + 11)) lo (s 32 14 + q) (dpF (s1 (p + 11)) lo (s 32 14 + q) - 1) ∧ r' 124 49 = dpF (s1 (p + 11)) lo (s 32 14 + q) ∧ r' 143 (dpF (s1 (p + 11)) lo (s 32 14 + q) - 1) = s 32 14 + q ∧ (∀ d : Int, ¬ d = dpF (s1 (p + 11)) lo (s 32 14 + q) - 1 → r' 143 d = r 143 d)) ∨ (¬ s 36 (s 32 11 - 1 - q) = 19 ∧ kd = fKd (s 36 (s 32 11 - 1 - q)) ∧ a = ixF (s1 (p + 11)) lo (s 32 14 + q) (dpF (s1 (p + 11)) lo (s 32 14 + q) - 2) ∧ b = ixF (s1 (p + 11)) lo (s 32 14 + q) (dpF (s1 (p + 11)) lo (s 32 14 + q) - 1) ∧ r' 124 49 = dpF (s1 (p + 11)) lo (s 32 14 + q) - 1 ∧ r' 143 (dpF (s1 (p + 11)) lo (s 32 14 + q) - 2) = s 32 14 + q ∧ (∀ d : Int, ¬ d = dpF (s1 (p + 11)) lo (s 32 14 + q) - 2 → r' 143 d = r 143 d)))
    (hf : ∀ x j : Int, x = 142 ∨ (139 ≤ x ∧ x ≤ 141 ∧ ¬ j = 64 + (s 32 14 + q)) → r' x j = r x j) : eB p s s1 r' lo (q + 1) := by
  obtain ⟨b1, b2, b3, b4, b5, b6⟩ := hB
  obtain ⟨r0, r1, r2, r3, r4, r5, r6⟩ := hr
  obtain ⟨a1, a2, a3, a4, a5, a6, a7, a8, a9⟩ := rel_inv hp hk1 hI ⟨r0, r1, r2, r3, r4, r5, r6⟩
  have z2 := hI.2.2.1
  have hI6 := hI.2.2.2.2.2.2.1
  have k0 := hk.1
  have hcd := ((r6 (by omega)).2 q hq.1 hq.2).1
  have hrk := r3 (s 32 11 - 1 - q) (by omega) (by omega)
  have hsn := hI6 (s 32 11 - 1 - q) (by omega) (by omega)
  have h23 := fRk_n23 hk1 hrk
  have hwr := hI.2.1
  unfold eB
  rw [show s 32 14 + (q + 1) = s 32 14 + q + 1 by omega, show s 32 11 - (q + 1) = s 32 11 - q - 1 by omega]
  have hrow : ∀ y : Int, lo ≤ y → y < s 32 14 + q → pKo (s1 (p + 11)) (s1 (p + 12)) lo y r' := fun y y0 y1 => by
    have h1 := b6 y y0 y1
    unfold pKo
    rw [hf 139 _ (by omega), hf 140 _ (by omega), hf 141 _ (by omega)]
    exact h1
  rcases hc with ⟨c1, c2, c3, c4, c5, c6⟩ | ⟨c1, c2, c3, c3b, c4, c5, c6⟩
  · have hst := stk_n (code := s1 (p + 11)) (lo := lo) (i := s 32 14 + q) (by omega) (hcd.trans c1)
    rw [hst.1, hst.2]
    refine ⟨e48, fun j y0 y1 => by rw [hf 142 j (by omega)]; exact b2 j y0 (by omega), e22, c4, fun d d0 d1 => ?_, fun y y0 y1 => ?_⟩
    · show r' 143 d = if d = _ then _ else _
      by_cases e9 : d = dpF (s1 (p + 11)) lo (s 32 14 + q) - 1
      · rw [if_pos e9, e9]; exact c5
      · rw [if_neg e9, c6 d e9]; exact b5 d d0 d1
    · by_cases e9 : y = s 32 14 + q
      · rw [e9]
        have n1 : ¬ s1 (p + 11) (s 32 14 + q) = 21 := by omega
        have n2 : ¬ (10 ≤ s1 (p + 11) (s 32 14 + q) ∧ s1 (p + 11) (s 32 14 + q) ≤ 16) := by omega
        have n3 : s1 (p + 11) (s 32 14 + q) = 19 := hcd.trans c1
        refine ⟨?_, ?_, ?_⟩
        · rw [ek, c2]; unfold kdF; rw [if_neg n1, if_neg n2, if_pos n3]
        · rw [ea, c3]; unfold ptF; rw [if_neg n1, if_neg n2, if_pos n3]
        · intro z; unfold kdF at z; rw [if_neg n1, if_neg n2, if_pos n3] at z; omega
      · exact hrow y y0 (by omega)
  · have hpb : pBn (s1 (p + 11) (s 32 14 + q)) := by rw [hcd]; unfold pSn at hsn; unfold pBn; omega
    have hst := stk_b (code := s1 (p + 11)) (lo := lo) (i := s 32 14 + q) (by omega) hpb
    rw [hst.1, hst.2]
    refine ⟨e48, fun j y0 y1 => by rw [hf 142 j (by omega)]; exact b2 j y0 (by omega), e22, c4, fun d d0 d1 => ?_, fun y y0 y1 => ?_⟩
    · show r' 143 d = if d = _ then _ else _
      by_cases e9 : d = dpF (s1 (p + 11)) lo (s 32 14 + q) - 2
      · rw [if_pos e9, e9]; exact c5
      · rw [if_neg e9, c6 d e9]; exact b5 d d0 (by omega)
    · by_cases e9 : y = s 32 14 + q
      · rw [e9]
        unfold pBn at hpb
        have n1 : ¬ s1 (p + 11) (s 32 14 + q) = 21 := by omega
        have n2 : ¬ (10 ≤ s1 (p + 11) (s 32 14 + q) ∧ s1 (p + 11) (s 32 14 + q) ≤ 16) := by omega
        have n3 : ¬ s1 (p + 11) (s 32 14 + q) = 19 := by omega
        refine ⟨?_, ?_, ?_⟩
        · rw [ek, c2]; unfold kdF; rw [if_neg n1, if_neg n2, if_neg n3, hcd]
        · rw [ea, c3]; unfold ptF; rw [if_neg n1, if_neg n2, if_neg n3]
        · intro _; rw [eb, c3b]; rfl
      · exact hrow y y0 (by omega)
set_option maxRecDepth 20000 in
theorem r_bind (hq : rQ σ tx n9 i) (hp : 2 ≤ p ∧ p ≤ 17) {k m : Int} (hk1 : 1 ≤ k) (hlo : 0 ≤ lo) (hI : eInv p s) (hk : eStk p s lo) (h13 : s 32 13 = 0) (hr : pRel p k s s1 m) (hB0 : eB p s s1 σ lo 0) (h : ∀ σ', fr (FEb (s 32 14)) σ σ' → rQ σ' tx n9 i → eB p s s1 σ' lo m → Q none shM σ') : sx_Run X 207 [.inr (.inr 124), .inl k] shM σ Q := by
  have hqi := hq
  have hfi : fr (FEb (s 32 14)) σ σ := fun _ _ _ => rfl
  obtain ⟨q, hqe⟩ : ∃ q : Int, q = 0 := ⟨0, rfl⟩
  have hB : eB p s s1 σ lo q := by rw [hqe]; exact hB0
  have hr0 := hr.1
  have hq0 : 0 ≤ q := by omega
  have hqm : q ≤ m := by omega
  have e48 := hB.1
  have hbd := eInv_bd hI
  have hz := eStk_pop hp hk1 hI hr hk h13 q.toNat (by omega)
  rw [show s 32 14 + ((q.toNat : Nat) : Int) = s 32 14 + q by omega, show s 32 11 - ((q.toNat : Nat) : Int) = s 32 11 - q by omega] at hz
  have hsn := hI.2.2.2.2.2.2.1
  have hwr := hI.2.1
  have hz2 := hI.2.2.1
  obtain ⟨a1, a2, a3, a4, a5, a6, a7, a8, a9⟩ := rel_inv hp hk1 hI hr
  have hbn := fBn_bd (r := s 36) (s 32 11 - q).toNat
  have hob := fOpn_bd (row := s 36) (s 32 11 - m).toNat
  have e142 : 0 < s 32 11 - q → σ 142 (s 32 11 - q - 1) = fKr (s 36 (s 32 11 - q - 1)) := fun z => hB.2.1 _ (by omega) (by omega)
  have t46 := pt_124_46 hqi.pt
  have hdb := (cV_b hz.1 (i := s 32 14 + q) ⟨by have := hk.1; omega, Int.le_refl _⟩).1
  have e22 := hB.2.2.1
  have e49 := hB.2.2.2.1
  have hx := hB.2.2.2.2.1
  refine sx_rule2 (own := 12) (cd := kX12_bind) (nL := 5) (by decide +kernel) (by decide +kernel) kX12_bind_ok (by decide +kernel) (Nat.le_of_ble_eq_true rfl) [0] 40 (fun n t L st _ σ' => (t = 0 ∧ ∃ w2 : Option sx_V, ∃ w3 : Option sx_V, ∃ w4 : Option sx_V, st = [] ∧ L = [some (.inr (.inr (124))), some (.inl (k)), w2, w3, w4] ∧ (∃ q : Int, rQ σ' tx n9 i ∧ fr (FEb (s 32 14)) σ σ' ∧ eB p s s1 σ' lo q ∧ 0 ≤ q ∧ q ≤ m ∧ σ' 124 48 = s 32 11 - q) ∧ n = (1000 + σ' 124 48).toNat)) ?_ ?_
  · skip
    conv => whnf
    refine ⟨(by first | assumption | rfl), ?_⟩
    try simp (disch := omega) only [Int.cast_ofNat_Int, up_s, up_a, up_i, mp_a, mp_ge]
    try simp only [e48]
    try simp only [t46]
    try simp only [e142]
    try simp only [e22]
    try simp only [lk_142]
    conv => whnf
    refine ⟨fun g => ?_, fun g => ?_⟩
    · simp only [sx_cc, Classical.not_not] at g
      conv => whnf
      refine ⟨rfl, ?_⟩
      have eqm : q = m := by
        apply Classical.byContradiction
        intro z
        have h1 := hr.2.2.2.1 (s 32 11 - 1 - q) (by omega) (by omega)
        rw [show s 32 11 - 1 - q = s 32 11 - q - 1 by omega] at h1
        omega
      rw [eqm] at hB
      exact h _ hfi hqi hB
    · simp only [sx_cc, Classical.not_not] at g
      have e142 := e142 (by omega)
      have hs9 := hsn (s 32 11 - q - 1) (by omega) (by omega)
      conv => whnf
      refine ⟨(by first | assumption | rfl), ?_⟩
      try simp (disch := omega) only [Int.cast_ofNat_Int, up_s, up_a, up_i, mp_a, mp_ge]
      try simp only [e48]
      try simp only [t46]
      try simp only [e142]
      try simp only [e22]
      try simp only [lk_142]
      conv => whnf
      refine ⟨(by first | assumption | rfl), ?_⟩
      try simp (disch := omega) only [Int.cast_ofNat_Int, up_s, up_a, up_i, mp_a, mp_ge]
      try simp only [e48]
      try simp only [t46]
      try simp only [e142]
      try simp only [e22]
      try simp only [lk_142]
      conv => whnf
      refine ⟨⟨by omega, by omega⟩, ?_⟩
      conv => whnf
      refine ⟨sx_ixI (by first | assumption | rfl) (by omega) (by omega), ?_⟩
      try simp (disch := omega) only [Int.cast_ofNat_Int, up_s, up_a, up_i, mp_a, mp_ge]
      try simp only [e48]
      try simp only [t46]
      try simp only [e142]
      try simp only [e22]
      try simp only [lk_142]
      conv => whnf
      refine ⟨Nat.le_of_ble_eq_true rfl, Nat.le_of_ble_eq_true rfl, ?_⟩
      refine r_rank ?_
      conv => whnf
      refine ⟨fun g => ?_, fun g => ?_⟩
      · simp only [sx_cc, Classical.not_not] at g
        rw [rRk_k hs9] at g
        have g9 := g
        conv => whnf
        refine ⟨rfl, ?_⟩
        have eqm : q = m := by
          apply Classical.byContradiction
          intro z
          have h1 := hr.2.2.2.1 (s 32 11 - 1 - q) (by omega) (by omega)
          rw [show s 32 11 - 1 - q = s 32 11 - q - 1 by omega] at h1
          omega
        rw [eqm] at hB
        exact h _ hfi hqi hB
      · simp only [sx_cc, Classical.not_not] at g
        rw [rRk_k hs9] at g
        have hqm2 : q < m := by
          rcases Classical.em (q = m) with e | e
          · exfalso
            have r4 := hr.2.2.2.2.1
            rw [e] at g
            omega
          · omega
        have e1q : s 32 11 - 1 - q = s 32 11 - q - 1 := by omega
        skip
        conv => whnf
        refine ⟨(by first | assumption | rfl), ?_⟩
        try simp (disch := omega) only [Int.cast_ofNat_Int, up_s, up_a, up_i, mp_a, mp_ge]
        try simp only [e48]
        try simp only [t46]
        try simp only [e142]
        try simp only [e22]
        try simp only [lk_142]
        conv => whnf
        refine ⟨⟨by omega, by omega⟩, ?_⟩
        conv => whnf
        refine ⟨(by first | assumption | rfl), ?_⟩
        try simp (disch := omega) only [Int.cast_ofNat_Int, up_s, up_a, up_i, mp_a, mp_ge]
        try simp only [e48]
        try simp only [t46]
        try simp only [e142]
        try simp only [e22]
        try simp only [lk_142]
        conv => whnf
        refine ⟨(by first | assumption | rfl), ?_⟩
        try simp (disch := omega) only [Int.cast_ofNat_Int, up_s, up_a, up_i, mp_a, mp_ge]
        try simp only [e48]
        try simp only [t46]
        try simp only [e142]
        try simp only [e22]
        try simp only [lk_142]
        conv => whnf
        refine ⟨(by first | assumption | rfl), ?_⟩
        try simp (disch := omega) only [Int.cast_ofNat_Int, up_s, up_a, up_i, mp_a, mp_ge]
        try simp only [e48]
        try simp only [t46]
        try simp only [e142]
        try simp only [e22]
        try simp only [lk_142]
        conv => whnf
        refine ⟨sx_ixI (by first | assumption | rfl) (by omega) (by omega), ?_⟩
        try simp (disch := omega) only [Int.cast_ofNat_Int, up_s, up_a, up_i, mp_a, mp_ge]
        try simp only [e48]
        try simp only [t46]
        try simp only [e142]
        try simp only [e22]
        try simp only [lk_142]
        conv => whnf
        refine ⟨fun g => ?_, fun g => ?_⟩
        · simp only [sx_cc, Classical.not_not] at g
          have g19 : ¬ s 36 (s 32 11 - 1 - q) = 19 := fun z => g (by rw [e1q] at z; rw [z]; rfl)
          have h23 := fRk_n23 hk1 (hr.2.2.2.1 (s 32 11 - 1 - q) (by omega) (by omega))
          have hkd : fKr (s 36 (s 32 11 - q - 1)) = fKd (s 36 (s 32 11 - 1 - q)) := by rw [← e1q]; unfold fKr; rw [if_neg h23, if_neg g19]
          have hb2 := fBn_s (r := s 36) (n := s 32 11 - 1 - q) (by omega)
          rw [if_neg (by omega), show s 32 11 - 1 - q + 1 = s 32 11 - q by omega] at hb2
          have hb3 := (fBn_bd (r := s 36) (s 32 11 - 1 - q).toNat).1
          have hdp : 2 ≤ dpF (s1 (p + 11)) lo (s 32 14 + q) := by omega
          skip
          conv => whnf
          refine ⟨Nat.le_of_ble_eq_true rfl, Nat.le_of_ble_eq_true rfl, (by first | assumption | rfl), ?_⟩
          refine r_drop (tx := tx) (n9 := n9) (i := i) (by repeat (first | exact hqi | refine rQ_up ?_ (by unfold FRd; omega))) (d := dpF (s1 (p + 11)) lo (s 32 14 + q)) (by (repeat (first | rw [up_n (by omega)])); exact e49) (by omega) ?_
          conv => whnf
          refine ⟨Nat.le_of_ble_eq_true rfl, Nat.le_of_ble_eq_true rfl, (by first | assumption | rfl), ?_⟩
          first
          | refine r_drop (tx := tx) (n9 := n9) (i := i) (by repeat (first | exact hqi | refine rQ_up ?_ (by unfold FRd; omega))) (d := dpF (s1 (p + 11)) lo (s 32 14 + q) - 1) (by rw [up_s]) (by omega) ?_
          | refine r_drop (tx := tx) (n9 := n9) (i := i) (by repeat (first | exact hqi | refine rQ_up ?_ (by unfold FRd; omega))) (d := dpF (s1 (p + 11)) lo (s 32 14 + q)) (by (repeat (first | rw [up_n (by omega)])); exact e49) (by omega) ?_
          conv => whnf
          refine ⟨Nat.le_of_ble_eq_true rfl, Nat.le_of_ble_eq_true rfl, (by first | assumption | rfl), ?_⟩
          first
          | refine r_grown (tx := tx) (n9 := n9) (i := i) (by repeat (first | exact hqi | refine rQ_up ?_ (by unfold FRd; omega))) (w := s 32 14 + q) (d := dpF (s1 (p + 11)) lo (s 32 14 + q) - 1 - 1) (by (repeat (first | rw [up_n (by omega)])); exact e22) (by rw [up_s]) (by omega) (by omega) ?_
          | refine r_grown (tx := tx) (n9 := n9) (i := i) (by repeat (first | exact hqi | refine rQ_up ?_ (by unfold FRd; omega))) (w := s 32 14 + q) (d := dpF (s1 (p + 11)) lo (s 32 14 + q) - 1) (by (repeat (first | rw [up_n (by omega)])); exact e22) (by rw [up_s]) (by omega) (by omega) ?_
          conv => whnf
          refine ⟨_, ⟨rfl, _, _, _, rfl, rfl, ?_, rfl⟩⟩
          first
          | (refine ⟨q + 1, ?_, fun a j z9 => ?_, eB_s (r := σ) (q := q) (kd := fKr (s 36 (s 32 11 - q - 1))) (a := σ 143 (dpF (s1 (p + 11)) lo (s 32 14 + q) - 1)) (b := -1) hp hk1 hI hr hk h13 ⟨hq0, by omega⟩ hB ?_ ?_ (by repeat (first | rw [up_s] | rw [up_n (by omega)])) (by repeat (first | rw [up_s] | rw [up_n (by omega)])) (by repeat (first | rw [up_s] | rw [up_n (by omega)])) (Or.inl ⟨g19, gk, hx _ (by omega) (by omega), by (repeat (first | rw [up_s] | rw [up_n (by omega)])); omega, by repeat (first | rw [up_s] | rw [up_n (by omega)]), fun d z => by repeat (first | rw [up_n (by omega)])⟩) (fun x j z => by repeat (first | rw [up_n (by omega)])), by omega, by omega, ?_⟩
             · repeat (first | exact hqi | refine rQ_up ?_ (by unfold FRd; omega))
             · unfold FEb at z9
               (repeat (first | rw [up_n (by omega)]))
               try exact hfi a j (by unfold FEb; omega)
             · (repeat (first | rw [up_s] | rw [up_n (by omega)]))
               try omega
             · (repeat (first | rw [up_s] | rw [up_n (by omega)]))
               try omega
             · (repeat (first | rw [up_s] | rw [up_n (by omega)]))
               try omega)
          | (refine ⟨q + 1, ?_, fun a j z9 => ?_, eB_s (r := σ) (q := q) (kd := fKr (s 36 (s 32 11 - q - 1))) (a := σ 143 (dpF (s1 (p + 11)) lo (s 32 14 + q) - 1 - 1)) (b := σ 143 (dpF (s1 (p + 11)) lo (s 32 14 + q) - 1)) hp hk1 hI hr hk h13 ⟨hq0, by omega⟩ hB ?_ ?_ (by repeat (first | rw [up_s] | rw [up_n (by omega)])) (by repeat (first | rw [up_s] | rw [up_n (by omega)])) (by repeat (first | rw [up_s] | rw [up_n (by omega)])) (Or.inr ⟨g19, hkd, by rw [show dpF (s1 (p + 11)) lo (s 32 14 + q) - 1 - 1 = dpF (s1 (p + 11)) lo (s 32 14 + q) - 2 by omega]; exact hx _ (by omega) (by omega), hx _ (by omega) (by omega), by (repeat (first | rw [up_s] | rw [up_n (by omega)])); omega, by rw [show dpF (s1 (p + 11)) lo (s 32 14 + q) - 2 = dpF (s1 (p + 11)) lo (s 32 14 + q) - 1 - 1 by omega]; (repeat (first | rw [up_s] | rw [up_n (by omega)])), fun d z => by repeat (first | rw [up_n (by omega)])⟩) (fun x j z => by repeat (first | rw [up_n (by omega)])), by omega, by omega, ?_⟩
             · repeat (first | exact hqi | refine rQ_up ?_ (by unfold FRd; omega))
             · unfold FEb at z9
               (repeat (first | rw [up_n (by omega)]))
               try exact hfi a j (by unfold FEb; omega)
             · (repeat (first | rw [up_s] | rw [up_n (by omega)]))
               try omega
             · (repeat (first | rw [up_s] | rw [up_n (by omega)]))
               try omega
             · (repeat (first | rw [up_s] | rw [up_n (by omega)]))
               try omega)
        · simp only [sx_cc, Classical.not_not] at g
          have gk := g
          have g19 : s 36 (s 32 11 - 1 - q) = 19 := by
            rw [e1q]
            apply Classical.byContradiction
            intro z
            have h23 := fRk_n23 hk1 (hr.2.2.2.1 (s 32 11 - 1 - q) (by omega) (by omega))
            rw [e1q] at h23
            unfold fKr fKd at g
            unfold pSn at hs9
            rw [if_neg h23, if_neg z] at g
            repeat' split at g
            all_goals omega
          skip
          conv => whnf
          refine ⟨Nat.le_of_ble_eq_true rfl, Nat.le_of_ble_eq_true rfl, (by first | assumption | rfl), ?_⟩
          first
          | refine r_drop (tx := tx) (n9 := n9) (i := i) (by repeat (first | exact hqi | refine rQ_up ?_ (by unfold FRd; omega))) (d := dpF (s1 (p + 11)) lo (s 32 14 + q) - 1) (by rw [up_s]) (by omega) ?_
          | refine r_drop (tx := tx) (n9 := n9) (i := i) (by repeat (first | exact hqi | refine rQ_up ?_ (by unfold FRd; omega))) (d := dpF (s1 (p + 11)) lo (s 32 14 + q)) (by (repeat (first | rw [up_n (by omega)])); exact e49) (by omega) ?_
          conv => whnf
          refine ⟨Nat.le_of_ble_eq_true rfl, Nat.le_of_ble_eq_true rfl, (by first | assumption | rfl), ?_⟩
          first
          | refine r_grown (tx := tx) (n9 := n9) (i := i) (by repeat (first | exact hqi | refine rQ_up ?_ (by unfold FRd; omega))) (w := s 32 14 + q) (d := dpF (s1 (p + 11)) lo (s 32 14 + q) - 1 - 1) (by (repeat (first | rw [up_n (by omega)])); exact e22) (by rw [up_s]) (by omega) (by omega) ?_
          | refine r_grown (tx := tx) (n9 := n9) (i := i) (by repeat (first | exact hqi | refine rQ_up ?_ (by unfold FRd; omega))) (w := s 32 14 + q) (d := dpF (s1 (p + 11)) lo (s 32 14 + q) - 1) (by (repeat (first | rw [up_n (by omega)])); exact e22) (by rw [up_s]) (by omega) (by omega) ?_
          conv => whnf
          refine ⟨_, ⟨rfl, _, _, _, rfl, rfl, ?_, rfl⟩⟩
          first
          | (refine ⟨q + 1, ?_, fun a j z9 => ?_, eB_s (r := σ) (q := q) (kd := fKr (s 36 (s 32 11 - q - 1))) (a := σ 143 (dpF (s1 (p + 11)) lo (s 32 14 + q) - 1)) (b := -1) hp hk1 hI hr hk h13 ⟨hq0, by omega⟩ hB ?_ ?_ (by repeat (first | rw [up_s] | rw [up_n (by omega)])) (by repeat (first | rw [up_s] | rw [up_n (by omega)])) (by repeat (first | rw [up_s] | rw [up_n (by omega)])) (Or.inl ⟨g19, gk, hx _ (by omega) (by omega), by (repeat (first | rw [up_s] | rw [up_n (by omega)])); omega, by repeat (first | rw [up_s] | rw [up_n (by omega)]), fun d z => by repeat (first | rw [up_n (by omega)])⟩) (fun x j z => by repeat (first | rw [up_n (by omega)])), by omega, by omega, ?_⟩
             · repeat (first | exact hqi | refine rQ_up ?_ (by unfold FRd; omega))
             · unfold FEb at z9
               (repeat (first | rw [up_n (by omega)]))
               try exact hfi a j (by unfold FEb; omega)
             · (repeat (first | rw [up_s] | rw [up_n (by omega)]))
               try omega
             · (repeat (first | rw [up_s] | rw [up_n (by omega)]))
               try omega
             · (repeat (first | rw [up_s] | rw [up_n (by omega)]))
               try omega)
          | (refine ⟨q + 1, ?_, fun a j z9 => ?_, eB_s (r := σ) (q := q) (kd := fKr (s 36 (s 32 11 - q - 1))) (a := σ 143 (dpF (s1 (p + 11)) lo (s 32 14 + q) - 1 - 1)) (b := σ 143 (dpF (s1 (p + 11)) lo (s 32 14 + q) - 1)) hp hk1 hI hr hk h13 ⟨hq0, by omega⟩ hB ?_ ?_ (by repeat (first | rw [up_s] | rw [up_n (by omega)])) (by repeat (first | rw [up_s] | rw [up_n (by omega)])) (by repeat (first | rw [up_s] | rw [up_n (by omega)])) (Or.inr ⟨g19, hkd, by rw [show dpF (s1 (p + 11)) lo (s 32 14 + q) - 1 - 1 = dpF (s1 (p + 11)) lo (s 32 14 + q) - 2 by omega]; exact hx _ (by omega) (by omega), hx _ (by omega) (by omega), by (repeat (first | rw [up_s] | rw [up_n (by omega)])); omega, by rw [show dpF (s1 (p + 11)) lo (s 32 14 + q) - 2 = dpF (s1 (p + 11)) lo (s 32 14 + q) - 1 - 1 by omega]; (repeat (first | rw [up_s] | rw [up_n (by omega)])), fun d z => by repeat (first | rw [up_n (by omega)])⟩) (fun x j z => by repeat (first | rw [up_n (by omega)])), by omega, by omega, ?_⟩
             · repeat (first | exact hqi | refine rQ_up ?_ (by unfold FRd; omega))
             · unfold FEb at z9
               (repeat (first | rw [up_n (by omega)]))
               try exact hfi a j (by unfold FEb; omega)
             · (repeat (first | rw [up_s] | rw [up_n (by omega)]))
               try omega
             · (repeat (first | rw [up_s] | rw [up_n (by omega)]))
               try omega
             · (repeat (first | rw [up_s] | rw [up_n (by omega)]))
               try omega)
  · intro n t L st σ' hk
    obtain ⟨rfl, w2, w3, w4, rfl, rfl, hc, rfl⟩ := hk
    obtain ⟨q, hqi, hfi, hB, hq0, hqm, e48⟩ := hc
    have hbd := eInv_bd hI
    have hz := eStk_pop hp hk1 hI hr hk h13 q.toNat (by omega)
    rw [show s 32 14 + ((q.toNat : Nat) : Int) = s 32 14 + q by omega, show s 32 11 - ((q.toNat : Nat) : Int) = s 32 11 - q by omega] at hz
    have hsn := hI.2.2.2.2.2.2.1
    have hwr := hI.2.1
    have hz2 := hI.2.2.1
    obtain ⟨a1, a2, a3, a4, a5, a6, a7, a8, a9⟩ := rel_inv hp hk1 hI hr
    have hbn := fBn_bd (r := s 36) (s 32 11 - q).toNat
    have hob := fOpn_bd (row := s 36) (s 32 11 - m).toNat
    have e142 : 0 < s 32 11 - q → σ' 142 (s 32 11 - q - 1) = fKr (s 36 (s 32 11 - q - 1)) := fun z => hB.2.1 _ (by omega) (by omega)
    have t46 := pt_124_46 hqi.pt
    have hdb := (cV_b hz.1 (i := s 32 14 + q) ⟨by have := hk.1; omega, Int.le_refl _⟩).1
    have e22 := hB.2.2.1
    have e49 := hB.2.2.2.1
    have hx := hB.2.2.2.2.1
    conv => whnf
    refine ⟨(by first | assumption | rfl), ?_⟩
    try simp (disch := omega) only [Int.cast_ofNat_Int, up_s, up_a, up_i, mp_a, mp_ge]
    try simp only [e48]
    try simp only [t46]
    try simp only [e142]
    try simp only [e22]
    try simp only [lk_142]
    conv => whnf
    refine ⟨fun g => ?_, fun g => ?_⟩
    · simp only [sx_cc, Classical.not_not] at g
      conv => whnf
      refine ⟨rfl, ?_⟩
      have eqm : q = m := by
        apply Classical.byContradiction
        intro z
        have h1 := hr.2.2.2.1 (s 32 11 - 1 - q) (by omega) (by omega)
        rw [show s 32 11 - 1 - q = s 32 11 - q - 1 by omega] at h1
        omega
      rw [eqm] at hB
      exact h _ hfi hqi hB
    · simp only [sx_cc, Classical.not_not] at g
      have e142 := e142 (by omega)
      have hs9 := hsn (s 32 11 - q - 1) (by omega) (by omega)
      conv => whnf
      refine ⟨(by first | assumption | rfl), ?_⟩
      try simp (disch := omega) only [Int.cast_ofNat_Int, up_s, up_a, up_i, mp_a, mp_ge]
      try simp only [e48]
      try simp only [t46]
      try simp only [e142]
      try simp only [e22]
      try simp only [lk_142]
      conv => whnf
      refine ⟨(by first | assumption | rfl), ?_⟩
      try simp (disch := omega) only [Int.cast_ofNat_Int, up_s, up_a, up_i, mp_a, mp_ge]
      try simp only [e48]
      try simp only [t46]
      try simp only [e142]
      try simp only [e22]
      try simp only [lk_142]
      conv => whnf
      refine ⟨⟨by omega, by omega⟩, ?_⟩
      conv => whnf
      refine ⟨sx_ixI (by first | assumption | rfl) (by omega) (by omega), ?_⟩
      try simp (disch := omega) only [Int.cast_ofNat_Int, up_s, up_a, up_i, mp_a, mp_ge]
      try simp only [e48]
      try simp only [t46]
      try simp only [e142]
      try simp only [e22]
      try simp only [lk_142]
      conv => whnf
      refine ⟨Nat.le_of_ble_eq_true rfl, Nat.le_of_ble_eq_true rfl, ?_⟩
      refine r_rank ?_
      conv => whnf
      refine ⟨fun g => ?_, fun g => ?_⟩
      · simp only [sx_cc, Classical.not_not] at g
        rw [rRk_k hs9] at g
        have g9 := g
        conv => whnf
        refine ⟨rfl, ?_⟩
        have eqm : q = m := by
          apply Classical.byContradiction
          intro z
          have h1 := hr.2.2.2.1 (s 32 11 - 1 - q) (by omega) (by omega)
          rw [show s 32 11 - 1 - q = s 32 11 - q - 1 by omega] at h1
          omega
        rw [eqm] at hB
        exact h _ hfi hqi hB
      · simp only [sx_cc, Classical.not_not] at g
        rw [rRk_k hs9] at g
        have hqm2 : q < m := by
          rcases Classical.em (q = m) with e | e
          · exfalso
            have r4 := hr.2.2.2.2.1
            rw [e] at g
            omega
          · omega
        have e1q : s 32 11 - 1 - q = s 32 11 - q - 1 := by omega
        skip
        conv => whnf
        refine ⟨(by first | assumption | rfl), ?_⟩
        try simp (disch := omega) only [Int.cast_ofNat_Int, up_s, up_a, up_i, mp_a, mp_ge]
        try simp only [e48]
        try simp only [t46]
        try simp only [e142]
        try simp only [e22]
        try simp only [lk_142]
        conv => whnf
        refine ⟨⟨by omega, by omega⟩, ?_⟩
        conv => whnf
        refine ⟨(by first | assumption | rfl), ?_⟩
        try simp (disch := omega) only [Int.cast_ofNat_Int, up_s, up_a, up_i, mp_a, mp_ge]
        try simp only [e48]
        try simp only [t46]
        try simp only [e142]
        try simp only [e22]
        try simp only [lk_142]
        conv => whnf
        refine ⟨(by first | assumption | rfl), ?_⟩
        try simp (disch := omega) only [Int.cast_ofNat_Int, up_s, up_a, up_i, mp_a, mp_ge]
        try simp only [e48]
        try simp only [t46]
        try simp only [e142]
        try simp only [e22]
        try simp only [lk_142]
        conv => whnf
        refine ⟨(by first | assumption | rfl), ?_⟩
        try simp (disch := omega) only [Int.cast_ofNat_Int, up_s, up_a, up_i, mp_a, mp_ge]
        try simp only [e48]
        try simp only [t46]
        try simp only [e142]
        try simp only [e22]
        try simp only [lk_142]
        conv => whnf
        refine ⟨sx_ixI (by first | assumption | rfl) (by omega) (by omega), ?_⟩
        try simp (disch := omega) only [Int.cast_ofNat_Int, up_s, up_a, up_i, mp_a, mp_ge]
        try simp only [e48]
        try simp only [t46]
        try simp only [e142]
        try simp only [e22]
        try simp only [lk_142]
        conv => whnf
        refine ⟨fun g => ?_, fun g => ?_⟩
        · simp only [sx_cc, Classical.not_not] at g
          have g19 : ¬ s 36 (s 32 11 - 1 - q) = 19 := fun z => g (by rw [e1q] at z; rw [z]; rfl)
          have h23 := fRk_n23 hk1 (hr.2.2.2.1 (s 32 11 - 1 - q) (by omega) (by omega))
          have hkd : fKr (s 36 (s 32 11 - q - 1)) = fKd (s 36 (s 32 11 - 1 - q)) := by rw [← e1q]; unfold fKr; rw [if_neg h23, if_neg g19]
          have hb2 := fBn_s (r := s 36) (n := s 32 11 - 1 - q) (by omega)
          rw [if_neg (by omega), show s 32 11 - 1 - q + 1 = s 32 11 - q by omega] at hb2
          have hb3 := (fBn_bd (r := s 36) (s 32 11 - 1 - q).toNat).1
          have hdp : 2 ≤ dpF (s1 (p + 11)) lo (s 32 14 + q) := by omega
          skip
          conv => whnf
          refine ⟨Nat.le_of_ble_eq_true rfl, Nat.le_of_ble_eq_true rfl, (by first | assumption | rfl), ?_⟩
          refine r_drop (tx := tx) (n9 := n9) (i := i) (by repeat (first | exact hqi | refine rQ_up ?_ (by unfold FRd; omega))) (d := dpF (s1 (p + 11)) lo (s 32 14 + q)) (by (repeat (first | rw [up_n (by omega)])); exact e49) (by omega) ?_
          conv => whnf
          refine ⟨Nat.le_of_ble_eq_true rfl, Nat.le_of_ble_eq_true rfl, (by first | assumption | rfl), ?_⟩
          first
          | refine r_drop (tx := tx) (n9 := n9) (i := i) (by repeat (first | exact hqi | refine rQ_up ?_ (by unfold FRd; omega))) (d := dpF (s1 (p + 11)) lo (s 32 14 + q) - 1) (by rw [up_s]) (by omega) ?_
          | refine r_drop (tx := tx) (n9 := n9) (i := i) (by repeat (first | exact hqi | refine rQ_up ?_ (by unfold FRd; omega))) (d := dpF (s1 (p + 11)) lo (s 32 14 + q)) (by (repeat (first | rw [up_n (by omega)])); exact e49) (by omega) ?_
          conv => whnf
          refine ⟨Nat.le_of_ble_eq_true rfl, Nat.le_of_ble_eq_true rfl, (by first | assumption | rfl), ?_⟩
          first
          | refine r_grown (tx := tx) (n9 := n9) (i := i) (by repeat (first | exact hqi | refine rQ_up ?_ (by unfold FRd; omega))) (w := s 32 14 + q) (d := dpF (s1 (p + 11)) lo (s 32 14 + q) - 1 - 1) (by (repeat (first | rw [up_n (by omega)])); exact e22) (by rw [up_s]) (by omega) (by omega) ?_
          | refine r_grown (tx := tx) (n9 := n9) (i := i) (by repeat (first | exact hqi | refine rQ_up ?_ (by unfold FRd; omega))) (w := s 32 14 + q) (d := dpF (s1 (p + 11)) lo (s 32 14 + q) - 1) (by (repeat (first | rw [up_n (by omega)])); exact e22) (by rw [up_s]) (by omega) (by omega) ?_
          conv => whnf
          refine ⟨_, ?_, ⟨rfl, _, _, _, rfl, rfl, ?_, rfl⟩⟩
          · (repeat (first | rw [up_s] | rw [up_n (by omega)]))
            try rw [e48]
            omega
          · first
            | (refine ⟨q + 1, ?_, fun a j z9 => ?_, eB_s (r := σ') (q := q) (kd := fKr (s 36 (s 32 11 - q - 1))) (a := σ' 143 (dpF (s1 (p + 11)) lo (s 32 14 + q) - 1)) (b := -1) hp hk1 hI hr hk h13 ⟨hq0, by omega⟩ hB ?_ ?_ (by repeat (first | rw [up_s] | rw [up_n (by omega)])) (by repeat (first | rw [up_s] | rw [up_n (by omega)])) (by repeat (first | rw [up_s] | rw [up_n (by omega)])) (Or.inl ⟨g19, gk, hx _ (by omega) (by omega), by (repeat (first | rw [up_s] | rw [up_n (by omega)])); omega, by repeat (first | rw [up_s] | rw [up_n (by omega)]), fun d z => by repeat (first | rw [up_n (by omega)])⟩) (fun x j z => by repeat (first | rw [up_n (by omega)])), by omega, by omega, ?_⟩
               · repeat (first | exact hqi | refine rQ_up ?_ (by unfold FRd; omega))
               · unfold FEb at z9
                 (repeat (first | rw [up_n (by omega)]))
                 try exact hfi a j (by unfold FEb; omega)
               · (repeat (first | rw [up_s] | rw [up_n (by omega)]))
                 try omega
               · (repeat (first | rw [up_s] | rw [up_n (by omega)]))
                 try omega
               · (repeat (first | rw [up_s] | rw [up_n (by omega)]))
                 try omega)
            | (refine ⟨q + 1, ?_, fun a j z9 => ?_, eB_s (r := σ') (q := q) (kd := fKr (s 36 (s 32 11 - q - 1))) (a := σ' 143 (dpF (s1 (p + 11)) lo (s 32 14 + q) - 1 - 1)) (b := σ' 143 (dpF (s1 (p + 11)) lo (s 32 14 + q) - 1)) hp hk1 hI hr hk h13 ⟨hq0, by omega⟩ hB ?_ ?_ (by repeat (first | rw [up_s] | rw [up_n (by omega)])) (by repeat (first | rw [up_s] | rw [up_n (by omega)])) (by repeat (first | rw [up_s] | rw [up_n (by omega)])) (Or.inr ⟨g19, hkd, by rw [show dpF (s1 (p + 11)) lo (s 32 14 + q) - 1 - 1 = dpF (s1 (p + 11)) lo (s 32 14 + q) - 2 by omega]; exact hx _ (by omega) (by omega), hx _ (by omega) (by omega), by (repeat (first | rw [up_s] | rw [up_n (by omega)])); omega, by rw [show dpF (s1 (p + 11)) lo (s 32 14 + q) - 2 = dpF (s1 (p + 11)) lo (s 32 14 + q) - 1 - 1 by omega]; (repeat (first | rw [up_s] | rw [up_n (by omega)])), fun d z => by repeat (first | rw [up_n (by omega)])⟩) (fun x j z => by repeat (first | rw [up_n (by omega)])), by omega, by omega, ?_⟩
               · repeat (first | exact hqi | refine rQ_up ?_ (by unfold FRd; omega))
               · unfold FEb at z9
                 (repeat (first | rw [up_n (by omega)]))
                 try exact hfi a j (by unfold FEb; omega)
               · (repeat (first | rw [up_s] | rw [up_n (by omega)]))
                 try omega
               · (repeat (first | rw [up_s] | rw [up_n (by omega)]))
                 try omega
               · (repeat (first | rw [up_s] | rw [up_n (by omega)]))
                 try omega)
        · simp only [sx_cc, Classical.not_not] at g
          have gk := g
          have g19 : s 36 (s 32 11 - 1 - q) = 19 := by
            rw [e1q]
            apply Classical.byContradiction
            intro z
            have h23 := fRk_n23 hk1 (hr.2.2.2.1 (s 32 11 - 1 - q) (by omega) (by omega))
            rw [e1q] at h23
            unfold fKr fKd at g
            unfold pSn at hs9
            rw [if_neg h23, if_neg z] at g
            repeat' split at g
            all_goals omega
          skip
          conv => whnf
          refine ⟨Nat.le_of_ble_eq_true rfl, Nat.le_of_ble_eq_true rfl, (by first | assumption | rfl), ?_⟩
          first
          | refine r_drop (tx := tx) (n9 := n9) (i := i) (by repeat (first | exact hqi | refine rQ_up ?_ (by unfold FRd; omega))) (d := dpF (s1 (p + 11)) lo (s 32 14 + q) - 1) (by rw [up_s]) (by omega) ?_
          | refine r_drop (tx := tx) (n9 := n9) (i := i) (by repeat (first | exact hqi | refine rQ_up ?_ (by unfold FRd; omega))) (d := dpF (s1 (p + 11)) lo (s 32 14 + q)) (by (repeat (first | rw [up_n (by omega)])); exact e49) (by omega) ?_
          conv => whnf
          refine ⟨Nat.le_of_ble_eq_true rfl, Nat.le_of_ble_eq_true rfl, (by first | assumption | rfl), ?_⟩
          first
          | refine r_grown (tx := tx) (n9 := n9) (i := i) (by repeat (first | exact hqi | refine rQ_up ?_ (by unfold FRd; omega))) (w := s 32 14 + q) (d := dpF (s1 (p + 11)) lo (s 32 14 + q) - 1 - 1) (by (repeat (first | rw [up_n (by omega)])); exact e22) (by rw [up_s]) (by omega) (by omega) ?_
          | refine r_grown (tx := tx) (n9 := n9) (i := i) (by repeat (first | exact hqi | refine rQ_up ?_ (by unfold FRd; omega))) (w := s 32 14 + q) (d := dpF (s1 (p + 11)) lo (s 32 14 + q) - 1) (by (repeat (first | rw [up_n (by omega)])); exact e22) (by rw [up_s]) (by omega) (by omega) ?_
          conv => whnf
          refine ⟨_, ?_, ⟨rfl, _, _, _, rfl, rfl, ?_, rfl⟩⟩
          · (repeat (first | rw [up_s] | rw [up_n (by omega)]))
            try rw [e48]
            omega
          · first
            | (refine ⟨q + 1, ?_, fun a j z9 => ?_, eB_s (r := σ') (q := q) (kd := fKr (s 36 (s 32 11 - q - 1))) (a := σ' 143 (dpF (s1 (p + 11)) lo (s 32 14 + q) - 1)) (b := -1) hp hk1 hI hr hk h13 ⟨hq0, by omega⟩ hB ?_ ?_ (by repeat (first | rw [up_s] | rw [up_n (by omega)])) (by repeat (first | rw [up_s] | rw [up_n (by omega)])) (by repeat (first | rw [up_s] | rw [up_n (by omega)])) (Or.inl ⟨g19, gk, hx _ (by omega) (by omega), by (repeat (first | rw [up_s] | rw [up_n (by omega)])); omega, by repeat (first | rw [up_s] | rw [up_n (by omega)]), fun d z => by repeat (first | rw [up_n (by omega)])⟩) (fun x j z => by repeat (first | rw [up_n (by omega)])), by omega, by omega, ?_⟩
               · repeat (first | exact hqi | refine rQ_up ?_ (by unfold FRd; omega))
               · unfold FEb at z9
                 (repeat (first | rw [up_n (by omega)]))
                 try exact hfi a j (by unfold FEb; omega)
               · (repeat (first | rw [up_s] | rw [up_n (by omega)]))
                 try omega
               · (repeat (first | rw [up_s] | rw [up_n (by omega)]))
                 try omega
               · (repeat (first | rw [up_s] | rw [up_n (by omega)]))
                 try omega)
            | (refine ⟨q + 1, ?_, fun a j z9 => ?_, eB_s (r := σ') (q := q) (kd := fKr (s 36 (s 32 11 - q - 1))) (a := σ' 143 (dpF (s1 (p + 11)) lo (s 32 14 + q) - 1 - 1)) (b := σ' 143 (dpF (s1 (p + 11)) lo (s 32 14 + q) - 1)) hp hk1 hI hr hk h13 ⟨hq0, by omega⟩ hB ?_ ?_ (by repeat (first | rw [up_s] | rw [up_n (by omega)])) (by repeat (first | rw [up_s] | rw [up_n (by omega)])) (by repeat (first | rw [up_s] | rw [up_n (by omega)])) (Or.inr ⟨g19, hkd, by rw [show dpF (s1 (p + 11)) lo (s 32 14 + q) - 1 - 1 = dpF (s1 (p + 11)) lo (s 32 14 + q) - 2 by omega]; exact hx _ (by omega) (by omega), hx _ (by omega) (by omega), by (repeat (first | rw [up_s] | rw [up_n (by omega)])); omega, by rw [show dpF (s1 (p + 11)) lo (s 32 14 + q) - 2 = dpF (s1 (p + 11)) lo (s 32 14 + q) - 1 - 1 by omega]; (repeat (first | rw [up_s] | rw [up_n (by omega)])), fun d z => by repeat (first | rw [up_n (by omega)])⟩) (fun x j z => by repeat (first | rw [up_n (by omega)])), by omega, by omega, ?_⟩
               · repeat (first | exact hqi | refine rQ_up ?_ (by unfold FRd; omega))
               · unfold FEb at z9
                 (repeat (first | rw [up_n (by omega)]))
                 try exact hfi a j (by unfold FEb; omega)
               · (repeat (first | rw [up_s] | rw [up_n (by omega)]))
                 try omega
               · (repeat (first | rw [up_s] | rw [up_n (by omega)]))
                 try omega
               · (repeat (first | rw [up_s] | rw [up_n (by omega)]))
                 try omega)
end SXR5
