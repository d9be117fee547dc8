/-! A LAW IS TOLD, reference side: the whole of it (by wip/whole) -/
section SXR9
variable {X : sx_X} {Q : sx_R} {σ σ0 σ' σ1 σ2 s s' s1 r r' s3 : sx_S} {tx : Int → Int} {n9 p i lo : Int} {E : Nat → sx_S} {m : Nat} {O : Option (Int × Int)}
theorem zOpd_no {t v k : Int} (h : zOpd p s s1 t v) (h' : zOpdF p s t v k) : False := by
  unfold zOpdF at h'
  rcases h with ⟨a1, a2, a3, _⟩ | ⟨a1, a2, a3, _⟩ | ⟨a1, a3, _⟩ | ⟨a1, a2, a3, _⟩
  · omega
  · omega
  · omega
  · omega
theorem zOpd_u {t v : Int} (h : zOpd p s s1 t v) (h' : zOpd p s s' t v) : s1 = s' := by
  rcases h with ⟨a1, a2, a3, e⟩ | ⟨a1, a2, a3, e⟩ | ⟨a1, a3, e⟩ | ⟨a1, a2, a3, e⟩
  · rcases h' with ⟨b1, b2, b3, e'⟩ | ⟨b1, b2, b3, e'⟩ | ⟨b1, b3, e'⟩ | ⟨b1, b2, b3, e'⟩
    · exact e.trans e'.symm
    · omega
    · omega
    · omega
  · rcases h' with ⟨b1, b2, b3, e'⟩ | ⟨b1, b2, b3, e'⟩ | ⟨b1, b3, e'⟩ | ⟨b1, b2, b3, e'⟩
    · omega
    · exact e.trans e'.symm
    · omega
    · omega
  · rcases h' with ⟨b1, b2, b3, e'⟩ | ⟨b1, b2, b3, e'⟩ | ⟨b1, b3, e'⟩ | ⟨b1, b2, b3, e'⟩
    · omega
    · omega
    · exact e.trans e'.symm
    · omega
  · rcases h' with ⟨b1, b2, b3, e'⟩ | ⟨b1, b2, b3, e'⟩ | ⟨b1, b3, e'⟩ | ⟨b1, b2, b3, e'⟩
    · omega
    · omega
    · omega
    · exact e.trans e'.symm
theorem zOpdF_u {t v k k' : Int} (h : zOpdF p s t v k) (h' : zOpdF p s t v k') : k = k' := by
  unfold zOpdF at h h'
  rcases h with h | h | h | h | h <;> rcases h' with h' | h' | h' | h' | h' <;> omega
theorem zOptF_0 {t : Int} (h : zOptF p s t 0) : False := by
  rcases h with ⟨_, _, h⟩ | ⟨_, _, s1, m, _, h | h⟩
  · omega
  · omega
  · omega
/-- how a law's telling ends: none well, some with that fault -/
def zFin (p : Int) (tx : Int → Int) (n9 i : Int) (E : Nat → sx_S) (m : Nat) (s3 : sx_S) (O : Option (Int × Int)) : Prop := (O = none ∧ kT tx n9 (kI tx n9 m i) = 22 ∧ E m 32 13 = 0 ∧ E m 32 12 = 0 ∧ ∃ q : Int, pRel p 1 (E m) s3 q) ∨ (∃ k : Int, O = some (k, kS tx n9 (kI tx n9 m i)) ∧ ((kT tx n9 (kI tx n9 m i) = 36 ∧ k = 1) ∨ (¬ kT tx n9 (kI tx n9 m i) = 36 ∧ ¬ (kT tx n9 (kI tx n9 m i) = 22 ∧ E m 32 13 = 0 ∧ E m 32 12 = 0) ∧ ((¬ E m 32 13 = 0 ∧ zOpdF p (E m) (kT tx n9 (kI tx n9 m i)) (kV tx n9 (kI tx n9 m i)) k) ∨ (E m 32 13 = 0 ∧ zOptF p (E m) (kT tx n9 (kI tx n9 m i)) k)))))
theorem sL1 {c : Nat} {k : Int} (hc : c ≤ m) (ht : zTr p tx n9 i E m) (hf : zFin p tx n9 i E m s3 O) (hd : ¬ E c 32 13 = 0) (hz : zOpdF p (E c) (kT tx n9 (kI tx n9 c i)) (kV tx n9 (kI tx n9 c i)) k) : O = some (k, kS tx n9 (kI tx n9 c i)) := by
  by_cases hlt : c < m
  · obtain ⟨_, _, s1, h2, _⟩ := ht c hlt
    rcases h2 with ⟨_, h2⟩ | ⟨h2, _⟩
    · exact (zOpd_no h2 hz).elim
    · exact absurd h2 hd
  · have e : c = m := by omega
    subst e
    rcases hf with ⟨_, _, h3, _⟩ | ⟨k', e', h3⟩
    · exact absurd h3 hd
    · rcases h3 with ⟨h3, h4⟩ | ⟨_, _, h3⟩
      · have : k = 1 := by unfold zOpdF at hz; rw [h3] at hz; omega
        rw [e', this, h4]
      · rcases h3 with ⟨_, h3⟩ | ⟨h3, _⟩
        · rw [e', zOpdF_u hz h3]
        · exact absurd h3 hd
theorem sL2 {c : Nat} (hc : c ≤ m) (ht : zTr p tx n9 i E m) (hf : zFin p tx n9 i E m s3 O) (hd : ¬ E c 32 13 = 0) (hz : zOpd p (E c) s1 (kT tx n9 (kI tx n9 c i)) (kV tx n9 (kI tx n9 c i))) : c < m ∧ fr FXa s1 (E (c + 1)) := by
  by_cases hlt : c < m
  · obtain ⟨_, _, s2, h2, h3⟩ := ht c hlt
    rcases h2 with ⟨_, h2⟩ | ⟨h2, _⟩
    · rw [zOpd_u hz h2]; exact ⟨hlt, h3⟩
    · exact absurd h2 hd
  · have e : c = m := by omega
    subst e
    exfalso
    rcases hf with ⟨_, _, h3, _⟩ | ⟨k', e', h3⟩
    · exact hd h3
    · rcases h3 with ⟨h3, h4⟩ | ⟨_, _, h3⟩
      · rw [h3] at hz
        rcases hz with ⟨a1, _⟩ | ⟨a1, a2, _⟩ | ⟨a1, _⟩ | ⟨a1, _⟩ <;> omega
      · rcases h3 with ⟨_, h3⟩ | ⟨h3, _⟩
        · exact zOpd_no hz h3
        · exact hd h3
theorem sL3 {c : Nat} (hc : c ≤ m) (ht : zTr p tx n9 i E m) (hf : zFin p tx n9 i E m s3 O) (hd : E c 32 13 = 0) (hs : ¬ (kT tx n9 (kI tx n9 c i) = 22 ∧ E c 32 12 = 0)) : ∃ (s' : sx_S) (k9 : Int), (zOpt p (E c) s' (kT tx n9 (kI tx n9 c i)) ∨ zOptF p (E c) (kT tx n9 (kI tx n9 c i)) k9) ∧ (zOpt p (E c) s' (kT tx n9 (kI tx n9 c i)) → c < m ∧ fr FXa s' (E (c + 1))) ∧ (zOptF p (E c) (kT tx n9 (kI tx n9 c i)) k9 → O = some (k9, kS tx n9 (kI tx n9 c i))) := by
  by_cases hlt : c < m
  · obtain ⟨_, _, s2, h2, h3⟩ := ht c hlt
    rcases h2 with ⟨h2, _⟩ | ⟨_, h2⟩
    · exact absurd hd h2
    · exact ⟨s2, 0, Or.inl h2, fun _ => ⟨hlt, h3⟩, fun z => (zOptF_0 z).elim⟩
  · have e : c = m := by omega
    subst e
    rcases hf with ⟨_, h3, _, h4, _⟩ | ⟨k', e', h3⟩
    · exact absurd ⟨h3, h4⟩ hs
    · have hz : zOptF p (E c) (kT tx n9 (kI tx n9 c i)) k' := by
        rcases h3 with ⟨h3, h4⟩ | ⟨_, _, h3⟩
        · rw [h3, h4]; exact Or.inl ⟨by omega, Or.inl (by decide), rfl⟩
        · rcases h3 with ⟨h3, _⟩ | ⟨_, h3⟩
          · exact absurd hd h3
          · exact h3
      refine ⟨fun _ _ => 7, k', Or.inr hz, fun z => ?_, fun _ => e'⟩
      exfalso
      rcases z with ⟨_, _, s1, q, _, _, h5⟩ | ⟨_, _, s1, q, _, _, _, h5⟩
      · have h6 := congrFun (congrFun h5 32) 11
        have h7 := congrFun (congrFun h5 32) 12
        rw [up_n (by omega), up_s] at h6
        rw [up_s] at h7
        rcases hz with ⟨h8, _⟩ | ⟨h8, _⟩
        · exact h8 ⟨by assumption, by assumption⟩
        · exact fRk_24 h8 (by assumption)
      · have h6 := congrFun (congrFun h5 32) 13
        rw [up_s] at h6
        have h7 : (7 : Int) = 1 := h6
        omega
theorem sL4 {c : Nat} (hc : c ≤ m) (ht : zTr p tx n9 i E m) (hf : zFin p tx n9 i E m s3 O) (h22 : kT tx n9 (kI tx n9 c i) = 22) (hd : E c 32 13 = 0) (ho : E c 32 12 = 0) : c = m ∧ O = none ∧ ∃ q : Int, pRel p 1 (E c) s3 q := by
  by_cases hlt : c < m
  · obtain ⟨_, h1, _⟩ := ht c hlt
    exact absurd ⟨h22, hd, ho⟩ h1
  · have e : c = m := by omega
    subst e
    rcases hf with ⟨h1, _, _, _, h2⟩ | ⟨k', e', h3⟩
    · exact ⟨rfl, h1, h2⟩
    · rcases h3 with ⟨h3, _⟩ | ⟨_, h3, _⟩
      · omega
      · exact absurd ⟨h22, hd, ho⟩ h3
theorem eC_fr (hp : 2 ≤ p ∧ p ≤ 17) (hc : eC p s r lo) (hf : fr FXa s s1) : eC p s1 r lo := by
  have u : ∀ a : Int, ¬ a = 33 → s1 a = s a := fun a z => funext fun j => hf a j (by unfold FXa; omega)
  unfold eC fHdr
  rw [u 32 (by omega), u 36 (by omega), u p (by omega), u (p + 11) (by omega), u (p + 12) (by omega)]
  exact hc
set_option maxRecDepth 20000 in
theorem r_sum (hq : rQ σ tx n9 i) (hp : 2 ≤ p ∧ p ≤ 17) (hn : n9 ≤ 700) (hi : 0 ≤ i ∧ i ≤ n9) (hkn : s 32 14 = s p 14) (hk6 : 0 ≤ s p 14 ∧ s p 14 ≤ 64) (c22 : σ 124 22 = s 32 14) (c51 : σ 124 51 = s p 14) (e0 : E 0 = zE0 s) (ht : zTr p tx n9 i E m) (hf : zFin p tx n9 i E m s3 O) (hF : ∀ (k pl : Int) (σ' : sx_S), O = some (k, pl) → fr (FEq (s 32 14)) σ σ' → rFl σ' k pl → Q (some (.inl 0)) shM σ') (hS : O = none → ∀ (σ' : sx_S), eC p s3 σ' (s 32 14) → rQ σ' tx n9 (kI tx n9 m i) → fr (FEs (s 32 14)) σ σ' → Q (some (.inl 1)) shM σ') : sx_Run X 213 [.inr (.inr 124)] shM σ Q := by
  refine sx_rule2 (own := 12) (cd := kX12_sumRead) (nL := 1) (by decide +kernel) (by decide +kernel) kX12_sumRead_ok (by decide +kernel) (Nat.le_of_ble_eq_true rfl) [25] 40 (fun n t L st _ σ' => (t = 25 ∧ st = [] ∧ L = [some (.inr (.inr (124)))] ∧ (∃ c : Nat, c ≤ m ∧ rQ σ' tx n9 (kI tx n9 c i) ∧ eC p (E c) σ' (s 32 14) ∧ fr (FEs (s 32 14)) σ σ' ∧ σ' 124 7 = kE tx n9 (kI tx n9 c i) ∧ i + c ≤ kI tx n9 c i) ∧ n = (2 * 1000 - σ' 124 10).toNat)) ?_ ?_
  · skip
    conv => whnf
    refine ⟨(by first | assumption | rfl), ?_⟩
    try simp (disch := omega) only [Int.cast_ofNat_Int, up_s, up_a, up_i, mp_a, mp_ge]
    try simp only [w52]
    try simp only [w50]
    conv => whnf
    refine ⟨(by first | assumption | rfl), ?_⟩
    try simp (disch := omega) only [Int.cast_ofNat_Int, up_s, up_a, up_i, mp_a, mp_ge]
    try simp only [w52]
    try simp only [w50]
    conv => whnf
    refine ⟨(by first | assumption | rfl), ?_⟩
    try simp (disch := omega) only [Int.cast_ofNat_Int, up_s, up_a, up_i, mp_a, mp_ge]
    try simp only [w52]
    try simp only [w50]
    conv => whnf
    refine ⟨(by first | assumption | rfl), by omega, ?_⟩
    try simp (disch := omega) only [Int.cast_ofNat_Int, up_s, up_a, up_i, mp_a, mp_ge]
    try simp only [w52]
    try simp only [w50]
    conv => whnf
    refine ⟨(by first | assumption | rfl), by omega, ?_⟩
    try simp (disch := omega) only [Int.cast_ofNat_Int, up_s, up_a, up_i, mp_a, mp_ge]
    try simp only [w52]
    try simp only [w50]
    conv => whnf
    refine ⟨_, ⟨rfl, rfl, rfl, ?_, rfl⟩⟩
    have c11 : (zE0 s) 32 11 = 0 := by unfold zE0; rw [up_n (by omega), up_n (by omega), up_s]
    have c12 : (zE0 s) 32 12 = 0 := by unfold zE0; rw [up_n (by omega), up_s]
    have c13 : (zE0 s) 32 13 = 1 := up_s
    have c14 : (zE0 s) 32 14 = s 32 14 := by unfold zE0; rw [up_n (by omega), up_n (by omega), up_n (by omega)]
    have cp : (zE0 s) p 14 = s p 14 := by unfold zE0; rw [up_n (by omega), up_n (by omega), up_n (by omega)]
    have hq9 : rQ (sx_up (sx_up (sx_up (sx_up (sx_up σ 124 48 0) 124 49 0) 124 50 0) 124 52 1) 124 53 1) tx n9 i := rQ_up (rQ_up (rQ_up (rQ_up (rQ_up hq (by unfold FRd; omega)) (by unfold FRd; omega)) (by unfold FRd; omega)) (by unfold FRd; omega)) (by unfold FRd; omega)
    refine ⟨0, Nat.zero_le _, hq9, ?_, fun a j z => by unfold FEs at z; rw [up_n (by omega), up_n (by omega), up_n (by omega), up_n (by omega), up_n (by omega)], hq9.tk.1, by show i + ((0 : Nat) : Int) ≤ i; omega⟩
    rw [e0]
    have dp0 : dpF ((zE0 s) (p + 11)) (s 32 14) (s 32 14) = 0 := by unfold dpF; rw [show (s 32 14 - s 32 14).toNat = 0 by omega]; rfl
    unfold eC
    rw [c11, c12, c13, c14, cp, dp0]
    refine ⟨?_, fun j y0 y1 => by omega, ?_, ?_, ?_, ?_, ?_, fun d d0 d1 => by omega, fun y y0 y1 => by omega, fun _ => Or.inl ⟨up_s, ?_⟩⟩
    · rw [up_n (by omega), up_n (by omega), up_n (by omega), up_n (by omega), up_s]
    · rw [up_n (by omega), up_n (by omega), up_s]
    · rw [up_n (by omega), up_n (by omega), up_n (by omega), up_n (by omega), up_n (by omega)]; exact c51
    · rw [up_n (by omega), up_s]
    · rw [up_n (by omega), up_n (by omega), up_n (by omega), up_n (by omega), up_n (by omega)]; exact c22
    · rw [up_n (by omega), up_n (by omega), up_n (by omega), up_s]
    · unfold fHdr; rw [c11, if_neg (by omega)]; decide
  · intro n t L st σ' hk
    obtain ⟨rfl, rfl, rfl, hc, rfl⟩ := hk
    obtain ⟨c, hcm, hqi, hcc, hfi, e7i, hic⟩ := hc
    have hcc0 := hcc
    have hv := zTr_inv hp hn hi e0 hkn hk6 ht c hcm
    obtain ⟨hI, hk, _, _⟩ := hv
    obtain ⟨w48, w142, w50, w51, w52, w22, w49, w143, wko, _⟩ := hcc
    have hcc := hcc0
    have hkz := hqi.tk.2.2
    have hop := hI.2.2.2.2.2.1
    have z7 := hI.2.2.2.2.2.2.2
    conv => whnf
    refine ⟨Nat.le_of_ble_eq_true rfl, Nat.le_of_ble_eq_true rfl, (by first | assumption | rfl), ?_⟩
    refine r_issign (fun g59 => ?_) (fun g59 => ?_)
    · have t22 := (pKz_e hkz).2.2.1.mp g59
      conv => whnf
      refine ⟨fun g => ?_, fun g => ?_⟩
      · exact absurd g (by simp [sx_cc])
      · skip
        conv => whnf
        refine ⟨(by first | assumption | rfl), ?_⟩
        try simp (disch := omega) only [Int.cast_ofNat_Int, up_s, up_a, up_i, mp_a, mp_ge]
        try simp only [w52]
        try simp only [w50]
        conv => whnf
        refine ⟨fun g => ?_, fun g => ?_⟩
        · simp only [sx_cc, Classical.not_not] at g
          have hsm : ¬ (kT tx n9 (kI tx n9 c i) = 22 ∧ E c 32 12 = 0) ∨ ¬ E c 32 13 = 0 := Or.inr (by omega)
          conv => whnf
          refine ⟨(by first | assumption | rfl), ?_⟩
          try simp (disch := omega) only [Int.cast_ofNat_Int, up_s, up_a, up_i, mp_a, mp_ge]
          try simp only [w52]
          try simp only [w50]
          conv => whnf
          refine ⟨fun g => ?_, fun g => ?_⟩
          · simp only [sx_cc, Classical.not_not] at g
            have d13 : E c 32 13 = 0 := by omega
            have hs9 := hsm.resolve_right (fun z => z d13)
            obtain ⟨s9, k9, H9, H9a, H9b⟩ := sL3 hcm ht hf d13 hs9
            conv => whnf
            refine ⟨Nat.le_of_ble_eq_true rfl, Nat.le_of_ble_eq_true rfl, (by first | assumption | rfl), ?_⟩
            refine r_signs hqi hp (by omega) hI hk hcc d13 H9 (fun hz σ3 hf3 hl3 => ?_) (fun hz σ3 hC3 hq3 hf3 => ?_)
            · have hO := H9b hz
              conv => whnf
              refine ⟨fun g => ?_, fun g => ?_⟩
              · exact absurd g (by simp [sx_cc])
              · skip
                conv => whnf
                refine ⟨fun q9 => by first | (simp at q9; done) | omega, ?_⟩
                exact hF _ _ _ hO (fun a j z => (hf3 a j z).trans (hfi a j (fun y => z (feq_s y)))) hl3
            · obtain ⟨hlt, hfx⟩ := H9a hz
              have hn36 : ¬ kT tx n9 (kI tx n9 c i) = 36 := (ht c hlt).1
              have hC9 : eC p (E (c + 1)) σ3 (s 32 14) := eC_fr hp hC3 hfx
              have hcm1 : c + 1 ≤ m := hlt
              conv => whnf
              refine ⟨fun g => ?_, fun g => ?_⟩
              · skip
                conv => whnf
                refine ⟨_, ?_, ⟨rfl, rfl, rfl, ?_, rfl⟩⟩
                · rw [hq3.tk.2.1, hqi.tk.2.1]
                  have b3 := kE_bd (tx := tx) (n9 := n9) hqi.bi.2
                  have b4 := kS_bd (tx := tx) (n9 := n9) (i := kE tx n9 (kI tx n9 c i)) b3.2.1
                  have b5 := b3.2.2.1 hn36
                  have b6 := hqi.bi
                  omega
                · exact ⟨c + 1, hcm1, hq3, hC9, (fun a j z => (hf3 a j z).trans (hfi a j z)), hq3.tk.1, by have b3 := (kE_bd (tx := tx) (n9 := n9) hqi.bi.2).2.2.1 hn36; show i + ((c + 1 : Nat) : Int) ≤ kE tx n9 (kI tx n9 c i); omega⟩
              · exact absurd g (by simp [sx_cc])
          · simp only [sx_cc, Classical.not_not] at g
            have d13 : ¬ E c 32 13 = 0 := by omega
            skip
            conv => whnf
            refine ⟨Nat.le_of_ble_eq_true rfl, Nat.le_of_ble_eq_true rfl, (by first | assumption | rfl), ?_⟩
            refine r_leaf hqi hp (by omega) hI hk hcc d13 (fun k σ3 hz hf3 hl3 => ?_) (fun s1 σ3 hz hC3 hq3 hf3 => ?_)
            · have hO := sL1 hcm ht hf d13 hz
              conv => whnf
              refine ⟨fun g => ?_, fun g => ?_⟩
              · skip
                conv => whnf
                refine ⟨fun q9 => by first | (simp at q9; done) | omega, ?_⟩
                exact hF _ _ _ hO (fun a j z => (hf3 a j z).trans (hfi a j (fun y => z (feq_s y)))) hl3
              · exact absurd g (by simp [sx_cc])
            · obtain ⟨hlt, hfx⟩ := sL2 hcm ht hf d13 hz
              have hn36 : ¬ kT tx n9 (kI tx n9 c i) = 36 := (ht c hlt).1
              have hC9 : eC p (E (c + 1)) σ3 (s 32 14) := eC_fr hp hC3 hfx
              have hcm1 : c + 1 ≤ m := hlt
              conv => whnf
              refine ⟨fun g => ?_, fun g => ?_⟩
              · exact absurd g (by simp [sx_cc])
              · skip
                conv => whnf
                refine ⟨_, ?_, ⟨rfl, rfl, rfl, ?_, rfl⟩⟩
                · rw [hq3.tk.2.1, hqi.tk.2.1]
                  have b3 := kE_bd (tx := tx) (n9 := n9) hqi.bi.2
                  have b4 := kS_bd (tx := tx) (n9 := n9) (i := kE tx n9 (kI tx n9 c i)) b3.2.1
                  have b5 := b3.2.2.1 hn36
                  have b6 := hqi.bi
                  omega
                · exact ⟨c + 1, hcm1, hq3, hC9, (fun a j z => (hf3 a j z).trans (hfi a j z)), hq3.tk.1, by have b3 := (kE_bd (tx := tx) (n9 := n9) hqi.bi.2).2.2.1 hn36; show i + ((c + 1 : Nat) : Int) ≤ kE tx n9 (kI tx n9 c i); omega⟩
        · simp only [sx_cc, Classical.not_not] at g
          have g13 : E c 32 13 = 0 := by omega
          skip
          conv => whnf
          refine ⟨(by first | assumption | rfl), ?_⟩
          try simp (disch := omega) only [Int.cast_ofNat_Int, up_s, up_a, up_i, mp_a, mp_ge]
          try simp only [w52]
          try simp only [w50]
          conv => whnf
          refine ⟨fun g => ?_, fun g => ?_⟩
          · simp only [sx_cc, Classical.not_not] at g
            have g12 : E c 32 12 = 0 := by omega
            skip
            conv => whnf
            refine ⟨Nat.le_of_ble_eq_true rfl, Nat.le_of_ble_eq_true rfl, (by first | assumption | rfl), ?_⟩
            obtain ⟨ecm, eO, q, hr⟩ := sL4 hcm ht hf t22 g13 g12
            refine r_bind hqi hp (by decide) (by omega) hI hk g13 hr (eC_B hp hk hcc hr) (fun σ3 f3 q3 B3 => ?_)
            conv => whnf
            refine ⟨fun q9 => by first | (simp at q9; done) | omega, ?_⟩
            refine hS eO _ (eC_rel hp (by decide) hI hr hcc g13 B3 f3) (by rw [← ecm]; exact q3) (fun a j z => (f3 a j (by unfold FEs at z; unfold FEb; have := hk.1; omega)).trans (hfi a j z))
          · simp only [sx_cc, Classical.not_not] at g
            have hsm : ¬ (kT tx n9 (kI tx n9 c i) = 22 ∧ E c 32 12 = 0) ∨ ¬ E c 32 13 = 0 := Or.inl (fun z => by omega)
            conv => whnf
            refine ⟨(by first | assumption | rfl), ?_⟩
            try simp (disch := omega) only [Int.cast_ofNat_Int, up_s, up_a, up_i, mp_a, mp_ge]
            try simp only [w52]
            try simp only [w50]
            conv => whnf
            refine ⟨fun g => ?_, fun g => ?_⟩
            · simp only [sx_cc, Classical.not_not] at g
              have d13 : E c 32 13 = 0 := by omega
              have hs9 := hsm.resolve_right (fun z => z d13)
              obtain ⟨s9, k9, H9, H9a, H9b⟩ := sL3 hcm ht hf d13 hs9
              conv => whnf
              refine ⟨Nat.le_of_ble_eq_true rfl, Nat.le_of_ble_eq_true rfl, (by first | assumption | rfl), ?_⟩
              refine r_signs hqi hp (by omega) hI hk hcc d13 H9 (fun hz σ3 hf3 hl3 => ?_) (fun hz σ3 hC3 hq3 hf3 => ?_)
              · have hO := H9b hz
                conv => whnf
                refine ⟨fun g => ?_, fun g => ?_⟩
                · exact absurd g (by simp [sx_cc])
                · skip
                  conv => whnf
                  refine ⟨fun q9 => by first | (simp at q9; done) | omega, ?_⟩
                  exact hF _ _ _ hO (fun a j z => (hf3 a j z).trans (hfi a j (fun y => z (feq_s y)))) hl3
              · obtain ⟨hlt, hfx⟩ := H9a hz
                have hn36 : ¬ kT tx n9 (kI tx n9 c i) = 36 := (ht c hlt).1
                have hC9 : eC p (E (c + 1)) σ3 (s 32 14) := eC_fr hp hC3 hfx
                have hcm1 : c + 1 ≤ m := hlt
                conv => whnf
                refine ⟨fun g => ?_, fun g => ?_⟩
                · skip
                  conv => whnf
                  refine ⟨_, ?_, ⟨rfl, rfl, rfl, ?_, rfl⟩⟩
                  · rw [hq3.tk.2.1, hqi.tk.2.1]
                    have b3 := kE_bd (tx := tx) (n9 := n9) hqi.bi.2
                    have b4 := kS_bd (tx := tx) (n9 := n9) (i := kE tx n9 (kI tx n9 c i)) b3.2.1
                    have b5 := b3.2.2.1 hn36
                    have b6 := hqi.bi
                    omega
                  · exact ⟨c + 1, hcm1, hq3, hC9, (fun a j z => (hf3 a j z).trans (hfi a j z)), hq3.tk.1, by have b3 := (kE_bd (tx := tx) (n9 := n9) hqi.bi.2).2.2.1 hn36; show i + ((c + 1 : Nat) : Int) ≤ kE tx n9 (kI tx n9 c i); omega⟩
                · exact absurd g (by simp [sx_cc])
            · simp only [sx_cc, Classical.not_not] at g
              have d13 : ¬ E c 32 13 = 0 := by omega
              skip
              conv => whnf
              refine ⟨Nat.le_of_ble_eq_true rfl, Nat.le_of_ble_eq_true rfl, (by first | assumption | rfl), ?_⟩
              refine r_leaf hqi hp (by omega) hI hk hcc d13 (fun k σ3 hz hf3 hl3 => ?_) (fun s1 σ3 hz hC3 hq3 hf3 => ?_)
              · have hO := sL1 hcm ht hf d13 hz
                conv => whnf
                refine ⟨fun g => ?_, fun g => ?_⟩
                · skip
                  conv => whnf
                  refine ⟨fun q9 => by first | (simp at q9; done) | omega, ?_⟩
                  exact hF _ _ _ hO (fun a j z => (hf3 a j z).trans (hfi a j (fun y => z (feq_s y)))) hl3
                · exact absurd g (by simp [sx_cc])
              · obtain ⟨hlt, hfx⟩ := sL2 hcm ht hf d13 hz
                have hn36 : ¬ kT tx n9 (kI tx n9 c i) = 36 := (ht c hlt).1
                have hC9 : eC p (E (c + 1)) σ3 (s 32 14) := eC_fr hp hC3 hfx
                have hcm1 : c + 1 ≤ m := hlt
                conv => whnf
                refine ⟨fun g => ?_, fun g => ?_⟩
                · exact absurd g (by simp [sx_cc])
                · skip
                  conv => whnf
                  refine ⟨_, ?_, ⟨rfl, rfl, rfl, ?_, rfl⟩⟩
                  · rw [hq3.tk.2.1, hqi.tk.2.1]
                    have b3 := kE_bd (tx := tx) (n9 := n9) hqi.bi.2
                    have b4 := kS_bd (tx := tx) (n9 := n9) (i := kE tx n9 (kI tx n9 c i)) b3.2.1
                    have b5 := b3.2.2.1 hn36
                    have b6 := hqi.bi
                    omega
                  · exact ⟨c + 1, hcm1, hq3, hC9, (fun a j z => (hf3 a j z).trans (hfi a j z)), hq3.tk.1, by have b3 := (kE_bd (tx := tx) (n9 := n9) hqi.bi.2).2.2.1 hn36; show i + ((c + 1 : Nat) : Int) ≤ kE tx n9 (kI tx n9 c i); omega⟩
    · have hsm : ¬ (kT tx n9 (kI tx n9 c i) = 22 ∧ E c 32 12 = 0) ∨ ¬ E c 32 13 = 0 := Or.inl (fun z => g59 ((pKz_e hkz).2.2.1.mpr z.1))
      conv => whnf
      refine ⟨fun g => ?_, fun g => ?_⟩
      · skip
        conv => whnf
        refine ⟨(by first | assumption | rfl), ?_⟩
        try simp (disch := omega) only [Int.cast_ofNat_Int, up_s, up_a, up_i, mp_a, mp_ge]
        try simp only [w52]
        try simp only [w50]
        conv => whnf
        refine ⟨fun g => ?_, fun g => ?_⟩
        · simp only [sx_cc, Classical.not_not] at g
          have d13 : E c 32 13 = 0 := by omega
          have hs9 := hsm.resolve_right (fun z => z d13)
          obtain ⟨s9, k9, H9, H9a, H9b⟩ := sL3 hcm ht hf d13 hs9
          conv => whnf
          refine ⟨Nat.le_of_ble_eq_true rfl, Nat.le_of_ble_eq_true rfl, (by first | assumption | rfl), ?_⟩
          refine r_signs hqi hp (by omega) hI hk hcc d13 H9 (fun hz σ3 hf3 hl3 => ?_) (fun hz σ3 hC3 hq3 hf3 => ?_)
          · have hO := H9b hz
            conv => whnf
            refine ⟨fun g => ?_, fun g => ?_⟩
            · exact absurd g (by simp [sx_cc])
            · skip
              conv => whnf
              refine ⟨fun q9 => by first | (simp at q9; done) | omega, ?_⟩
              exact hF _ _ _ hO (fun a j z => (hf3 a j z).trans (hfi a j (fun y => z (feq_s y)))) hl3
          · obtain ⟨hlt, hfx⟩ := H9a hz
            have hn36 : ¬ kT tx n9 (kI tx n9 c i) = 36 := (ht c hlt).1
            have hC9 : eC p (E (c + 1)) σ3 (s 32 14) := eC_fr hp hC3 hfx
            have hcm1 : c + 1 ≤ m := hlt
            conv => whnf
            refine ⟨fun g => ?_, fun g => ?_⟩
            · skip
              conv => whnf
              refine ⟨_, ?_, ⟨rfl, rfl, rfl, ?_, rfl⟩⟩
              · rw [hq3.tk.2.1, hqi.tk.2.1]
                have b3 := kE_bd (tx := tx) (n9 := n9) hqi.bi.2
                have b4 := kS_bd (tx := tx) (n9 := n9) (i := kE tx n9 (kI tx n9 c i)) b3.2.1
                have b5 := b3.2.2.1 hn36
                have b6 := hqi.bi
                omega
              · exact ⟨c + 1, hcm1, hq3, hC9, (fun a j z => (hf3 a j z).trans (hfi a j z)), hq3.tk.1, by have b3 := (kE_bd (tx := tx) (n9 := n9) hqi.bi.2).2.2.1 hn36; show i + ((c + 1 : Nat) : Int) ≤ kE tx n9 (kI tx n9 c i); omega⟩
            · exact absurd g (by simp [sx_cc])
        · simp only [sx_cc, Classical.not_not] at g
          have d13 : ¬ E c 32 13 = 0 := by omega
          skip
          conv => whnf
          refine ⟨Nat.le_of_ble_eq_true rfl, Nat.le_of_ble_eq_true rfl, (by first | assumption | rfl), ?_⟩
          refine r_leaf hqi hp (by omega) hI hk hcc d13 (fun k σ3 hz hf3 hl3 => ?_) (fun s1 σ3 hz hC3 hq3 hf3 => ?_)
          · have hO := sL1 hcm ht hf d13 hz
            conv => whnf
            refine ⟨fun g => ?_, fun g => ?_⟩
            · skip
              conv => whnf
              refine ⟨fun q9 => by first | (simp at q9; done) | omega, ?_⟩
              exact hF _ _ _ hO (fun a j z => (hf3 a j z).trans (hfi a j (fun y => z (feq_s y)))) hl3
            · exact absurd g (by simp [sx_cc])
          · obtain ⟨hlt, hfx⟩ := sL2 hcm ht hf d13 hz
            have hn36 : ¬ kT tx n9 (kI tx n9 c i) = 36 := (ht c hlt).1
            have hC9 : eC p (E (c + 1)) σ3 (s 32 14) := eC_fr hp hC3 hfx
            have hcm1 : c + 1 ≤ m := hlt
            conv => whnf
            refine ⟨fun g => ?_, fun g => ?_⟩
            · exact absurd g (by simp [sx_cc])
            · skip
              conv => whnf
              refine ⟨_, ?_, ⟨rfl, rfl, rfl, ?_, rfl⟩⟩
              · rw [hq3.tk.2.1, hqi.tk.2.1]
                have b3 := kE_bd (tx := tx) (n9 := n9) hqi.bi.2
                have b4 := kS_bd (tx := tx) (n9 := n9) (i := kE tx n9 (kI tx n9 c i)) b3.2.1
                have b5 := b3.2.2.1 hn36
                have b6 := hqi.bi
                omega
              · exact ⟨c + 1, hcm1, hq3, hC9, (fun a j z => (hf3 a j z).trans (hfi a j z)), hq3.tk.1, by have b3 := (kE_bd (tx := tx) (n9 := n9) hqi.bi.2).2.2.1 hn36; show i + ((c + 1 : Nat) : Int) ≤ kE tx n9 (kI tx n9 c i); omega⟩
      · exact absurd g (by simp [sx_cc])
end SXR9
