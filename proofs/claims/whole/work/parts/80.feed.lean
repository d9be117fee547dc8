/-! BITS -/
section SXM12
theorem shr_eq {g y : Int} (hg : 0 ≤ g ∧ g ≤ 9223372036854775807) (hy : 0 ≤ y ∧ y ≤ 48) : sx_ushrL g y = sx_shrL g y := by
  have hm : (Int64.ofInt g).toBitVec.msb = false := by
    rw [BitVec.msb_eq_toInt, Int64.toInt_toBitVec, Int64.toInt_ofInt_of_le (by omega) (by omega)]
    exact decide_eq_false (by omega)
  have hs : ∀ k : Fin 49, (((Int32.ofInt (k.val : Int)).toInt64 &&& 63).toBitVec.smod 64#64).toNat = k.val ∧ ((((Int32.ofInt (k.val : Int)).toInt64.toUInt64 &&& Int64.toUInt64 63).toBitVec) % 64#64).toNat = k.val := by decide +kernel
  obtain ⟨h1, h2⟩ := hs ⟨y.toNat, by omega⟩
  rw [show ((⟨y.toNat, by omega⟩ : Fin 49).val : Int) = y by show ((y.toNat : Nat) : Int) = y; omega] at h1 h2
  unfold sx_ushrL sx_shrL
  congr 1
  apply Int64.toBitVec_inj.mp
  show (Int64.ofInt g).toBitVec >>> ((((Int32.ofInt y).toInt64.toUInt64 &&& Int64.toUInt64 63).toBitVec) % 64#64).toNat = (Int64.ofInt g).toBitVec.sshiftRight (((Int32.ofInt y).toInt64 &&& 63).toBitVec.smod 64#64).toNat
  rw [h1, h2, BitVec.sshiftRight_eq_of_msb_false hm]
theorem b8_and (v : Int) : sx_and (sx_b8 v) 255 = sx_and v 255 := by
  unfold sx_and sx_b8
  rw [Int32.ofInt_toInt]
  congr 1
  apply Int32.toBitVec_inj.mp
  simp only [Int32.toBitVec_and, Int8.toBitVec_toInt32, Int32.toBitVec_toInt8]
  have e : (Int32.ofInt 255).toBitVec = 255#32 := by decide
  rw [e]
  generalize (Int32.ofInt v).toBitVec = x
  apply BitVec.eq_of_getElem_eq
  intro i hi
  have h9 : ∀ j : Fin 32, (255#32).getLsbD j.val = decide (j.val < 8) := by decide
  have h8 := h9 ⟨i, hi⟩
  simp only [BitVec.getElem_and, BitVec.getElem_signExtend, BitVec.getLsbD_setWidth]
  rw [show (255#32)[i] = (255#32).getLsbD i from (BitVec.getLsbD_eq_getElem hi).symm, h8]
  by_cases e8 : i < 8
  · simp [e8, BitVec.getLsbD_eq_getElem hi, hi]
  · simp [e8]
theorem tdm {w x y : Int} (hw : 0 < w) (hx : 0 ≤ x ∧ x < w) (hy : 0 ≤ y) : (y * w + x).tmod w = x ∧ (y * w + x).tdiv w = y := by
  have h0 : 0 ≤ y * w := Int.mul_nonneg hy (by omega)
  constructor
  · rw [Int.tmod_eq_emod_of_nonneg (by omega), Int.add_comm, Int.add_mul_emod_self_right, Int.emod_eq_of_lt hx.1 hx.2]
  · rw [Int.tdiv_eq_ediv_of_nonneg (by omega), Int.add_comm, Int.add_mul_ediv_right _ _ (by omega), Int.ediv_eq_zero_of_lt hx.1 hx.2]; omega
theorem and_not2 (g a b : Int) : sx_andL (sx_andL g (sx_xorL a (-1))) (sx_xorL b (-1)) = sx_andL g (sx_xorL (sx_orL a b) (-1)) := by
  unfold sx_andL sx_xorL sx_orL
  simp only [Int64.ofInt_toInt]
  congr 1
  apply Int64.toBitVec_inj.mp
  simp only [Int64.toBitVec_and, Int64.toBitVec_xor, Int64.toBitVec_or]
  have e : (Int64.ofInt (-1)).toBitVec = BitVec.allOnes 64 := by decide
  rw [e]
  simp only [BitVec.xor_allOnes, BitVec.not_or, BitVec.and_assoc]
theorem b8_bd (v : Int) : -128 ≤ sx_b8 v ∧ sx_b8 v ≤ 127 := by
  unfold sx_b8
  rw [Int8.toInt_toInt32]
  have h1 := Int8.le_toInt (Int32.ofInt v).toInt8
  have h2 := Int8.toInt_lt (Int32.ofInt v).toInt8
  omega
end SXM12
/-! FEED (by wip/whole) -/
section SXM13
variable {X : sx_X} {Q : sx_R} {n9 : Int} {σ σ0 σ' σ1 σ2 : sx_S}
def fWd (a b c d e k : Int) : Int := if k < 4 then a else if k < 8 then b else if k < 12 then c else if k < 16 then d else e
abbrev FTp (n a i : Int) : Prop := (a = 0 ∧ i = 1) ∨ (a = 1 ∧ n ≤ i)
abbrev FTr (n a i : Int) : Prop := (a = 124 ∧ i = 1) ∨ (a = 125 ∧ n ≤ i)
theorem FTp_pts : ptL.all (fun q => decide (¬ (q.1 = 0 ∧ q.2.1 = 1) ∧ ¬ q.1 = 1)) = true := by decide +kernel
theorem fr.pttp {σ σ' : sx_S} (h : fr (FTp n9) σ σ') (hT : PT σ) : PT σ' := hT.fr (fun q hq => h _ _ (by have h1 := of_decide_eq_true (List.all_eq_true.mp FTp_pts q hq); unfold FTp; omega))
theorem FTr_pts : ptL.all (fun q => decide (¬ (q.1 = 124 ∧ q.2.1 = 1) ∧ ¬ q.1 = 125)) = true := by decide +kernel
theorem fr.pttr {σ σ' : sx_S} (h : fr (FTr n9) σ σ') (hT : PT σ) : PT σ' := hT.fr (fun q hq => h _ _ (by have h1 := of_decide_eq_true (List.all_eq_true.mp FTr_pts q hq); unfold FTr; omega))
set_option maxRecDepth 20000 in
theorem c_put (hT : PT σ) (en : σ 0 1 = n9) (hn : 0 ≤ n9 ∧ n9 + 4 ≤ 700) {x : Int} (h : ∀ σ', fr (FTp n9) σ σ' → σ' 0 1 = n9 + 4 → (∀ k : Int, 0 ≤ k → k < 4 → σ' 1 (n9 + k) = sx_b8 (sx_shr x (24 - 8 * k))) → Q none shM σ') : sx_Run X 124 [.inr (.inr 0), .inl x] shM σ Q := by
  refine sx_rule2 (own := 11) (cd := kX11_putBytes) (nL := 3) (by decide +kernel) (by decide +kernel) kX11_putBytes_ok (by decide +kernel) (Nat.le_of_ble_eq_true rfl) [3] 40 (fun n t L st _ σ' => (t = 3 ∧ ∃ s9 : Int, st = [] ∧ L = [some (.inr (.inr (0))), some (.inl (x)), some (.inl (s9))] ∧ (∃ j : Int, s9 = 24 - 8 * j ∧ 0 ≤ j ∧ j ≤ 4 ∧ fr (FTp n9) σ σ' ∧ σ' 0 1 = n9 + j ∧ (∀ k : Int, 0 ≤ k → k < j → σ' 1 (n9 + k) = sx_b8 (sx_shr x (24 - 8 * k)))) ∧ n = (s9 + 100).toNat)) ?_ ?_
  · skip
    conv => whnf
    refine ⟨_, ⟨rfl, _, rfl, rfl, ?_, rfl⟩⟩
    exact ⟨0, by omega, by omega, by omega, fr.rfl, by omega, fun k y0 y1 => by omega⟩
  · intro n t L st σ' hk
    obtain ⟨rfl, s9, rfl, rfl, hc, rfl⟩ := hk
    obtain ⟨j, hs9, hj0, hj1, hfi, ej, hb⟩ := hc
    have a0 := pt_0_0 (hfi.pttp hT)
    have hb8 := b8_bd (sx_shr x s9)
    conv => whnf
    refine ⟨fun g => ?_, fun g => ?_⟩
    · simp only [sx_cc, Classical.not_not] at g
      conv => whnf
      refine ⟨rfl, ?_⟩
      have e4 : j = 4 := by omega
      subst e4
      exact h _ hfi ej hb
    · simp only [sx_cc, Classical.not_not] at g
      conv => whnf
      refine ⟨(by first | assumption | rfl), ?_⟩
      try simp (disch := omega) only [Int.cast_ofNat_Int, up_s, up_a, up_i, mp_a, mp_ge]
      try simp only [a0]
      try simp only [ej]
      conv => whnf
      refine ⟨fun g => ?_, fun g => ?_⟩
      · simp only [sx_cc, Classical.not_not] at g
        conv => whnf
        refine ⟨rfl, ?_⟩
        have e4 : j = 4 := by omega
        subst e4
        exact h _ hfi ej hb
      · simp only [sx_cc, Classical.not_not] at g
        conv => whnf
        refine ⟨(by first | assumption | rfl), ?_⟩
        try simp (disch := omega) only [Int.cast_ofNat_Int, up_s, up_a, up_i, mp_a, mp_ge]
        try simp only [a0]
        try simp only [ej]
        conv => whnf
        refine ⟨(by first | assumption | rfl), ?_⟩
        try simp (disch := omega) only [Int.cast_ofNat_Int, up_s, up_a, up_i, mp_a, mp_ge]
        try simp only [a0]
        try simp only [ej]
        conv => whnf
        refine ⟨sx_ixI (by first | assumption | rfl) (by omega) (by omega), by omega, ?_⟩
        conv => whnf
        refine ⟨(by first | assumption | rfl), ?_⟩
        try simp (disch := omega) only [Int.cast_ofNat_Int, up_s, up_a, up_i, mp_a, mp_ge]
        try simp only [a0]
        try simp only [ej]
        conv => whnf
        refine ⟨⟨by omega, by omega⟩, ?_⟩
        conv => whnf
        refine ⟨(by first | assumption | rfl), ?_⟩
        try simp (disch := omega) only [Int.cast_ofNat_Int, up_s, up_a, up_i, mp_a, mp_ge]
        try simp only [a0]
        try simp only [ej]
        conv => whnf
        refine ⟨⟨by omega, by omega⟩, ?_⟩
        conv => whnf
        refine ⟨_, ?_, ⟨rfl, _, rfl, rfl, ?_, rfl⟩⟩
        · omega
        · refine ⟨j + 1, by omega, by omega, by omega, hfi.trans (fun a i z9 => by unfold FTp at z9; rw [up_n (by omega), up_n (by omega)]), by rw [up_s]; omega, fun k y0 y1 => ?_⟩
          rw [up_a (by decide)]
          by_cases e9 : k = j
          · rw [e9, up_s, hs9]
          · rw [up_i (by omega)]; exact hb k y0 (by omega)
set_option maxRecDepth 20000 in
theorem c_feed (hT : PT σ) (en : σ 0 1 = n9) (hn : 0 ≤ n9 ∧ n9 ≤ 700) {a b c d e : Int} (h0 : 680 < n9 → Q (some (.inl (-1))) shM σ) (h1 : n9 ≤ 680 → ∀ σ', fr (FTp n9) σ σ' → σ' 0 1 = n9 + 20 → (∀ k : Int, 0 ≤ k → k < 20 → σ' 1 (n9 + k) = sx_b8 (sx_shr (fWd a b c d e k) (24 - 8 * (k % 4)))) → Q (some (.inl (n9 + 20))) shM σ') : sx_Run X 123 [.inr (.inr 0), .inl a, .inl b, .inl c, .inl d, .inl e] shM σ Q := by
  refine sx_rule0 (own := 11) (cd := kX11_feed) (nL := 6) (by decide +kernel) (by decide +kernel) kX11_feed_ok (by decide +kernel) (Nat.le_of_ble_eq_true rfl) 40 ?_
  conv => whnf
  refine ⟨(by first | assumption | rfl), ?_⟩
  try simp (disch := omega) only [Int.cast_ofNat_Int, up_s, up_a, up_i, mp_a, mp_ge]
  try simp only [en]
  try simp only [en5]
  conv => whnf
  refine ⟨⟨by omega, by omega⟩, ?_⟩
  conv => whnf
  refine ⟨fun g => ?_, fun g => ?_⟩
  · simp only [sx_cc, Classical.not_not] at g
    conv => whnf
    refine ⟨Nat.le_of_ble_eq_true rfl, Nat.le_of_ble_eq_true rfl, (by first | assumption | rfl), ?_⟩
    refine c_put hT en ⟨by omega, by omega⟩ ?_
    intro σp1 hf1 en1 hb1
    have hT1 := hf1.pttp hT
    conv => whnf
    refine ⟨Nat.le_of_ble_eq_true rfl, Nat.le_of_ble_eq_true rfl, (by first | assumption | rfl), ?_⟩
    refine c_put hT1 en1 ⟨by omega, by omega⟩ ?_
    intro σp2 hf2 en2 hb2
    have hT2 := hf2.pttp hT1
    conv => whnf
    refine ⟨Nat.le_of_ble_eq_true rfl, Nat.le_of_ble_eq_true rfl, (by first | assumption | rfl), ?_⟩
    refine c_put hT2 en2 ⟨by omega, by omega⟩ ?_
    intro σp3 hf3 en3 hb3
    have hT3 := hf3.pttp hT2
    conv => whnf
    refine ⟨Nat.le_of_ble_eq_true rfl, Nat.le_of_ble_eq_true rfl, (by first | assumption | rfl), ?_⟩
    refine c_put hT3 en3 ⟨by omega, by omega⟩ ?_
    intro σp4 hf4 en4 hb4
    have hT4 := hf4.pttp hT3
    conv => whnf
    refine ⟨Nat.le_of_ble_eq_true rfl, Nat.le_of_ble_eq_true rfl, (by first | assumption | rfl), ?_⟩
    refine c_put hT4 en4 ⟨by omega, by omega⟩ ?_
    intro σp5 hf5 en5 hb5
    have hT5 := hf5.pttp hT4
    conv => whnf
    refine ⟨(by first | assumption | rfl), ?_⟩
    try simp (disch := omega) only [Int.cast_ofNat_Int, up_s, up_a, up_i, mp_a, mp_ge]
    try simp only [en]
    try simp only [en5]
    conv => whnf
    refine ⟨fun q9 => by first | (simp at q9; done) | omega, ?_⟩
    rw [show n9 + 4 + 4 + 4 + 4 + 4 = n9 + 20 by omega]
    refine h1 (by omega) σp5 ?_ (by omega) (fun k y0 y1 => ?_)
    · exact ((((hf1.mono (fun a i z => by unfold FTp at z ⊢; omega)).trans (hf2.mono (fun a i z => by unfold FTp at z ⊢; omega))).trans (hf3.mono (fun a i z => by unfold FTp at z ⊢; omega))).trans (hf4.mono (fun a i z => by unfold FTp at z ⊢; omega))).trans (hf5.mono (fun a i z => by unfold FTp at z ⊢; omega))
    · unfold fWd
      by_cases k0 : k < 4
      · rw [if_pos k0, hf5 _ _ (by unfold FTp; omega), hf4 _ _ (by unfold FTp; omega), hf3 _ _ (by unfold FTp; omega), hf2 _ _ (by unfold FTp; omega), hb1 k y0 k0, show k % 4 = k by omega]
      · rw [if_neg k0]
        by_cases k1 : k < 8
        · rw [if_pos k1, hf5 _ _ (by unfold FTp; omega), hf4 _ _ (by unfold FTp; omega), hf3 _ _ (by unfold FTp; omega)]
          have h9 := hb2 (k - 4) (by omega) (by omega)
          rw [show n9 + 4 + (k - 4) = n9 + k by omega] at h9
          rw [h9, show k % 4 = k - 4 by omega]
        · rw [if_neg k1]
          by_cases k2 : k < 12
          · rw [if_pos k2, hf5 _ _ (by unfold FTp; omega), hf4 _ _ (by unfold FTp; omega)]
            have h9 := hb3 (k - 8) (by omega) (by omega)
            rw [show n9 + 4 + 4 + (k - 8) = n9 + k by omega] at h9
            rw [h9, show k % 4 = k - 8 by omega]
          · rw [if_neg k2]
            by_cases k3 : k < 16
            · rw [if_pos k3, hf5 _ _ (by unfold FTp; omega)]
              have h9 := hb4 (k - 12) (by omega) (by omega)
              rw [show n9 + 4 + 4 + 4 + (k - 12) = n9 + k by omega] at h9
              rw [h9, show k % 4 = k - 12 by omega]
            · rw [if_neg k3]
              have h9 := hb5 (k - 16) (by omega) (by omega)
              rw [show n9 + 4 + 4 + 4 + 4 + (k - 16) = n9 + k by omega] at h9
              rw [h9, show k % 4 = k - 16 by omega]
  · simp only [sx_cc, Classical.not_not] at g
    conv => whnf
    refine ⟨fun q9 => by first | (simp at q9; done) | omega, ?_⟩
    exact h0 (by omega)
set_option maxRecDepth 20000 in
theorem r_feed (e0 : σ0 = sx_up σ 124 2 0) (hT : PT σ0) (en : σ0 124 1 = n9) (hn : 0 ≤ n9 ∧ n9 ≤ 700) {a b c d e : Int} (h0 : 680 < n9 → Q (some (.inl (-1))) shM σ0) (h1 : n9 ≤ 680 → ∀ σ', fr (FTr n9) σ0 σ' → σ' 124 1 = n9 + 20 → (∀ k : Int, 0 ≤ k → k < 20 → σ' 125 (n9 + k) = sx_and (sx_shr (fWd a b c d e k) (24 - 8 * (k % 4))) 255) → Q (some (.inl (n9 + 20))) shM σ') : sx_Run X 177 [.inr (.inr 124), .inl a, .inl b, .inl c, .inl d, .inl e] shM σ Q := by
  refine sx_rule2 (own := 12) (cd := kX12_feed) (nL := 8) (by decide +kernel) (by decide +kernel) kX12_feed_ok (by decide +kernel) (Nat.le_of_ble_eq_true rfl) [23] 40 (fun n t L st _ σ' => (t = 23 ∧ ∃ k : Int, ∃ w7 : Option sx_V, st = [] ∧ L = [some (.inr (.inr (124))), some (.inl (a)), some (.inl (b)), some (.inl (c)), some (.inl (d)), some (.inl (e)), some (.inl (k)), w7] ∧ (fr (FTr n9) σ0 σ' ∧ σ' 124 1 = n9 ∧ (∀ j : Int, 0 ≤ j → j < k → σ' 125 (n9 + j) = sx_and (sx_shr (fWd a b c d e j) (24 - 8 * (j % 4))) 255) ∧ 0 ≤ k ∧ k ≤ 20 ∧ n9 ≤ 680) ∧ n = (20 - k).toNat)) ?_ ?_
  · skip
    conv => whnf
    refine ⟨(by first | assumption | rfl), ?_⟩
    try simp (disch := omega) only [Int.cast_ofNat_Int, up_s, up_a, up_i, mp_a, mp_ge]
    try simp only [r0]
    try simp only [ek]
    try simp only [en]
    rw [← e0]
    conv => whnf
    refine ⟨(by first | assumption | rfl), ?_⟩
    try simp (disch := omega) only [Int.cast_ofNat_Int, up_s, up_a, up_i, mp_a, mp_ge]
    try simp only [r0]
    try simp only [ek]
    try simp only [en]
    conv => whnf
    refine ⟨⟨by omega, by omega⟩, ?_⟩
    conv => whnf
    refine ⟨fun g => ?_, fun g => ?_⟩
    · simp only [sx_cc, Classical.not_not] at g
      conv => whnf
      refine ⟨_, ⟨rfl, _, _, rfl, rfl, ?_, rfl⟩⟩
      exact ⟨fr.rfl, en, fun j y0 y1 => by omega, by omega, by omega, by omega⟩
    · simp only [sx_cc, Classical.not_not] at g
      conv => whnf
      refine ⟨fun q9 => by first | (simp at q9; done) | omega, ?_⟩
      exact h0 (by omega)
  · intro n t L st σ' hk
    obtain ⟨rfl, k, w7, rfl, rfl, hc, rfl⟩ := hk
    obtain ⟨hfi, ek, hb, hk0, hk1, hn6⟩ := hc
    have r0 := pt_124_0 (hfi.pttr hT)
    have htm : k.tmod 4 = k % 4 := Int.tmod_eq_emod_of_nonneg hk0
    have htb := tm_bd hk0 (show (0 : Int) < 4 by decide)
    conv => whnf
    refine ⟨fun g => ?_, fun g => ?_⟩
    · simp only [sx_cc, Classical.not_not] at g
      conv => whnf
      refine ⟨(by first | assumption | rfl), ?_⟩
      try simp (disch := omega) only [Int.cast_ofNat_Int, up_s, up_a, up_i, mp_a, mp_ge]
      try simp only [r0]
      try simp only [ek]
      try simp only [en]
      conv => whnf
      refine ⟨⟨by omega, by omega⟩, ?_⟩
      conv => whnf
      refine ⟨(by first | assumption | rfl), ?_⟩
      try simp (disch := omega) only [Int.cast_ofNat_Int, up_s, up_a, up_i, mp_a, mp_ge]
      try simp only [r0]
      try simp only [ek]
      try simp only [en]
      conv => whnf
      refine ⟨(by first | assumption | rfl), ?_⟩
      try simp (disch := omega) only [Int.cast_ofNat_Int, up_s, up_a, up_i, mp_a, mp_ge]
      try simp only [r0]
      try simp only [ek]
      try simp only [en]
      conv => whnf
      refine ⟨fun q9 => by first | (simp at q9; done) | omega, ?_⟩
      have e20 : k = 20 := by omega
      subst e20
      exact h1 hn6 _ (hfi.trans (fun a i z9 => by unfold FTr at z9; rw [up_n (by omega)])) (by rw [up_s]) (fun j y0 y1 => by rw [up_a (by decide)]; exact hb j y0 y1)
    · simp only [sx_cc, Classical.not_not] at g
      conv => whnf
      refine ⟨fun g => ?_, fun g => ?_⟩
      · simp only [sx_cc, Classical.not_not] at g
        conv => whnf
        refine ⟨fun g => ?_, fun g => ?_⟩
        · simp only [sx_cc, Classical.not_not] at g
          conv => whnf
          refine ⟨fun g => ?_, fun g => ?_⟩
          · simp only [sx_cc, Classical.not_not] at g
            conv => whnf
            refine ⟨fun g => ?_, fun g => ?_⟩
            · simp only [sx_cc, Classical.not_not] at g
              have ew : fWd a b c d e k = e := (if_neg (by omega)).trans ((if_neg (by omega)).trans ((if_neg (by omega)).trans (if_neg (by omega))))
              conv => whnf
              refine ⟨(by first | assumption | rfl), ?_⟩
              try simp (disch := omega) only [Int.cast_ofNat_Int, up_s, up_a, up_i, mp_a, mp_ge]
              try simp only [r0]
              try simp only [ek]
              try simp only [en]
              conv => whnf
              refine ⟨(by first | assumption | rfl), ?_⟩
              try simp (disch := omega) only [Int.cast_ofNat_Int, up_s, up_a, up_i, mp_a, mp_ge]
              try simp only [r0]
              try simp only [ek]
              try simp only [en]
              conv => whnf
              refine ⟨⟨by omega, by omega⟩, ?_⟩
              conv => whnf
              refine ⟨by omega, (show sx_r32 _ from ⟨by omega, by omega⟩), ?_⟩
              conv => whnf
              refine ⟨⟨by omega, by omega⟩, ?_⟩
              conv => whnf
              refine ⟨⟨by omega, by omega⟩, ?_⟩
              conv => whnf
              refine ⟨sx_ixI (by first | assumption | rfl) (by omega) (by omega), ?_⟩
              conv => whnf
              refine ⟨⟨by omega, by omega⟩, ?_⟩
              conv => whnf
              refine ⟨_, ?_, ⟨rfl, _, _, rfl, rfl, ?_, rfl⟩⟩
              · omega
              · refine ⟨hfi.trans (fun a i z9 => by unfold FTr at z9; rw [up_n (by omega)]), by rw [up_a (by decide)]; exact ek, fun j y0 y1 => ?_, by omega, by omega, hn6⟩
                by_cases e9 : j = k
                · rw [e9, up_s, ew, htm]
                · rw [up_i (by omega)]; exact hb j y0 (by omega)
            · simp only [sx_cc, Classical.not_not] at g
              have ew : fWd a b c d e k = d := (if_neg (by omega)).trans ((if_neg (by omega)).trans ((if_neg (by omega)).trans (if_pos (by omega))))
              conv => whnf
              refine ⟨(by first | assumption | rfl), ?_⟩
              try simp (disch := omega) only [Int.cast_ofNat_Int, up_s, up_a, up_i, mp_a, mp_ge]
              try simp only [r0]
              try simp only [ek]
              try simp only [en]
              conv => whnf
              refine ⟨(by first | assumption | rfl), ?_⟩
              try simp (disch := omega) only [Int.cast_ofNat_Int, up_s, up_a, up_i, mp_a, mp_ge]
              try simp only [r0]
              try simp only [ek]
              try simp only [en]
              conv => whnf
              refine ⟨⟨by omega, by omega⟩, ?_⟩
              conv => whnf
              refine ⟨by omega, (show sx_r32 _ from ⟨by omega, by omega⟩), ?_⟩
              conv => whnf
              refine ⟨⟨by omega, by omega⟩, ?_⟩
              conv => whnf
              refine ⟨⟨by omega, by omega⟩, ?_⟩
              conv => whnf
              refine ⟨sx_ixI (by first | assumption | rfl) (by omega) (by omega), ?_⟩
              conv => whnf
              refine ⟨⟨by omega, by omega⟩, ?_⟩
              conv => whnf
              refine ⟨_, ?_, ⟨rfl, _, _, rfl, rfl, ?_, rfl⟩⟩
              · omega
              · refine ⟨hfi.trans (fun a i z9 => by unfold FTr at z9; rw [up_n (by omega)]), by rw [up_a (by decide)]; exact ek, fun j y0 y1 => ?_, by omega, by omega, hn6⟩
                by_cases e9 : j = k
                · rw [e9, up_s, ew, htm]
                · rw [up_i (by omega)]; exact hb j y0 (by omega)
          · simp only [sx_cc, Classical.not_not] at g
            have ew : fWd a b c d e k = c := (if_neg (by omega)).trans ((if_neg (by omega)).trans (if_pos (by omega)))
            conv => whnf
            refine ⟨(by first | assumption | rfl), ?_⟩
            try simp (disch := omega) only [Int.cast_ofNat_Int, up_s, up_a, up_i, mp_a, mp_ge]
            try simp only [r0]
            try simp only [ek]
            try simp only [en]
            conv => whnf
            refine ⟨(by first | assumption | rfl), ?_⟩
            try simp (disch := omega) only [Int.cast_ofNat_Int, up_s, up_a, up_i, mp_a, mp_ge]
            try simp only [r0]
            try simp only [ek]
            try simp only [en]
            conv => whnf
            refine ⟨⟨by omega, by omega⟩, ?_⟩
            conv => whnf
            refine ⟨by omega, (show sx_r32 _ from ⟨by omega, by omega⟩), ?_⟩
            conv => whnf
            refine ⟨⟨by omega, by omega⟩, ?_⟩
            conv => whnf
            refine ⟨⟨by omega, by omega⟩, ?_⟩
            conv => whnf
            refine ⟨sx_ixI (by first | assumption | rfl) (by omega) (by omega), ?_⟩
            conv => whnf
            refine ⟨⟨by omega, by omega⟩, ?_⟩
            conv => whnf
            refine ⟨_, ?_, ⟨rfl, _, _, rfl, rfl, ?_, rfl⟩⟩
            · omega
            · refine ⟨hfi.trans (fun a i z9 => by unfold FTr at z9; rw [up_n (by omega)]), by rw [up_a (by decide)]; exact ek, fun j y0 y1 => ?_, by omega, by omega, hn6⟩
              by_cases e9 : j = k
              · rw [e9, up_s, ew, htm]
              · rw [up_i (by omega)]; exact hb j y0 (by omega)
        · simp only [sx_cc, Classical.not_not] at g
          have ew : fWd a b c d e k = b := (if_neg (by omega)).trans (if_pos (by omega))
          conv => whnf
          refine ⟨(by first | assumption | rfl), ?_⟩
          try simp (disch := omega) only [Int.cast_ofNat_Int, up_s, up_a, up_i, mp_a, mp_ge]
          try simp only [r0]
          try simp only [ek]
          try simp only [en]
          conv => whnf
          refine ⟨(by first | assumption | rfl), ?_⟩
          try simp (disch := omega) only [Int.cast_ofNat_Int, up_s, up_a, up_i, mp_a, mp_ge]
          try simp only [r0]
          try simp only [ek]
          try simp only [en]
          conv => whnf
          refine ⟨⟨by omega, by omega⟩, ?_⟩
          conv => whnf
          refine ⟨by omega, (show sx_r32 _ from ⟨by omega, by omega⟩), ?_⟩
          conv => whnf
          refine ⟨⟨by omega, by omega⟩, ?_⟩
          conv => whnf
          refine ⟨⟨by omega, by omega⟩, ?_⟩
          conv => whnf
          refine ⟨sx_ixI (by first | assumption | rfl) (by omega) (by omega), ?_⟩
          conv => whnf
          refine ⟨⟨by omega, by omega⟩, ?_⟩
          conv => whnf
          refine ⟨_, ?_, ⟨rfl, _, _, rfl, rfl, ?_, rfl⟩⟩
          · omega
          · refine ⟨hfi.trans (fun a i z9 => by unfold FTr at z9; rw [up_n (by omega)]), by rw [up_a (by decide)]; exact ek, fun j y0 y1 => ?_, by omega, by omega, hn6⟩
            by_cases e9 : j = k
            · rw [e9, up_s, ew, htm]
            · rw [up_i (by omega)]; exact hb j y0 (by omega)
      · simp only [sx_cc, Classical.not_not] at g
        have ew : fWd a b c d e k = a := if_pos (by omega)
        conv => whnf
        refine ⟨(by first | assumption | rfl), ?_⟩
        try simp (disch := omega) only [Int.cast_ofNat_Int, up_s, up_a, up_i, mp_a, mp_ge]
        try simp only [r0]
        try simp only [ek]
        try simp only [en]
        conv => whnf
        refine ⟨(by first | assumption | rfl), ?_⟩
        try simp (disch := omega) only [Int.cast_ofNat_Int, up_s, up_a, up_i, mp_a, mp_ge]
        try simp only [r0]
        try simp only [ek]
        try simp only [en]
        conv => whnf
        refine ⟨⟨by omega, by omega⟩, ?_⟩
        conv => whnf
        refine ⟨by omega, (show sx_r32 _ from ⟨by omega, by omega⟩), ?_⟩
        conv => whnf
        refine ⟨⟨by omega, by omega⟩, ?_⟩
        conv => whnf
        refine ⟨⟨by omega, by omega⟩, ?_⟩
        conv => whnf
        refine ⟨sx_ixI (by first | assumption | rfl) (by omega) (by omega), ?_⟩
        conv => whnf
        refine ⟨⟨by omega, by omega⟩, ?_⟩
        conv => whnf
        refine ⟨_, ?_, ⟨rfl, _, _, rfl, rfl, ?_, rfl⟩⟩
        · omega
        · refine ⟨hfi.trans (fun a i z9 => by unfold FTr at z9; rw [up_n (by omega)]), by rw [up_a (by decide)]; exact ek, fun j y0 y1 => ?_, by omega, by omega, hn6⟩
          by_cases e9 : j = k
          · rw [e9, up_s, ew, htm]
          · rw [up_i (by omega)]; exact hb j y0 (by omega)
end SXM13
