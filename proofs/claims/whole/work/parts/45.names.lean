/-! RECKONING: the names, both sides (by wip/whole) -/
section SXK6
variable {X : sx_X} {σ σ0 : sx_S} {s p : Int} {Q : sx_R}
/-- the seven names, in the reference's order -/
def fNm (we ga fa de ag sn ow : Int) : Int → Int := fun j => if j = 0 then we else if j = 1 then ga else if j = 2 then fa else if j = 3 then de else if j = 4 then ag else if j = 5 then sn else ow
theorem mp7 {σ : sx_S} {a v0 v1 v2 v3 v4 v5 v6 : Int} {f : Int → Int} (h0 : v0 = f 0) (h1 : v1 = f 1) (h2 : v2 = f 2) (h3 : v3 = f 3) (h4 : v4 = f 4) (h5 : v5 = f 5) (h6 : v6 = f 6) :
    sx_up (sx_up (sx_up (sx_up (sx_up (sx_up (sx_up σ a 0 v0) a 1 v1) a 2 v2) a 3 v3) a 4 v4) a 5 v5) a 6 v6 = sx_mp σ a 7 f := by
  have e0 : sx_up σ a 0 v0 = sx_mp σ a 1 f := by
    have h := mp_s (σ := σ) (a := a) (i := 0) (v := v0) (f := f) (by decide) h0
    rw [mp_0] at h
    exact h
  have e1 : sx_up (sx_mp σ a 1 f) a 1 v1 = sx_mp σ a 2 f := mp_s (by decide) h1
  have e2 : sx_up (sx_mp σ a 2 f) a 2 v2 = sx_mp σ a 3 f := mp_s (by decide) h2
  have e3 : sx_up (sx_mp σ a 3 f) a 3 v3 = sx_mp σ a 4 f := mp_s (by decide) h3
  have e4 : sx_up (sx_mp σ a 4 f) a 4 v4 = sx_mp σ a 5 f := mp_s (by decide) h4
  have e5 : sx_up (sx_mp σ a 5 f) a 5 v5 = sx_mp σ a 6 f := mp_s (by decide) h5
  have e6 : sx_up (sx_mp σ a 6 f) a 6 v6 = sx_mp σ a 7 f := mp_s (by decide) h6
  rw [e0, e1, e2, e3, e4, e5, e6]
set_option maxRecDepth 20000 in
theorem c_Kset (hT : PT σ) {c j v : Int} (hc : c = j + 10) (hj : 0 ≤ j ∧ j < 7) (h : Q none shM (sx_up σ 38 j v)) : sx_Run X 56 [.inr (.inr 37), .inl c, .inr (.inl v)] shM σ Q := by
  have o0 := pt_37_0 hT
  subst hc
  have ej : j + 10 - 10 = j := by omega
  refine sx_rule0 (own := 6) (cd := kX6_setName) (nL := 4) (by decide +kernel) (by decide +kernel) kX6_setName_ok (by decide +kernel) (Nat.le_of_ble_eq_true rfl) 40 ?_
  conv => whnf
  refine ⟨fun g => ?_, fun g => ?_⟩
  · simp only [sx_cc, Classical.not_not] at g
    conv => whnf
    refine ⟨rfl, ?_⟩
    first | exact h | (exfalso; omega)
  · simp only [sx_cc, Classical.not_not] at g
    conv => whnf
    refine ⟨fun g => ?_, fun g => ?_⟩
    · simp only [sx_cc, Classical.not_not] at g
      conv => whnf
      refine ⟨rfl, ?_⟩
      first | exact h | (exfalso; omega)
    · simp only [sx_cc, Classical.not_not] at g
      conv => whnf
      refine ⟨(by first | assumption | rfl), ?_⟩
      try simp (disch := omega) only [Int.cast_ofNat_Int, up_s, up_a, up_i, mp_a, mp_ge, cp_a, o0]
      conv => whnf
      refine ⟨⟨by omega, by omega⟩, ?_⟩
      conv => whnf
      refine ⟨sx_ixI (by first | assumption | rfl) (by omega) (by omega), ?_⟩
      rw [ej]
      conv => whnf
      refine ⟨rfl, ?_⟩
      first | exact h | (exfalso; omega)
set_option maxRecDepth 20000 in
theorem c_Ssetnames (hT : PT σ) (hs : isS s) (hp : isP p) (ep : σ s 1 = p) (hd : PD σ p) {w c de ag : Int} (hw : 0 ≤ w ∧ w < 5) (hc : 0 ≤ c ∧ c < 48) (hh : 0 ≤ σ (p + 8) w ∧ σ (p + 8) w < 48) (h : Q none shM (sx_mp σ 38 7 (fun j => (fNm (σ (p + 6) w) (σ (p + 7) w) (fFar (σ p 0) c (σ (p + 8) w)) de ag (σ s 8) (fB (σ (p + 2) c = σ (p + 5) w))) (fPn (j + 10))))) : sx_Run X 79 [.inr (.inr s), .inl w, .inl c, .inl de, .inl ag] shM σ Q := by
  have k0 := lkS0 hs
  have s0 := ptS_0 hT hs
  have q0 := lkP0 hp
  have q2 := lkP2 hp
  have q5 := lkP5 hp
  have q6 := lkP6 hp
  have q7 := lkP7 hp
  have q8 := lkP8 hp
  have t3 := ptP_3 hT hp
  have t8 := ptP_8 hT hp
  have t9 := ptP_9 hT hp
  have t10 := ptP_10 hT hp
  have t11 := ptP_11 hT hp
  have hpz : p + 20 < 38 := by rcases hp with h9 | h9 <;> omega
  have hsz : 40 ≤ s := by rcases hs with h9 | h9 | h9 <;> omega
  have h0p : 0 < p := by rcases hp with h9 | h9 <;> omega
  refine sx_rule0 (own := 9) (cd := kX9_setNames) (nL := 5) (by decide +kernel) (by decide +kernel) kX9_setNames_ok (by decide +kernel) (Nat.le_of_ble_eq_true rfl) 40 ?_
  conv => whnf
  refine ⟨(by first | assumption | rfl), ?_⟩
  try simp (disch := omega) only [Int.cast_ofNat_Int, up_s, up_a, up_i, mp_a, mp_ge, cp_a, s0, ep, t3, t8, t9, t10, t11]
  conv => whnf
  refine ⟨Nat.le_of_ble_eq_true rfl, Nat.le_of_ble_eq_true rfl, (by first | assumption | rfl), ?_⟩
  refine c_Kset (j := 0) hT (by decide) ⟨by decide, by decide⟩ ?_
  conv => whnf
  refine ⟨(by first | assumption | rfl), ?_⟩
  try simp (disch := omega) only [Int.cast_ofNat_Int, up_s, up_a, up_i, mp_a, mp_ge, cp_a, s0, ep, t3, t8, t9, t10, t11]
  conv => whnf
  refine ⟨(by first | assumption | rfl), ?_⟩
  try simp (disch := omega) only [Int.cast_ofNat_Int, up_s, up_a, up_i, mp_a, mp_ge, cp_a, s0, ep, t3, t8, t9, t10, t11]
  conv => whnf
  refine ⟨(by first | assumption | rfl), ?_⟩
  try simp (disch := omega) only [Int.cast_ofNat_Int, up_s, up_a, up_i, mp_a, mp_ge, cp_a, s0, ep, t3, t8, t9, t10, t11]
  conv => whnf
  refine ⟨sx_ixI (by first | assumption | rfl) (by omega) (by omega), ?_⟩
  try simp (disch := omega) only [Int.cast_ofNat_Int, up_s, up_a, up_i, mp_a, mp_ge, cp_a, s0, ep, t3, t8, t9, t10, t11]
  conv => whnf
  refine ⟨Nat.le_of_ble_eq_true rfl, Nat.le_of_ble_eq_true rfl, (by first | assumption | rfl), ?_⟩
  refine c_Kset (j := 1) (PT_up hT lk_38 (by decide)) (by decide) ⟨by decide, by decide⟩ ?_
  conv => whnf
  refine ⟨(by first | assumption | rfl), ?_⟩
  try simp (disch := omega) only [Int.cast_ofNat_Int, up_s, up_a, up_i, mp_a, mp_ge, cp_a, s0, ep, t3, t8, t9, t10, t11]
  conv => whnf
  refine ⟨(by first | assumption | rfl), ?_⟩
  try simp (disch := omega) only [Int.cast_ofNat_Int, up_s, up_a, up_i, mp_a, mp_ge, cp_a, s0, ep, t3, t8, t9, t10, t11]
  conv => whnf
  refine ⟨(by first | assumption | rfl), ?_⟩
  try simp (disch := omega) only [Int.cast_ofNat_Int, up_s, up_a, up_i, mp_a, mp_ge, cp_a, s0, ep, t3, t8, t9, t10, t11]
  conv => whnf
  refine ⟨sx_ixI (by first | assumption | rfl) (by omega) (by omega), ?_⟩
  try simp (disch := omega) only [Int.cast_ofNat_Int, up_s, up_a, up_i, mp_a, mp_ge, cp_a, s0, ep, t3, t8, t9, t10, t11]
  conv => whnf
  refine ⟨Nat.le_of_ble_eq_true rfl, Nat.le_of_ble_eq_true rfl, (by first | assumption | rfl), ?_⟩
  refine c_Kset (j := 2) (PT_up (PT_up hT lk_38 (by decide)) lk_38 (by decide)) (by decide) ⟨by decide, by decide⟩ ?_
  conv => whnf
  refine ⟨(by first | assumption | rfl), ?_⟩
  try simp (disch := omega) only [Int.cast_ofNat_Int, up_s, up_a, up_i, mp_a, mp_ge, cp_a, s0, ep, t3, t8, t9, t10, t11]
  conv => whnf
  refine ⟨(by first | assumption | rfl), ?_⟩
  try simp (disch := omega) only [Int.cast_ofNat_Int, up_s, up_a, up_i, mp_a, mp_ge, cp_a, s0, ep, t3, t8, t9, t10, t11]
  conv => whnf
  refine ⟨(by first | assumption | rfl), ?_⟩
  try simp (disch := omega) only [Int.cast_ofNat_Int, up_s, up_a, up_i, mp_a, mp_ge, cp_a, s0, ep, t3, t8, t9, t10, t11]
  conv => whnf
  refine ⟨(by first | assumption | rfl), ?_⟩
  try simp (disch := omega) only [Int.cast_ofNat_Int, up_s, up_a, up_i, mp_a, mp_ge, cp_a, s0, ep, t3, t8, t9, t10, t11]
  conv => whnf
  refine ⟨sx_ixI (by first | assumption | rfl) (by omega) (by omega), ?_⟩
  try simp (disch := omega) only [Int.cast_ofNat_Int, up_s, up_a, up_i, mp_a, mp_ge, cp_a, s0, ep, t3, t8, t9, t10, t11]
  conv => whnf
  refine ⟨Nat.le_of_ble_eq_true rfl, Nat.le_of_ble_eq_true rfl, (by first | assumption | rfl), ?_⟩
  refine c_Papart hp (by unfold PD; simp (disch := omega) only [up_a]; exact hd) hc (by first | exact hh | (simp (disch := omega) only [up_a]; exact hh)) ?_
  conv => whnf
  refine ⟨Nat.le_of_ble_eq_true rfl, Nat.le_of_ble_eq_true rfl, (by first | assumption | rfl), ?_⟩
  refine c_Kset (j := 3) (PT_up (PT_up (PT_up hT lk_38 (by decide)) lk_38 (by decide)) lk_38 (by decide)) (by decide) ⟨by decide, by decide⟩ ?_
  conv => whnf
  refine ⟨(by first | assumption | rfl), ?_⟩
  try simp (disch := omega) only [Int.cast_ofNat_Int, up_s, up_a, up_i, mp_a, mp_ge, cp_a, s0, ep, t3, t8, t9, t10, t11]
  conv => whnf
  refine ⟨Nat.le_of_ble_eq_true rfl, Nat.le_of_ble_eq_true rfl, (by first | assumption | rfl), ?_⟩
  refine c_Kset (j := 4) (PT_up (PT_up (PT_up (PT_up hT lk_38 (by decide)) lk_38 (by decide)) lk_38 (by decide)) lk_38 (by decide)) (by decide) ⟨by decide, by decide⟩ ?_
  conv => whnf
  refine ⟨(by first | assumption | rfl), ?_⟩
  try simp (disch := omega) only [Int.cast_ofNat_Int, up_s, up_a, up_i, mp_a, mp_ge, cp_a, s0, ep, t3, t8, t9, t10, t11]
  conv => whnf
  refine ⟨(by first | assumption | rfl), ?_⟩
  try simp (disch := omega) only [Int.cast_ofNat_Int, up_s, up_a, up_i, mp_a, mp_ge, cp_a, s0, ep, t3, t8, t9, t10, t11]
  conv => whnf
  refine ⟨Nat.le_of_ble_eq_true rfl, Nat.le_of_ble_eq_true rfl, (by first | assumption | rfl), ?_⟩
  refine c_Kset (j := 5) (PT_up (PT_up (PT_up (PT_up (PT_up hT lk_38 (by decide)) lk_38 (by decide)) lk_38 (by decide)) lk_38 (by decide)) lk_38 (by decide)) (by decide) ⟨by decide, by decide⟩ ?_
  conv => whnf
  refine ⟨(by first | assumption | rfl), ?_⟩
  try simp (disch := omega) only [Int.cast_ofNat_Int, up_s, up_a, up_i, mp_a, mp_ge, cp_a, s0, ep, t3, t8, t9, t10, t11]
  conv => whnf
  refine ⟨(by first | assumption | rfl), ?_⟩
  try simp (disch := omega) only [Int.cast_ofNat_Int, up_s, up_a, up_i, mp_a, mp_ge, cp_a, s0, ep, t3, t8, t9, t10, t11]
  conv => whnf
  refine ⟨(by first | assumption | rfl), ?_⟩
  try simp (disch := omega) only [Int.cast_ofNat_Int, up_s, up_a, up_i, mp_a, mp_ge, cp_a, s0, ep, t3, t8, t9, t10, t11]
  conv => whnf
  refine ⟨sx_ixI (by first | assumption | rfl) (by omega) (by omega), ?_⟩
  try simp (disch := omega) only [Int.cast_ofNat_Int, up_s, up_a, up_i, mp_a, mp_ge, cp_a, s0, ep, t3, t8, t9, t10, t11]
  conv => whnf
  refine ⟨(by first | assumption | rfl), ?_⟩
  try simp (disch := omega) only [Int.cast_ofNat_Int, up_s, up_a, up_i, mp_a, mp_ge, cp_a, s0, ep, t3, t8, t9, t10, t11]
  conv => whnf
  refine ⟨(by first | assumption | rfl), ?_⟩
  try simp (disch := omega) only [Int.cast_ofNat_Int, up_s, up_a, up_i, mp_a, mp_ge, cp_a, s0, ep, t3, t8, t9, t10, t11]
  conv => whnf
  refine ⟨sx_ixI (by first | assumption | rfl) (by omega) (by omega), ?_⟩
  try simp (disch := omega) only [Int.cast_ofNat_Int, up_s, up_a, up_i, mp_a, mp_ge, cp_a, s0, ep, t3, t8, t9, t10, t11]
  conv => whnf
  refine ⟨fun g => ?_, fun g => ?_⟩
  · simp only [sx_cc, Classical.not_not] at g
    conv => whnf
    refine ⟨Nat.le_of_ble_eq_true rfl, Nat.le_of_ble_eq_true rfl, (by first | assumption | rfl), ?_⟩
    refine c_Kset (j := 6) (PT_up (PT_up (PT_up (PT_up (PT_up (PT_up hT lk_38 (by decide)) lk_38 (by decide)) lk_38 (by decide)) lk_38 (by decide)) lk_38 (by decide)) lk_38 (by decide)) (by decide) ⟨by decide, by decide⟩ ?_
    conv => whnf
    refine ⟨rfl, ?_⟩
    refine cast (congrArg (fun z => Q none shM z) (mp7 (f := fun j => (fNm (σ (p + 6) w) (σ (p + 7) w) (fFar (σ p 0) c (σ (p + 8) w)) de ag (σ s 8) (fB (σ (p + 2) c = σ (p + 5) w))) (fPn (j + 10))) rfl rfl rfl rfl rfl rfl ?_).symm) h
    show _ = fB (σ (p + 2) c = σ (p + 5) w)
    unfold fB
    first | (rw [if_pos (by omega)]; rfl) | (rw [if_neg (by omega)]; rfl)
  · simp only [sx_cc, Classical.not_not] at g
    conv => whnf
    refine ⟨Nat.le_of_ble_eq_true rfl, Nat.le_of_ble_eq_true rfl, (by first | assumption | rfl), ?_⟩
    refine c_Kset (j := 6) (PT_up (PT_up (PT_up (PT_up (PT_up (PT_up hT lk_38 (by decide)) lk_38 (by decide)) lk_38 (by decide)) lk_38 (by decide)) lk_38 (by decide)) lk_38 (by decide)) (by decide) ⟨by decide, by decide⟩ ?_
    conv => whnf
    refine ⟨rfl, ?_⟩
    refine cast (congrArg (fun z => Q none shM z) (mp7 (f := fun j => (fNm (σ (p + 6) w) (σ (p + 7) w) (fFar (σ p 0) c (σ (p + 8) w)) de ag (σ s 8) (fB (σ (p + 2) c = σ (p + 5) w))) (fPn (j + 10))) rfl rfl rfl rfl rfl rfl ?_).symm) h
    show _ = fB (σ (p + 2) c = σ (p + 5) w)
    unfold fB
    first | (rw [if_pos (by omega)]; rfl) | (rw [if_neg (by omega)]; rfl)
set_option maxRecDepth 20000 in
theorem c_Rlaynames (hT : PT σ) (hd : RD σ) {b w c de ag : Int} (hb : b = 0 ∨ b = 1) (hw : 0 ≤ w ∧ w < 5) (hc : 0 ≤ c ∧ c < 48) (hh : 0 ≤ σ 134 w ∧ σ 134 w < 48) (h : Q none shM (sx_mp σ 144 7 (fNm (σ 132 w) (σ 133 w) (fFar (σ 124 12) c (σ 134 w)) de ag (σ 155 b) (fB (σ 128 c = σ 131 w))))) : sx_Run X 229 [.inr (.inr 124), .inl b, .inl w, .inl c, .inl de, .inl ag] shM σ Q := by
  have r31 := pt_124_31 hT
  have r34 := pt_124_34 hT
  have r35 := pt_124_35 hT
  have r36 := pt_124_36 hT
  have r37 := pt_124_37 hT
  have r54 := pt_124_54 hT
  have r66 := pt_124_66 hT
  refine sx_rule0 (own := 12) (cd := kX12_layNames) (nL := 6) (by decide +kernel) (by decide +kernel) kX12_layNames_ok (by decide +kernel) (Nat.le_of_ble_eq_true rfl) 40 ?_
  conv => whnf
  refine ⟨(by first | assumption | rfl), ?_⟩
  try simp (disch := omega) only [Int.cast_ofNat_Int, up_s, up_a, up_i, mp_a, mp_ge, cp_a, r31, r34, r35, r36, r37, r54, r66]
  conv => whnf
  refine ⟨(by first | assumption | rfl), ?_⟩
  try simp (disch := omega) only [Int.cast_ofNat_Int, up_s, up_a, up_i, mp_a, mp_ge, cp_a, r31, r34, r35, r36, r37, r54, r66]
  conv => whnf
  refine ⟨sx_ixI (by first | assumption | rfl) (by omega) (by omega), ?_⟩
  try simp (disch := omega) only [Int.cast_ofNat_Int, up_s, up_a, up_i, mp_a, mp_ge, cp_a, r31, r34, r35, r36, r37, r54, r66]
  conv => whnf
  refine ⟨sx_ixI (by first | assumption | rfl) (by omega) (by omega), ?_⟩
  conv => whnf
  refine ⟨(by first | assumption | rfl), ?_⟩
  try simp (disch := omega) only [Int.cast_ofNat_Int, up_s, up_a, up_i, mp_a, mp_ge, cp_a, r31, r34, r35, r36, r37, r54, r66]
  conv => whnf
  refine ⟨(by first | assumption | rfl), ?_⟩
  try simp (disch := omega) only [Int.cast_ofNat_Int, up_s, up_a, up_i, mp_a, mp_ge, cp_a, r31, r34, r35, r36, r37, r54, r66]
  conv => whnf
  refine ⟨sx_ixI (by first | assumption | rfl) (by omega) (by omega), ?_⟩
  try simp (disch := omega) only [Int.cast_ofNat_Int, up_s, up_a, up_i, mp_a, mp_ge, cp_a, r31, r34, r35, r36, r37, r54, r66]
  conv => whnf
  refine ⟨sx_ixI (by first | assumption | rfl) (by omega) (by omega), ?_⟩
  conv => whnf
  refine ⟨(by first | assumption | rfl), ?_⟩
  try simp (disch := omega) only [Int.cast_ofNat_Int, up_s, up_a, up_i, mp_a, mp_ge, cp_a, r31, r34, r35, r36, r37, r54, r66]
  conv => whnf
  refine ⟨(by first | assumption | rfl), ?_⟩
  try simp (disch := omega) only [Int.cast_ofNat_Int, up_s, up_a, up_i, mp_a, mp_ge, cp_a, r31, r34, r35, r36, r37, r54, r66]
  conv => whnf
  refine ⟨sx_ixI (by first | assumption | rfl) (by omega) (by omega), ?_⟩
  try simp (disch := omega) only [Int.cast_ofNat_Int, up_s, up_a, up_i, mp_a, mp_ge, cp_a, r31, r34, r35, r36, r37, r54, r66]
  conv => whnf
  refine ⟨Nat.le_of_ble_eq_true rfl, Nat.le_of_ble_eq_true rfl, (by first | assumption | rfl), ?_⟩
  refine c_Rfar (by unfold RD; simp (disch := omega) only [up_a]; exact hd) hc (by first | exact hh | (simp (disch := omega) only [up_a]; exact hh)) ?_
  conv => whnf
  refine ⟨sx_ixI (by first | assumption | rfl) (by omega) (by omega), ?_⟩
  conv => whnf
  refine ⟨(by first | assumption | rfl), ?_⟩
  try simp (disch := omega) only [Int.cast_ofNat_Int, up_s, up_a, up_i, mp_a, mp_ge, cp_a, r31, r34, r35, r36, r37, r54, r66]
  conv => whnf
  refine ⟨sx_ixI (by first | assumption | rfl) (by omega) (by omega), ?_⟩
  conv => whnf
  refine ⟨(by first | assumption | rfl), ?_⟩
  try simp (disch := omega) only [Int.cast_ofNat_Int, up_s, up_a, up_i, mp_a, mp_ge, cp_a, r31, r34, r35, r36, r37, r54, r66]
  conv => whnf
  refine ⟨sx_ixI (by first | assumption | rfl) (by omega) (by omega), ?_⟩
  conv => whnf
  refine ⟨(by first | assumption | rfl), ?_⟩
  try simp (disch := omega) only [Int.cast_ofNat_Int, up_s, up_a, up_i, mp_a, mp_ge, cp_a, r31, r34, r35, r36, r37, r54, r66]
  conv => whnf
  refine ⟨(by first | assumption | rfl), ?_⟩
  try simp (disch := omega) only [Int.cast_ofNat_Int, up_s, up_a, up_i, mp_a, mp_ge, cp_a, r31, r34, r35, r36, r37, r54, r66]
  conv => whnf
  refine ⟨sx_ixI (by first | assumption | rfl) (by omega) (by omega), ?_⟩
  try simp (disch := omega) only [Int.cast_ofNat_Int, up_s, up_a, up_i, mp_a, mp_ge, cp_a, r31, r34, r35, r36, r37, r54, r66]
  conv => whnf
  refine ⟨sx_ixI (by first | assumption | rfl) (by omega) (by omega), ?_⟩
  conv => whnf
  refine ⟨(by first | assumption | rfl), ?_⟩
  try simp (disch := omega) only [Int.cast_ofNat_Int, up_s, up_a, up_i, mp_a, mp_ge, cp_a, r31, r34, r35, r36, r37, r54, r66]
  conv => whnf
  refine ⟨(by first | assumption | rfl), ?_⟩
  try simp (disch := omega) only [Int.cast_ofNat_Int, up_s, up_a, up_i, mp_a, mp_ge, cp_a, r31, r34, r35, r36, r37, r54, r66]
  conv => whnf
  refine ⟨sx_ixI (by first | assumption | rfl) (by omega) (by omega), ?_⟩
  try simp (disch := omega) only [Int.cast_ofNat_Int, up_s, up_a, up_i, mp_a, mp_ge, cp_a, r31, r34, r35, r36, r37, r54, r66]
  conv => whnf
  refine ⟨(by first | assumption | rfl), ?_⟩
  try simp (disch := omega) only [Int.cast_ofNat_Int, up_s, up_a, up_i, mp_a, mp_ge, cp_a, r31, r34, r35, r36, r37, r54, r66]
  conv => whnf
  refine ⟨sx_ixI (by first | assumption | rfl) (by omega) (by omega), ?_⟩
  try simp (disch := omega) only [Int.cast_ofNat_Int, up_s, up_a, up_i, mp_a, mp_ge, cp_a, r31, r34, r35, r36, r37, r54, r66]
  conv => whnf
  refine ⟨fun g => ?_, fun g => ?_⟩
  · simp only [sx_cc, Classical.not_not] at g
    conv => whnf
    refine ⟨sx_ixI (by first | assumption | rfl) (by omega) (by omega), ?_⟩
    conv => whnf
    refine ⟨rfl, ?_⟩
    refine cast (congrArg (fun z => Q none shM z) (mp7 (f := fNm (σ 132 w) (σ 133 w) (fFar (σ 124 12) c (σ 134 w)) de ag (σ 155 b) (fB (σ 128 c = σ 131 w))) rfl rfl rfl rfl rfl rfl ?_).symm) h
    show _ = fB (σ 128 c = σ 131 w)
    unfold fB
    first | (rw [if_pos (by omega)]; rfl) | (rw [if_neg (by omega)]; rfl)
  · simp only [sx_cc, Classical.not_not] at g
    conv => whnf
    refine ⟨sx_ixI (by first | assumption | rfl) (by omega) (by omega), ?_⟩
    conv => whnf
    refine ⟨rfl, ?_⟩
    refine cast (congrArg (fun z => Q none shM z) (mp7 (f := fNm (σ 132 w) (σ 133 w) (fFar (σ 124 12) c (σ 134 w)) de ag (σ 155 b) (fB (σ 128 c = σ 131 w))) rfl rfl rfl rfl rfl rfl ?_).symm) h
    show _ = fB (σ 128 c = σ 131 w)
    unfold fB
    first | (rw [if_pos (by omega)]; rfl) | (rw [if_neg (by omega)]; rfl)
end SXK6
