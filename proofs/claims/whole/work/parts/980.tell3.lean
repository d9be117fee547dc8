/-! THE TELLER: walkers (by wip/whole) -/
section SXP3
variable {X : sx_X} {Q : sx_R} {σ σ0 σ' σ1 σ2 : sx_S} {tx : Int → Int} {n9 p i : Int} {F : Option (Int × Int)}
def zWalk (p : Int) (s : sx_S) (tx : Int → Int) (n9 i : Int) : Option (Int × Int) := (aF tx n9 (kE tx n9 i)).or ((fBq (¬ fFind (s (p + 4)) (aV tx n9 (kE tx n9 i)) (s p 6).toNat = -1) 3 (kS tx n9 (kE tx n9 i))).or ((aF tx n9 (kE tx n9 (kE tx n9 i))).or ((fBq (fFind (s (p + 3)) (aV tx n9 (kE tx n9 (kE tx n9 i))) (s p 4).toNat = -1) 4 (kS tx n9 (kE tx n9 (kE tx n9 i)))).or ((nF tx n9 1 60 (kE tx n9 (kE tx n9 (kE tx n9 i)))).or ((nF tx n9 1 3 (kE tx n9 (kE tx n9 (kE tx n9 (kE tx n9 i))))).or ((nF tx n9 0 (s p 0 - 1) (kE tx n9 (kE tx n9 (kE tx n9 (kE tx n9 (kE tx n9 i)))))).or (nF tx n9 0 (s p 1 - 1) (kE tx n9 (kE tx n9 (kE tx n9 (kE tx n9 (kE tx n9 (kE tx n9 i)))))))))))))
abbrev FZw (p n a j : Int) : Prop := FNx a j ∨ (a = 32 ∧ j = 9) ∨ (p + 4 ≤ a ∧ a ≤ p + 8 ∧ j = n) ∨ (a = p ∧ j = 6)
theorem c_Twalk_v {σ3 σ4 σ5 σ6 σ7 σ8 σ9 σ10 σ11 : sx_S} {m v1 v2 v3 v4 v5 v6 : Int} (hp : 2 ≤ p ∧ p ≤ 17)  (hf3 : fr FNx (sx_up σ (32) (9) (1)) σ3) (hf4 : fr FFl σ3 σ4) (hf5 : fr FNx σ4 σ5) (hf6 : fr FFl σ5 σ6) (hf7 : fr FNx (sx_up (sx_up σ6 (p + 4) (m) (v1)) (p + 5) (m) (v2)) σ7) (hf8 : fr FNx (sx_up σ7 (p + 6) (m) (v3)) σ8) (hf9 : fr FNx (sx_up σ8 (p + 7) (m) (v4)) σ9) (hf10 : fr FNx σ9 σ10) (hf11 : fr FXa (sx_up (sx_up σ10 (p + 8) (m) (v5)) (p) (6) (v6)) σ11) : fr (FZw p m) σ σ11 ∧ σ11 (32) (9) = 1 ∧ σ11 (p + 4) (m) = v1 ∧ σ11 (p + 5) (m) = v2 ∧ σ11 (p + 6) (m) = v3 ∧ σ11 (p + 7) (m) = v4 ∧ σ11 (p + 8) (m) = v5 ∧ σ11 (p) (6) = v6 := by
  refine ⟨fun a j z9 => by unfold FZw FNx at z9; rw [hf11 _ _ (by unfold FXa; omega), up_n (by omega), up_n (by omega), hf10 _ _ (by unfold FNx; omega), hf9 _ _ (by unfold FNx; omega), up_n (by omega), hf8 _ _ (by unfold FNx; omega), up_n (by omega), hf7 _ _ (by unfold FNx; omega), up_n (by omega), up_n (by omega), hf6 _ _ (by unfold FFl; omega), hf5 _ _ (by unfold FNx; omega), hf4 _ _ (by unfold FFl; omega), hf3 _ _ (by unfold FNx; omega), up_n (by omega)],
    by rw [hf11 _ _ (by unfold FXa; omega), up_n (by omega), up_n (by omega), hf10 _ _ (by unfold FNx; omega), hf9 _ _ (by unfold FNx; omega), up_n (by omega), hf8 _ _ (by unfold FNx; omega), up_n (by omega), hf7 _ _ (by unfold FNx; omega), up_n (by omega), up_n (by omega), hf6 _ _ (by unfold FFl; omega), hf5 _ _ (by unfold FNx; omega), hf4 _ _ (by unfold FFl; omega), hf3 _ _ (by unfold FNx; omega), up_s],
    by rw [hf11 _ _ (by unfold FXa; omega), up_n (by omega), up_n (by omega), hf10 _ _ (by unfold FNx; omega), hf9 _ _ (by unfold FNx; omega), up_n (by omega), hf8 _ _ (by unfold FNx; omega), up_n (by omega), hf7 _ _ (by unfold FNx; omega), up_n (by omega), up_s],
    by rw [hf11 _ _ (by unfold FXa; omega), up_n (by omega), up_n (by omega), hf10 _ _ (by unfold FNx; omega), hf9 _ _ (by unfold FNx; omega), up_n (by omega), hf8 _ _ (by unfold FNx; omega), up_n (by omega), hf7 _ _ (by unfold FNx; omega), up_s],
    by rw [hf11 _ _ (by unfold FXa; omega), up_n (by omega), up_n (by omega), hf10 _ _ (by unfold FNx; omega), hf9 _ _ (by unfold FNx; omega), up_n (by omega), hf8 _ _ (by unfold FNx; omega), up_s],
    by rw [hf11 _ _ (by unfold FXa; omega), up_n (by omega), up_n (by omega), hf10 _ _ (by unfold FNx; omega), hf9 _ _ (by unfold FNx; omega), up_s],
    by rw [hf11 _ _ (by unfold FXa; omega), up_n (by omega), up_s],
    by rw [hf11 _ _ (by unfold FXa; omega), up_s]⟩
theorem nx_lt {a j : Int} (h : a ≤ 31) : ¬ FNx a j := by unfold FNx; omega
theorem ff_lt {a j : Int} (h : a ≤ 31) : ¬ FFl a j := by unfold FFl; omega
theorem xa_lt {a j : Int} (h : a ≤ 31) : ¬ FXa a j := by unfold FXa; omega
set_option maxRecDepth 20000 in
theorem c_Twalk (hw : sx_WT X) (hq : cQ p σ tx n9 i none) (wz : wZ p σ) (h0 : 5 ≤ σ p 6 → ∀ σ', fr FFl σ σ' → cQ p σ' tx n9 i (some (2, kS tx n9 i)) → Q none shM σ') (h : σ p 6 < 5 → ∀ σ', fr (FZw p (σ p 6)) σ σ' → cQ p σ' tx n9 (kE tx n9 (kE tx n9 (kE tx n9 (kE tx n9 (kE tx n9 (kE tx n9 (kE tx n9 i))))))) (zWalk p σ tx n9 i) → σ' 32 9 = 1 → σ' (p + 4) (σ p 6) = aV tx n9 (kE tx n9 i) → σ' (p + 5) (σ p 6) = fFind (σ (p + 3)) (aV tx n9 (kE tx n9 (kE tx n9 i))) (σ p 4).toNat → σ' (p + 6) (σ p 6) = nV tx n9 1 60 (kE tx n9 (kE tx n9 (kE tx n9 i))) → σ' (p + 7) (σ p 6) = nV tx n9 1 3 (kE tx n9 (kE tx n9 (kE tx n9 (kE tx n9 i)))) → σ' (p + 8) (σ p 6) = zCell p σ tx n9 (kE tx n9 (kE tx n9 (kE tx n9 (kE tx n9 (kE tx n9 i))))) → σ' p 6 = σ p 6 + 1 → Q none shM σ') : sx_Run X 109 [.inr (.inr 32)] shM σ Q := by
  have hp : 2 ≤ p ∧ p ≤ 17 := by rcases hq.ip with rfl | rfl <;> decide
  have k0 := lkP0 hq.1
  have k1 := lkP1 hq.1
  have k2 := lkP2 hq.1
  have k3 := lkP3 hq.1
  have k4 := lkP4 hq.1
  have k5 := lkP5 hq.1
  have k6 := lkP6 hq.1
  have k7 := lkP7 hq.1
  have k8 := lkP8 hq.1
  have k9 := lkP9 hq.1
  have k10 := lkP10 hq.1
  have k11 := lkP11 hq.1
  have k12 := lkP12 hq.1
  have k13 := lkP13 hq.1
  have k14 := lkP14 hq.1
  skip
  have t3 := pt_32_3 hq.pt
  have t4 := hq.ep
  have t5 := pt_32_5 hq.pt
  have m7 := ptP_7 hq.pt hq.1
  have m8 := ptP_8 hq.pt hq.1
  have m9 := ptP_9 hq.pt hq.1
  have m10 := ptP_10 hq.pt hq.1
  have m11 := ptP_11 hq.pt hq.1
  have pl : p ≤ 31 := by omega
  have pn32 : ¬ p = 32 := by omega
  have pl1 : p + 1 ≤ 31 := by omega
  have pl2 : p + 2 ≤ 31 := by omega
  have pl3 : p + 3 ≤ 31 := by omega
  have pl4 : p + 4 ≤ 31 := by omega
  have pn1 : ¬ p = p + 1 := by omega
  have pn2 : ¬ p = p + 2 := by omega
  have pn3 : ¬ p = p + 3 := by omega
  have pn4 : ¬ p = p + 4 := by omega
  have pn5 : ¬ p = p + 5 := by omega
  have pn6 : ¬ p = p + 6 := by omega
  have pn7 : ¬ p = p + 7 := by omega
  have pn8 : ¬ p = p + 8 := by omega
  have pn10 : ¬ p = p + 10 := by omega
  obtain ⟨z0, z1, z2, z3, z4, z5⟩ := wz
  have wz : wZ p σ := ⟨z0, z1, z2, z3, z4, z5⟩
  have zx := nV_bd (tx := tx) (n9 := n9) (i := (kE tx n9 (kE tx n9 (kE tx n9 (kE tx n9 (kE tx n9 i)))))) (lo := 0) (hi := σ p 0 - 1) (by omega)
  have zy := nV_bd (tx := tx) (n9 := n9) (i := (kE tx n9 (kE tx n9 (kE tx n9 (kE tx n9 (kE tx n9 (kE tx n9 i))))))) (lo := 0) (hi := σ p 1 - 1) (by omega)
  have zcb := cell_bd z0 z1 zx zy
  refine sx_rule0 (own := 10) (cd := kX10_tellWalker) (nL := 6) (by decide +kernel) (by decide +kernel) kX10_tellWalker_ok (by decide +kernel) (Nat.le_of_ble_eq_true rfl) 40 ?_
  conv => whnf
  refine ⟨(by first | assumption | rfl), ?_⟩
  try simp (disch := omega) only [Int.cast_ofNat_Int, up_s, up_a, up_i, mp_a, mp_ge]
  try simp only [t3]
  try simp only [t4]
  try simp only [m7]
  try simp only [m8]
  try simp only [m9]
  try simp only [m10]
  try simp only [m11]
  try simp only [w0]
  try simp only [w1]
  try simp only [w4]
  try simp only [w6]
  try simp only [zc]
  conv => whnf
  refine ⟨(by first | assumption | rfl), ?_⟩
  try simp (disch := omega) only [Int.cast_ofNat_Int, up_s, up_a, up_i, mp_a, mp_ge]
  try simp only [t3]
  try simp only [t4]
  try simp only [m7]
  try simp only [m8]
  try simp only [m9]
  try simp only [m10]
  try simp only [m11]
  try simp only [w0]
  try simp only [w1]
  try simp only [w4]
  try simp only [w6]
  try simp only [zc]
  conv => whnf
  refine ⟨fun g => ?_, fun g => ?_⟩
  · simp only [sx_cc, Classical.not_not] at g
    conv => whnf
    refine ⟨(by first | assumption | rfl), by omega, ?_⟩
    try simp (disch := omega) only [Int.cast_ofNat_Int, up_s, up_a, up_i, mp_a, mp_ge]
    try simp only [t3]
    try simp only [t4]
    try simp only [m7]
    try simp only [m8]
    try simp only [m9]
    try simp only [m10]
    try simp only [m11]
    try simp only [w0]
    try simp only [w1]
    try simp only [w4]
    try simp only [w6]
    try simp only [zc]
    conv => whnf
    refine ⟨Nat.le_of_ble_eq_true rfl, Nat.le_of_ble_eq_true rfl, (by first | assumption | rfl), ?_⟩
    refine c_Tname hw (cQ_up hq (by unfold FPd; omega)) (fun σ3 hf3 hq3 => ?_)
    clear t3 t4 t5 m7 m8 m9 m10 m11
    have t3 := pt_32_3 hq3.pt
    have t4 := hq3.ep
    have t5 := pt_32_5 hq3.pt
    have m7 := ptP_7 hq3.pt hq3.1
    have m8 := ptP_8 hq3.pt hq3.1
    have m9 := ptP_9 hq3.pt hq3.1
    have m10 := ptP_10 hq3.pt hq3.1
    have m11 := ptP_11 hq3.pt hq3.1
    have w0 : σ3 p 0 = σ p 0 := ((hf3 p 0 (nx_lt pl)).trans (up_a pn32))
    have w1 : σ3 p 1 = σ p 1 := ((hf3 p 1 (nx_lt pl)).trans (up_a pn32))
    have w4 : σ3 p 4 = σ p 4 := ((hf3 p 4 (nx_lt pl)).trans (up_a pn32))
    have w6 : σ3 p 6 = σ p 6 := ((hf3 p 6 (nx_lt pl)).trans (up_a pn32))
    have r3 : σ3 (p + 3) = σ (p + 3) := funext (fun j => ((hf3 (p + 3) j (nx_lt pl3)).trans (up_a (by omega))))
    have r4 : σ3 (p + 4) = σ (p + 4) := funext (fun j => ((hf3 (p + 4) j (nx_lt pl4)).trans (up_a (by omega))))
    conv => whnf
    refine ⟨(by first | assumption | rfl), ?_⟩
    try simp (disch := omega) only [Int.cast_ofNat_Int, up_s, up_a, up_i, mp_a, mp_ge]
    try simp only [t3]
    try simp only [t4]
    try simp only [m7]
    try simp only [m8]
    try simp only [m9]
    try simp only [m10]
    try simp only [m11]
    try simp only [w0]
    try simp only [w1]
    try simp only [w4]
    try simp only [w6]
    try simp only [zc]
    conv => whnf
    refine ⟨Nat.le_of_ble_eq_true rfl, Nat.le_of_ble_eq_true rfl, (by first | assumption | rfl), ?_⟩
    refine c_Pwalkerby hq3.pt hq3.1 (by rw [w6]; omega) ?_
    rw [r4, w6]
    conv => whnf
    refine ⟨fun g => ?_, fun g => ?_⟩
    · simp only [sx_cc, Classical.not_not] at g
      have f9 := fBq_0 (k := 3) (s := kS tx n9 (kE tx n9 i)) (b := ¬ fFind (σ (p + 4)) (aV tx n9 (kE tx n9 i)) (σ p 6).toNat = -1) (by omega)
      obtain ⟨σ4, e9, hf4, hq4⟩ : ∃ s9, σ3 = s9 ∧ fr FFl σ3 s9 ∧ cQ p s9 tx n9 (kE tx n9 i) (Option.or (Option.or none (aF tx n9 (kE tx n9 i))) (fBq (¬ fFind (σ (p + 4)) (aV tx n9 (kE tx n9 i)) (σ p 6).toNat = -1) 3 (kS tx n9 (kE tx n9 i)))) := ⟨σ3, rfl, fun _ _ _ => rfl, by rw [f9, Option.or_none]; exact hq3⟩
      rw [e9]
      clear t3 t4 t5 m7 m8 m9 m10 m11
      have t3 := pt_32_3 hq4.pt
      have t4 := hq4.ep
      have t5 := pt_32_5 hq4.pt
      have m7 := ptP_7 hq4.pt hq4.1
      have m8 := ptP_8 hq4.pt hq4.1
      have m9 := ptP_9 hq4.pt hq4.1
      have m10 := ptP_10 hq4.pt hq4.1
      have m11 := ptP_11 hq4.pt hq4.1
      have w0 : σ4 p 0 = σ p 0 := ((hf4 p 0 (ff_lt pl))).trans w0
      have w1 : σ4 p 1 = σ p 1 := ((hf4 p 1 (ff_lt pl))).trans w1
      have w4 : σ4 p 4 = σ p 4 := ((hf4 p 4 (ff_lt pl))).trans w4
      have w6 : σ4 p 6 = σ p 6 := ((hf4 p 6 (ff_lt pl))).trans w6
      have r3 : σ4 (p + 3) = σ (p + 3) := funext (fun j => ((hf4 (p + 3) j (ff_lt pl3))).trans (congrFun r3 j))
      have r4 : σ4 (p + 4) = σ (p + 4) := funext (fun j => ((hf4 (p + 4) j (ff_lt pl4))).trans (congrFun r4 j))
      conv => whnf
      refine ⟨(by first | assumption | rfl), ?_⟩
      try simp (disch := omega) only [Int.cast_ofNat_Int, up_s, up_a, up_i, mp_a, mp_ge]
      try simp only [t3]
      try simp only [t4]
      try simp only [m7]
      try simp only [m8]
      try simp only [m9]
      try simp only [m10]
      try simp only [m11]
      try simp only [w0]
      try simp only [w1]
      try simp only [w4]
      try simp only [w6]
      try simp only [zc]
      conv => whnf
      refine ⟨Nat.le_of_ble_eq_true rfl, Nat.le_of_ble_eq_true rfl, (by first | assumption | rfl), ?_⟩
      refine c_Tname hw hq4 (fun σ5 hf5 hq5 => ?_)
      clear t3 t4 t5 m7 m8 m9 m10 m11
      have t3 := pt_32_3 hq5.pt
      have t4 := hq5.ep
      have t5 := pt_32_5 hq5.pt
      have m7 := ptP_7 hq5.pt hq5.1
      have m8 := ptP_8 hq5.pt hq5.1
      have m9 := ptP_9 hq5.pt hq5.1
      have m10 := ptP_10 hq5.pt hq5.1
      have m11 := ptP_11 hq5.pt hq5.1
      have w0 : σ5 p 0 = σ p 0 := ((hf5 p 0 (nx_lt pl))).trans w0
      have w1 : σ5 p 1 = σ p 1 := ((hf5 p 1 (nx_lt pl))).trans w1
      have w4 : σ5 p 4 = σ p 4 := ((hf5 p 4 (nx_lt pl))).trans w4
      have w6 : σ5 p 6 = σ p 6 := ((hf5 p 6 (nx_lt pl))).trans w6
      have r3 : σ5 (p + 3) = σ (p + 3) := funext (fun j => ((hf5 (p + 3) j (nx_lt pl3))).trans (congrFun r3 j))
      have r4 : σ5 (p + 4) = σ (p + 4) := funext (fun j => ((hf5 (p + 4) j (nx_lt pl4))).trans (congrFun r4 j))
      conv => whnf
      refine ⟨Nat.le_of_ble_eq_true rfl, Nat.le_of_ble_eq_true rfl, (by first | assumption | rfl), ?_⟩
      refine c_Pfarmby hq5.pt hq5.1 (by rw [w4]; omega) ?_
      rw [r3, w4]
      conv => whnf
      refine ⟨fun g => ?_, fun g => ?_⟩
      · simp only [sx_cc, Classical.not_not] at g
        have f9 := fBq_0 (k := 4) (s := kS tx n9 (kE tx n9 (kE tx n9 i))) (b := fFind (σ (p + 3)) (aV tx n9 (kE tx n9 (kE tx n9 i))) (σ p 4).toNat = -1) (by omega)
        obtain ⟨σ6, e9, hf6, hq6⟩ : ∃ s9, σ5 = s9 ∧ fr FFl σ5 s9 ∧ cQ p s9 tx n9 (kE tx n9 (kE tx n9 i)) (Option.or (Option.or (Option.or (Option.or none (aF tx n9 (kE tx n9 i))) (fBq (¬ fFind (σ (p + 4)) (aV tx n9 (kE tx n9 i)) (σ p 6).toNat = -1) 3 (kS tx n9 (kE tx n9 i)))) (aF tx n9 (kE tx n9 (kE tx n9 i)))) (fBq (fFind (σ (p + 3)) (aV tx n9 (kE tx n9 (kE tx n9 i))) (σ p 4).toNat = -1) 4 (kS tx n9 (kE tx n9 (kE tx n9 i))))) := ⟨σ5, rfl, fun _ _ _ => rfl, by rw [f9, Option.or_none]; exact hq5⟩
        rw [e9]
        clear t3 t4 t5 m7 m8 m9 m10 m11
        have t3 := pt_32_3 hq6.pt
        have t4 := hq6.ep
        have t5 := pt_32_5 hq6.pt
        have m7 := ptP_7 hq6.pt hq6.1
        have m8 := ptP_8 hq6.pt hq6.1
        have m9 := ptP_9 hq6.pt hq6.1
        have m10 := ptP_10 hq6.pt hq6.1
        have m11 := ptP_11 hq6.pt hq6.1
        have w0 : σ6 p 0 = σ p 0 := ((hf6 p 0 (ff_lt pl))).trans w0
        have w1 : σ6 p 1 = σ p 1 := ((hf6 p 1 (ff_lt pl))).trans w1
        have w4 : σ6 p 4 = σ p 4 := ((hf6 p 4 (ff_lt pl))).trans w4
        have w6 : σ6 p 6 = σ p 6 := ((hf6 p 6 (ff_lt pl))).trans w6
        have r3 : σ6 (p + 3) = σ (p + 3) := funext (fun j => ((hf6 (p + 3) j (ff_lt pl3))).trans (congrFun r3 j))
        have r4 : σ6 (p + 4) = σ (p + 4) := funext (fun j => ((hf6 (p + 4) j (ff_lt pl4))).trans (congrFun r4 j))
        conv => whnf
        refine ⟨(by first | assumption | rfl), ?_⟩
        try simp (disch := omega) only [Int.cast_ofNat_Int, up_s, up_a, up_i, mp_a, mp_ge]
        try simp only [t3]
        try simp only [t4]
        try simp only [m7]
        try simp only [m8]
        try simp only [m9]
        try simp only [m10]
        try simp only [m11]
        try simp only [w0]
        try simp only [w1]
        try simp only [w4]
        try simp only [w6]
        try simp only [zc]
        conv => whnf
        refine ⟨(by first | assumption | rfl), ?_⟩
        try simp (disch := omega) only [Int.cast_ofNat_Int, up_s, up_a, up_i, mp_a, mp_ge]
        try simp only [t3]
        try simp only [t4]
        try simp only [m7]
        try simp only [m8]
        try simp only [m9]
        try simp only [m10]
        try simp only [m11]
        try simp only [w0]
        try simp only [w1]
        try simp only [w4]
        try simp only [w6]
        try simp only [zc]
        conv => whnf
        refine ⟨sx_ixI (by first | assumption | rfl) (by omega) (by omega), ?_⟩
        conv => whnf
        refine ⟨(by first | assumption | rfl), ?_⟩
        try simp (disch := omega) only [Int.cast_ofNat_Int, up_s, up_a, up_i, mp_a, mp_ge]
        try simp only [t3]
        try simp only [t4]
        try simp only [m7]
        try simp only [m8]
        try simp only [m9]
        try simp only [m10]
        try simp only [m11]
        try simp only [w0]
        try simp only [w1]
        try simp only [w4]
        try simp only [w6]
        try simp only [zc]
        conv => whnf
        refine ⟨(by first | assumption | rfl), ?_⟩
        try simp (disch := omega) only [Int.cast_ofNat_Int, up_s, up_a, up_i, mp_a, mp_ge]
        try simp only [t3]
        try simp only [t4]
        try simp only [m7]
        try simp only [m8]
        try simp only [m9]
        try simp only [m10]
        try simp only [m11]
        try simp only [w0]
        try simp only [w1]
        try simp only [w4]
        try simp only [w6]
        try simp only [zc]
        conv => whnf
        refine ⟨sx_ixI (by first | assumption | rfl) (by omega) (by omega), ?_⟩
        conv => whnf
        refine ⟨(by first | assumption | rfl), ?_⟩
        try simp (disch := omega) only [Int.cast_ofNat_Int, up_s, up_a, up_i, mp_a, mp_ge]
        try simp only [t3]
        try simp only [t4]
        try simp only [m7]
        try simp only [m8]
        try simp only [m9]
        try simp only [m10]
        try simp only [m11]
        try simp only [w0]
        try simp only [w1]
        try simp only [w4]
        try simp only [w6]
        try simp only [zc]
        conv => whnf
        refine ⟨(by first | assumption | rfl), ?_⟩
        try simp (disch := omega) only [Int.cast_ofNat_Int, up_s, up_a, up_i, mp_a, mp_ge]
        try simp only [t3]
        try simp only [t4]
        try simp only [m7]
        try simp only [m8]
        try simp only [m9]
        try simp only [m10]
        try simp only [m11]
        try simp only [w0]
        try simp only [w1]
        try simp only [w4]
        try simp only [w6]
        try simp only [zc]
        conv => whnf
        refine ⟨Nat.le_of_ble_eq_true rfl, Nat.le_of_ble_eq_true rfl, (by first | assumption | rfl), ?_⟩
        refine c_Tnxt hw (cQ_up (cQ_up hq6 (by unfold FPd; omega)) (by unfold FPd; omega)) (by omega) (fun σ7 hf7 hq7 => ?_)
        clear t3 t4 t5 m7 m8 m9 m10 m11
        have t3 := pt_32_3 hq7.pt
        have t4 := hq7.ep
        have t5 := pt_32_5 hq7.pt
        have m7 := ptP_7 hq7.pt hq7.1
        have m8 := ptP_8 hq7.pt hq7.1
        have m9 := ptP_9 hq7.pt hq7.1
        have m10 := ptP_10 hq7.pt hq7.1
        have m11 := ptP_11 hq7.pt hq7.1
        have w0 : σ7 p 0 = σ p 0 := ((((hf7 p 0 (nx_lt pl)).trans (up_a pn5)).trans (up_a pn4))).trans w0
        have w1 : σ7 p 1 = σ p 1 := ((((hf7 p 1 (nx_lt pl)).trans (up_a pn5)).trans (up_a pn4))).trans w1
        have w4 : σ7 p 4 = σ p 4 := ((((hf7 p 4 (nx_lt pl)).trans (up_a pn5)).trans (up_a pn4))).trans w4
        have w6 : σ7 p 6 = σ p 6 := ((((hf7 p 6 (nx_lt pl)).trans (up_a pn5)).trans (up_a pn4))).trans w6
        conv => whnf
        refine ⟨sx_ixI (by first | assumption | rfl) (by omega) (by omega), ?_⟩
        conv => whnf
        refine ⟨(by first | assumption | rfl), ?_⟩
        try simp (disch := omega) only [Int.cast_ofNat_Int, up_s, up_a, up_i, mp_a, mp_ge]
        try simp only [t3]
        try simp only [t4]
        try simp only [m7]
        try simp only [m8]
        try simp only [m9]
        try simp only [m10]
        try simp only [m11]
        try simp only [w0]
        try simp only [w1]
        try simp only [w4]
        try simp only [w6]
        try simp only [zc]
        conv => whnf
        refine ⟨(by first | assumption | rfl), ?_⟩
        try simp (disch := omega) only [Int.cast_ofNat_Int, up_s, up_a, up_i, mp_a, mp_ge]
        try simp only [t3]
        try simp only [t4]
        try simp only [m7]
        try simp only [m8]
        try simp only [m9]
        try simp only [m10]
        try simp only [m11]
        try simp only [w0]
        try simp only [w1]
        try simp only [w4]
        try simp only [w6]
        try simp only [zc]
        conv => whnf
        refine ⟨Nat.le_of_ble_eq_true rfl, Nat.le_of_ble_eq_true rfl, (by first | assumption | rfl), ?_⟩
        refine c_Tnxt hw (cQ_up hq7 (by unfold FPd; omega)) (by omega) (fun σ8 hf8 hq8 => ?_)
        clear t3 t4 t5 m7 m8 m9 m10 m11
        have t3 := pt_32_3 hq8.pt
        have t4 := hq8.ep
        have t5 := pt_32_5 hq8.pt
        have m7 := ptP_7 hq8.pt hq8.1
        have m8 := ptP_8 hq8.pt hq8.1
        have m9 := ptP_9 hq8.pt hq8.1
        have m10 := ptP_10 hq8.pt hq8.1
        have m11 := ptP_11 hq8.pt hq8.1
        have w0 : σ8 p 0 = σ p 0 := (((hf8 p 0 (nx_lt pl)).trans (up_a pn6))).trans w0
        have w1 : σ8 p 1 = σ p 1 := (((hf8 p 1 (nx_lt pl)).trans (up_a pn6))).trans w1
        have w4 : σ8 p 4 = σ p 4 := (((hf8 p 4 (nx_lt pl)).trans (up_a pn6))).trans w4
        have w6 : σ8 p 6 = σ p 6 := (((hf8 p 6 (nx_lt pl)).trans (up_a pn6))).trans w6
        conv => whnf
        refine ⟨sx_ixI (by first | assumption | rfl) (by omega) (by omega), ?_⟩
        conv => whnf
        refine ⟨(by first | assumption | rfl), ?_⟩
        try simp (disch := omega) only [Int.cast_ofNat_Int, up_s, up_a, up_i, mp_a, mp_ge]
        try simp only [t3]
        try simp only [t4]
        try simp only [m7]
        try simp only [m8]
        try simp only [m9]
        try simp only [m10]
        try simp only [m11]
        try simp only [w0]
        try simp only [w1]
        try simp only [w4]
        try simp only [w6]
        try simp only [zc]
        conv => whnf
        refine ⟨(by first | assumption | rfl), ?_⟩
        try simp (disch := omega) only [Int.cast_ofNat_Int, up_s, up_a, up_i, mp_a, mp_ge]
        try simp only [t3]
        try simp only [t4]
        try simp only [m7]
        try simp only [m8]
        try simp only [m9]
        try simp only [m10]
        try simp only [m11]
        try simp only [w0]
        try simp only [w1]
        try simp only [w4]
        try simp only [w6]
        try simp only [zc]
        conv => whnf
        refine ⟨⟨by omega, by omega⟩, ?_⟩
        conv => whnf
        refine ⟨Nat.le_of_ble_eq_true rfl, Nat.le_of_ble_eq_true rfl, (by first | assumption | rfl), ?_⟩
        refine c_Tnxt hw (cQ_up hq8 (by unfold FPd; omega)) (by omega) (fun σ9 hf9 hq9 => ?_)
        clear t3 t4 t5 m7 m8 m9 m10 m11
        have t3 := pt_32_3 hq9.pt
        have t4 := hq9.ep
        have t5 := pt_32_5 hq9.pt
        have m7 := ptP_7 hq9.pt hq9.1
        have m8 := ptP_8 hq9.pt hq9.1
        have m9 := ptP_9 hq9.pt hq9.1
        have m10 := ptP_10 hq9.pt hq9.1
        have m11 := ptP_11 hq9.pt hq9.1
        have w0 : σ9 p 0 = σ p 0 := (((hf9 p 0 (nx_lt pl)).trans (up_a pn7))).trans w0
        have w1 : σ9 p 1 = σ p 1 := (((hf9 p 1 (nx_lt pl)).trans (up_a pn7))).trans w1
        have w4 : σ9 p 4 = σ p 4 := (((hf9 p 4 (nx_lt pl)).trans (up_a pn7))).trans w4
        have w6 : σ9 p 6 = σ p 6 := (((hf9 p 6 (nx_lt pl)).trans (up_a pn7))).trans w6
        conv => whnf
        refine ⟨(by first | assumption | rfl), ?_⟩
        try simp (disch := omega) only [Int.cast_ofNat_Int, up_s, up_a, up_i, mp_a, mp_ge]
        try simp only [t3]
        try simp only [t4]
        try simp only [m7]
        try simp only [m8]
        try simp only [m9]
        try simp only [m10]
        try simp only [m11]
        try simp only [w0]
        try simp only [w1]
        try simp only [w4]
        try simp only [w6]
        try simp only [zc]
        conv => whnf
        refine ⟨(by first | assumption | rfl), ?_⟩
        try simp (disch := omega) only [Int.cast_ofNat_Int, up_s, up_a, up_i, mp_a, mp_ge]
        try simp only [t3]
        try simp only [t4]
        try simp only [m7]
        try simp only [m8]
        try simp only [m9]
        try simp only [m10]
        try simp only [m11]
        try simp only [w0]
        try simp only [w1]
        try simp only [w4]
        try simp only [w6]
        try simp only [zc]
        conv => whnf
        refine ⟨⟨by omega, by omega⟩, ?_⟩
        conv => whnf
        refine ⟨Nat.le_of_ble_eq_true rfl, Nat.le_of_ble_eq_true rfl, (by first | assumption | rfl), ?_⟩
        refine c_Tnxt hw hq9 (by omega) (fun σ10 hf10 hq10 => ?_)
        clear t3 t4 t5 m7 m8 m9 m10 m11
        have t3 := pt_32_3 hq10.pt
        have t4 := hq10.ep
        have t5 := pt_32_5 hq10.pt
        have m7 := ptP_7 hq10.pt hq10.1
        have m8 := ptP_8 hq10.pt hq10.1
        have m9 := ptP_9 hq10.pt hq10.1
        have m10 := ptP_10 hq10.pt hq10.1
        have m11 := ptP_11 hq10.pt hq10.1
        have w0 : σ10 p 0 = σ p 0 := ((hf10 p 0 (nx_lt pl))).trans w0
        have w1 : σ10 p 1 = σ p 1 := ((hf10 p 1 (nx_lt pl))).trans w1
        have w4 : σ10 p 4 = σ p 4 := ((hf10 p 4 (nx_lt pl))).trans w4
        have w6 : σ10 p 6 = σ p 6 := ((hf10 p 6 (nx_lt pl))).trans w6
        have zb := zCell_bd (tx := tx) (n9 := n9) (i := (kE tx n9 (kE tx n9 (kE tx n9 (kE tx n9 (kE tx n9 i)))))) wz
        have zc : nV tx n9 0 (σ p 1 - 1) (kE tx n9 (kE tx n9 (kE tx n9 (kE tx n9 (kE tx n9 (kE tx n9 i)))))) * σ p 0 + nV tx n9 0 (σ p 0 - 1) (kE tx n9 (kE tx n9 (kE tx n9 (kE tx n9 (kE tx n9 i))))) = zCell p σ tx n9 (kE tx n9 (kE tx n9 (kE tx n9 (kE tx n9 (kE tx n9 i))))) := rfl
        conv => whnf
        refine ⟨(by first | assumption | rfl), ?_⟩
        try simp (disch := omega) only [Int.cast_ofNat_Int, up_s, up_a, up_i, mp_a, mp_ge]
        try simp only [t3]
        try simp only [t4]
        try simp only [m7]
        try simp only [m8]
        try simp only [m9]
        try simp only [m10]
        try simp only [m11]
        try simp only [w0]
        try simp only [w1]
        try simp only [w4]
        try simp only [w6]
        try simp only [zc]
        conv => whnf
        refine ⟨(by first | assumption | rfl), ?_⟩
        try simp (disch := omega) only [Int.cast_ofNat_Int, up_s, up_a, up_i, mp_a, mp_ge]
        try simp only [t3]
        try simp only [t4]
        try simp only [m7]
        try simp only [m8]
        try simp only [m9]
        try simp only [m10]
        try simp only [m11]
        try simp only [w0]
        try simp only [w1]
        try simp only [w4]
        try simp only [w6]
        try simp only [zc]
        conv => whnf
        refine ⟨(by first | assumption | rfl), ?_⟩
        try simp (disch := omega) only [Int.cast_ofNat_Int, up_s, up_a, up_i, mp_a, mp_ge]
        try simp only [t3]
        try simp only [t4]
        try simp only [m7]
        try simp only [m8]
        try simp only [m9]
        try simp only [m10]
        try simp only [m11]
        try simp only [w0]
        try simp only [w1]
        try simp only [w4]
        try simp only [w6]
        try simp only [zc]
        conv => whnf
        refine ⟨(by first | assumption | rfl), ?_⟩
        try simp (disch := omega) only [Int.cast_ofNat_Int, up_s, up_a, up_i, mp_a, mp_ge]
        try simp only [t3]
        try simp only [t4]
        try simp only [m7]
        try simp only [m8]
        try simp only [m9]
        try simp only [m10]
        try simp only [m11]
        try simp only [w0]
        try simp only [w1]
        try simp only [w4]
        try simp only [w6]
        try simp only [zc]
        conv => whnf
        refine ⟨⟨by omega, by omega⟩, ?_⟩
        conv => whnf
        refine ⟨⟨by omega, by omega⟩, ?_⟩
        conv => whnf
        refine ⟨sx_ixI (by first | assumption | rfl) (by omega) (by omega), ?_⟩
        conv => whnf
        refine ⟨(by first | assumption | rfl), ?_⟩
        try simp (disch := omega) only [Int.cast_ofNat_Int, up_s, up_a, up_i, mp_a, mp_ge]
        try simp only [t3]
        try simp only [t4]
        try simp only [m7]
        try simp only [m8]
        try simp only [m9]
        try simp only [m10]
        try simp only [m11]
        try simp only [w0]
        try simp only [w1]
        try simp only [w4]
        try simp only [w6]
        try simp only [zc]
        conv => whnf
        refine ⟨(by first | assumption | rfl), ?_⟩
        try simp (disch := omega) only [Int.cast_ofNat_Int, up_s, up_a, up_i, mp_a, mp_ge]
        try simp only [t3]
        try simp only [t4]
        try simp only [m7]
        try simp only [m8]
        try simp only [m9]
        try simp only [m10]
        try simp only [m11]
        try simp only [w0]
        try simp only [w1]
        try simp only [w4]
        try simp only [w6]
        try simp only [zc]
        conv => whnf
        refine ⟨⟨by omega, by omega⟩, ?_⟩
        conv => whnf
        refine ⟨(by first | assumption | rfl), ?_⟩
        try simp (disch := omega) only [Int.cast_ofNat_Int, up_s, up_a, up_i, mp_a, mp_ge]
        try simp only [t3]
        try simp only [t4]
        try simp only [m7]
        try simp only [m8]
        try simp only [m9]
        try simp only [m10]
        try simp only [m11]
        try simp only [w0]
        try simp only [w1]
        try simp only [w4]
        try simp only [w6]
        try simp only [zc]
        conv => whnf
        refine ⟨(by first | assumption | rfl), ?_⟩
        try simp (disch := omega) only [Int.cast_ofNat_Int, up_s, up_a, up_i, mp_a, mp_ge]
        try simp only [t3]
        try simp only [t4]
        try simp only [m7]
        try simp only [m8]
        try simp only [m9]
        try simp only [m10]
        try simp only [m11]
        try simp only [w0]
        try simp only [w1]
        try simp only [w4]
        try simp only [w6]
        try simp only [zc]
        conv => whnf
        refine ⟨Nat.le_of_ble_eq_true rfl, Nat.le_of_ble_eq_true rfl, (by first | assumption | rfl), ?_⟩
        refine c_Tadv hw (cQ_up (cQ_up hq10 (by unfold FPd; omega)) (by unfold FPd; omega)) (fun σ11 hf11 hq11 => ?_)
        conv => whnf
        refine ⟨rfl, ?_⟩
        obtain ⟨c0, c1, c2, c3, c4, c5, c6, c7⟩ := c_Twalk_v hp hf3 hf4 hf5 hf6 hf7 hf8 hf9 hf10 hf11
        exact h (by omega) _ c0 (by unfold zWalk; simpa only [Option.none_or, Option.or_assoc] using hq11) c1 c2 c3 c4 c5 c6 c7
      · simp only [sx_cc, Classical.not_not] at g
        have f9 := fBq_1 (k := 4) (s := kS tx n9 (kE tx n9 (kE tx n9 i))) (b := fFind (σ (p + 3)) (aV tx n9 (kE tx n9 (kE tx n9 i))) (σ p 4).toNat = -1) (by omega)
        conv => whnf
        refine ⟨Nat.le_of_ble_eq_true rfl, Nat.le_of_ble_eq_true rfl, (by first | assumption | rfl), ?_⟩
        refine c_Tfail hq5 (by decide) (fun σ6 hf6 hq6 => ?_)
        rw [← f9] at hq6
        clear t3 t4 t5 m7 m8 m9 m10 m11
        have t3 := pt_32_3 hq6.pt
        have t4 := hq6.ep
        have t5 := pt_32_5 hq6.pt
        have m7 := ptP_7 hq6.pt hq6.1
        have m8 := ptP_8 hq6.pt hq6.1
        have m9 := ptP_9 hq6.pt hq6.1
        have m10 := ptP_10 hq6.pt hq6.1
        have m11 := ptP_11 hq6.pt hq6.1
        have w0 : σ6 p 0 = σ p 0 := ((hf6 p 0 (ff_lt pl))).trans w0
        have w1 : σ6 p 1 = σ p 1 := ((hf6 p 1 (ff_lt pl))).trans w1
        have w4 : σ6 p 4 = σ p 4 := ((hf6 p 4 (ff_lt pl))).trans w4
        have w6 : σ6 p 6 = σ p 6 := ((hf6 p 6 (ff_lt pl))).trans w6
        have r3 : σ6 (p + 3) = σ (p + 3) := funext (fun j => ((hf6 (p + 3) j (ff_lt pl3))).trans (congrFun r3 j))
        have r4 : σ6 (p + 4) = σ (p + 4) := funext (fun j => ((hf6 (p + 4) j (ff_lt pl4))).trans (congrFun r4 j))
        conv => whnf
        refine ⟨(by first | assumption | rfl), ?_⟩
        try simp (disch := omega) only [Int.cast_ofNat_Int, up_s, up_a, up_i, mp_a, mp_ge]
        try simp only [t3]
        try simp only [t4]
        try simp only [m7]
        try simp only [m8]
        try simp only [m9]
        try simp only [m10]
        try simp only [m11]
        try simp only [w0]
        try simp only [w1]
        try simp only [w4]
        try simp only [w6]
        try simp only [zc]
        conv => whnf
        refine ⟨(by first | assumption | rfl), ?_⟩
        try simp (disch := omega) only [Int.cast_ofNat_Int, up_s, up_a, up_i, mp_a, mp_ge]
        try simp only [t3]
        try simp only [t4]
        try simp only [m7]
        try simp only [m8]
        try simp only [m9]
        try simp only [m10]
        try simp only [m11]
        try simp only [w0]
        try simp only [w1]
        try simp only [w4]
        try simp only [w6]
        try simp only [zc]
        conv => whnf
        refine ⟨sx_ixI (by first | assumption | rfl) (by omega) (by omega), ?_⟩
        conv => whnf
        refine ⟨(by first | assumption | rfl), ?_⟩
        try simp (disch := omega) only [Int.cast_ofNat_Int, up_s, up_a, up_i, mp_a, mp_ge]
        try simp only [t3]
        try simp only [t4]
        try simp only [m7]
        try simp only [m8]
        try simp only [m9]
        try simp only [m10]
        try simp only [m11]
        try simp only [w0]
        try simp only [w1]
        try simp only [w4]
        try simp only [w6]
        try simp only [zc]
        conv => whnf
        refine ⟨(by first | assumption | rfl), ?_⟩
        try simp (disch := omega) only [Int.cast_ofNat_Int, up_s, up_a, up_i, mp_a, mp_ge]
        try simp only [t3]
        try simp only [t4]
        try simp only [m7]
        try simp only [m8]
        try simp only [m9]
        try simp only [m10]
        try simp only [m11]
        try simp only [w0]
        try simp only [w1]
        try simp only [w4]
        try simp only [w6]
        try simp only [zc]
        conv => whnf
        refine ⟨sx_ixI (by first | assumption | rfl) (by omega) (by omega), ?_⟩
        conv => whnf
        refine ⟨(by first | assumption | rfl), ?_⟩
        try simp (disch := omega) only [Int.cast_ofNat_Int, up_s, up_a, up_i, mp_a, mp_ge]
        try simp only [t3]
        try simp only [t4]
        try simp only [m7]
        try simp only [m8]
        try simp only [m9]
        try simp only [m10]
        try simp only [m11]
        try simp only [w0]
        try simp only [w1]
        try simp only [w4]
        try simp only [w6]
        try simp only [zc]
        conv => whnf
        refine ⟨(by first | assumption | rfl), ?_⟩
        try simp (disch := omega) only [Int.cast_ofNat_Int, up_s, up_a, up_i, mp_a, mp_ge]
        try simp only [t3]
        try simp only [t4]
        try simp only [m7]
        try simp only [m8]
        try simp only [m9]
        try simp only [m10]
        try simp only [m11]
        try simp only [w0]
        try simp only [w1]
        try simp only [w4]
        try simp only [w6]
        try simp only [zc]
        conv => whnf
        refine ⟨Nat.le_of_ble_eq_true rfl, Nat.le_of_ble_eq_true rfl, (by first | assumption | rfl), ?_⟩
        refine c_Tnxt hw (cQ_up (cQ_up hq6 (by unfold FPd; omega)) (by unfold FPd; omega)) (by omega) (fun σ7 hf7 hq7 => ?_)
        clear t3 t4 t5 m7 m8 m9 m10 m11
        have t3 := pt_32_3 hq7.pt
        have t4 := hq7.ep
        have t5 := pt_32_5 hq7.pt
        have m7 := ptP_7 hq7.pt hq7.1
        have m8 := ptP_8 hq7.pt hq7.1
        have m9 := ptP_9 hq7.pt hq7.1
        have m10 := ptP_10 hq7.pt hq7.1
        have m11 := ptP_11 hq7.pt hq7.1
        have w0 : σ7 p 0 = σ p 0 := ((((hf7 p 0 (nx_lt pl)).trans (up_a pn5)).trans (up_a pn4))).trans w0
        have w1 : σ7 p 1 = σ p 1 := ((((hf7 p 1 (nx_lt pl)).trans (up_a pn5)).trans (up_a pn4))).trans w1
        have w4 : σ7 p 4 = σ p 4 := ((((hf7 p 4 (nx_lt pl)).trans (up_a pn5)).trans (up_a pn4))).trans w4
        have w6 : σ7 p 6 = σ p 6 := ((((hf7 p 6 (nx_lt pl)).trans (up_a pn5)).trans (up_a pn4))).trans w6
        conv => whnf
        refine ⟨sx_ixI (by first | assumption | rfl) (by omega) (by omega), ?_⟩
        conv => whnf
        refine ⟨(by first | assumption | rfl), ?_⟩
        try simp (disch := omega) only [Int.cast_ofNat_Int, up_s, up_a, up_i, mp_a, mp_ge]
        try simp only [t3]
        try simp only [t4]
        try simp only [m7]
        try simp only [m8]
        try simp only [m9]
        try simp only [m10]
        try simp only [m11]
        try simp only [w0]
        try simp only [w1]
        try simp only [w4]
        try simp only [w6]
        try simp only [zc]
        conv => whnf
        refine ⟨(by first | assumption | rfl), ?_⟩
        try simp (disch := omega) only [Int.cast_ofNat_Int, up_s, up_a, up_i, mp_a, mp_ge]
        try simp only [t3]
        try simp only [t4]
        try simp only [m7]
        try simp only [m8]
        try simp only [m9]
        try simp only [m10]
        try simp only [m11]
        try simp only [w0]
        try simp only [w1]
        try simp only [w4]
        try simp only [w6]
        try simp only [zc]
        conv => whnf
        refine ⟨Nat.le_of_ble_eq_true rfl, Nat.le_of_ble_eq_true rfl, (by first | assumption | rfl), ?_⟩
        refine c_Tnxt hw (cQ_up hq7 (by unfold FPd; omega)) (by omega) (fun σ8 hf8 hq8 => ?_)
        clear t3 t4 t5 m7 m8 m9 m10 m11
        have t3 := pt_32_3 hq8.pt
        have t4 := hq8.ep
        have t5 := pt_32_5 hq8.pt
        have m7 := ptP_7 hq8.pt hq8.1
        have m8 := ptP_8 hq8.pt hq8.1
        have m9 := ptP_9 hq8.pt hq8.1
        have m10 := ptP_10 hq8.pt hq8.1
        have m11 := ptP_11 hq8.pt hq8.1
        have w0 : σ8 p 0 = σ p 0 := (((hf8 p 0 (nx_lt pl)).trans (up_a pn6))).trans w0
        have w1 : σ8 p 1 = σ p 1 := (((hf8 p 1 (nx_lt pl)).trans (up_a pn6))).trans w1
        have w4 : σ8 p 4 = σ p 4 := (((hf8 p 4 (nx_lt pl)).trans (up_a pn6))).trans w4
        have w6 : σ8 p 6 = σ p 6 := (((hf8 p 6 (nx_lt pl)).trans (up_a pn6))).trans w6
        conv => whnf
        refine ⟨sx_ixI (by first | assumption | rfl) (by omega) (by omega), ?_⟩
        conv => whnf
        refine ⟨(by first | assumption | rfl), ?_⟩
        try simp (disch := omega) only [Int.cast_ofNat_Int, up_s, up_a, up_i, mp_a, mp_ge]
        try simp only [t3]
        try simp only [t4]
        try simp only [m7]
        try simp only [m8]
        try simp only [m9]
        try simp only [m10]
        try simp only [m11]
        try simp only [w0]
        try simp only [w1]
        try simp only [w4]
        try simp only [w6]
        try simp only [zc]
        conv => whnf
        refine ⟨(by first | assumption | rfl), ?_⟩
        try simp (disch := omega) only [Int.cast_ofNat_Int, up_s, up_a, up_i, mp_a, mp_ge]
        try simp only [t3]
        try simp only [t4]
        try simp only [m7]
        try simp only [m8]
        try simp only [m9]
        try simp only [m10]
        try simp only [m11]
        try simp only [w0]
        try simp only [w1]
        try simp only [w4]
        try simp only [w6]
        try simp only [zc]
        conv => whnf
        refine ⟨⟨by omega, by omega⟩, ?_⟩
        conv => whnf
        refine ⟨Nat.le_of_ble_eq_true rfl, Nat.le_of_ble_eq_true rfl, (by first | assumption | rfl), ?_⟩
        refine c_Tnxt hw (cQ_up hq8 (by unfold FPd; omega)) (by omega) (fun σ9 hf9 hq9 => ?_)
        clear t3 t4 t5 m7 m8 m9 m10 m11
        have t3 := pt_32_3 hq9.pt
        have t4 := hq9.ep
        have t5 := pt_32_5 hq9.pt
        have m7 := ptP_7 hq9.pt hq9.1
        have m8 := ptP_8 hq9.pt hq9.1
        have m9 := ptP_9 hq9.pt hq9.1
        have m10 := ptP_10 hq9.pt hq9.1
        have m11 := ptP_11 hq9.pt hq9.1
        have w0 : σ9 p 0 = σ p 0 := (((hf9 p 0 (nx_lt pl)).trans (up_a pn7))).trans w0
        have w1 : σ9 p 1 = σ p 1 := (((hf9 p 1 (nx_lt pl)).trans (up_a pn7))).trans w1
        have w4 : σ9 p 4 = σ p 4 := (((hf9 p 4 (nx_lt pl)).trans (up_a pn7))).trans w4
        have w6 : σ9 p 6 = σ p 6 := (((hf9 p 6 (nx_lt pl)).trans (up_a pn7))).trans w6
        conv => whnf
        refine ⟨(by first | assumption | rfl), ?_⟩
        try simp (disch := omega) only [Int.cast_ofNat_Int, up_s, up_a, up_i, mp_a, mp_ge]
        try simp only [t3]
        try simp only [t4]
        try simp only [m7]
        try simp only [m8]
        try simp only [m9]
        try simp only [m10]
        try simp only [m11]
        try simp only [w0]
        try simp only [w1]
        try simp only [w4]
        try simp only [w6]
        try simp only [zc]
        conv => whnf
        refine ⟨(by first | assumption | rfl), ?_⟩
        try simp (disch := omega) only [Int.cast_ofNat_Int, up_s, up_a, up_i, mp_a, mp_ge]
        try simp only [t3]
        try simp only [t4]
        try simp only [m7]
        try simp only [m8]
        try simp only [m9]
        try simp only [m10]
        try simp only [m11]
        try simp only [w0]
        try simp only [w1]
        try simp only [w4]
        try simp only [w6]
        try simp only [zc]
        conv => whnf
        refine ⟨⟨by omega, by omega⟩, ?_⟩
        conv => whnf
        refine ⟨Nat.le_of_ble_eq_true rfl, Nat.le_of_ble_eq_true rfl, (by first | assumption | rfl), ?_⟩
        refine c_Tnxt hw hq9 (by omega) (fun σ10 hf10 hq10 => ?_)
        clear t3 t4 t5 m7 m8 m9 m10 m11
        have t3 := pt_32_3 hq10.pt
        have t4 := hq10.ep
        have t5 := pt_32_5 hq10.pt
        have m7 := ptP_7 hq10.pt hq10.1
        have m8 := ptP_8 hq10.pt hq10.1
        have m9 := ptP_9 hq10.pt hq10.1
        have m10 := ptP_10 hq10.pt hq10.1
        have m11 := ptP_11 hq10.pt hq10.1
        have w0 : σ10 p 0 = σ p 0 := ((hf10 p 0 (nx_lt pl))).trans w0
        have w1 : σ10 p 1 = σ p 1 := ((hf10 p 1 (nx_lt pl))).trans w1
        have w4 : σ10 p 4 = σ p 4 := ((hf10 p 4 (nx_lt pl))).trans w4
        have w6 : σ10 p 6 = σ p 6 := ((hf10 p 6 (nx_lt pl))).trans w6
        have zb := zCell_bd (tx := tx) (n9 := n9) (i := (kE tx n9 (kE tx n9 (kE tx n9 (kE tx n9 (kE tx n9 i)))))) wz
        have zc : nV tx n9 0 (σ p 1 - 1) (kE tx n9 (kE tx n9 (kE tx n9 (kE tx n9 (kE tx n9 (kE tx n9 i)))))) * σ p 0 + nV tx n9 0 (σ p 0 - 1) (kE tx n9 (kE tx n9 (kE tx n9 (kE tx n9 (kE tx n9 i))))) = zCell p σ tx n9 (kE tx n9 (kE tx n9 (kE tx n9 (kE tx n9 (kE tx n9 i))))) := rfl
        conv => whnf
        refine ⟨(by first | assumption | rfl), ?_⟩
        try simp (disch := omega) only [Int.cast_ofNat_Int, up_s, up_a, up_i, mp_a, mp_ge]
        try simp only [t3]
        try simp only [t4]
        try simp only [m7]
        try simp only [m8]
        try simp only [m9]
        try simp only [m10]
        try simp only [m11]
        try simp only [w0]
        try simp only [w1]
        try simp only [w4]
        try simp only [w6]
        try simp only [zc]
        conv => whnf
        refine ⟨(by first | assumption | rfl), ?_⟩
        try simp (disch := omega) only [Int.cast_ofNat_Int, up_s, up_a, up_i, mp_a, mp_ge]
        try simp only [t3]
        try simp only [t4]
        try simp only [m7]
        try simp only [m8]
        try simp only [m9]
        try simp only [m10]
        try simp only [m11]
        try simp only [w0]
        try simp only [w1]
        try simp only [w4]
        try simp only [w6]
        try simp only [zc]
        conv => whnf
        refine ⟨(by first | assumption | rfl), ?_⟩
        try simp (disch := omega) only [Int.cast_ofNat_Int, up_s, up_a, up_i, mp_a, mp_ge]
        try simp only [t3]
        try simp only [t4]
        try simp only [m7]
        try simp only [m8]
        try simp only [m9]
        try simp only [m10]
        try simp only [m11]
        try simp only [w0]
        try simp only [w1]
        try simp only [w4]
        try simp only [w6]
        try simp only [zc]
        conv => whnf
        refine ⟨(by first | assumption | rfl), ?_⟩
        try simp (disch := omega) only [Int.cast_ofNat_Int, up_s, up_a, up_i, mp_a, mp_ge]
        try simp only [t3]
        try simp only [t4]
        try simp only [m7]
        try simp only [m8]
        try simp only [m9]
        try simp only [m10]
        try simp only [m11]
        try simp only [w0]
        try simp only [w1]
        try simp only [w4]
        try simp only [w6]
        try simp only [zc]
        conv => whnf
        refine ⟨⟨by omega, by omega⟩, ?_⟩
        conv => whnf
        refine ⟨⟨by omega, by omega⟩, ?_⟩
        conv => whnf
        refine ⟨sx_ixI (by first | assumption | rfl) (by omega) (by omega), ?_⟩
        conv => whnf
        refine ⟨(by first | assumption | rfl), ?_⟩
        try simp (disch := omega) only [Int.cast_ofNat_Int, up_s, up_a, up_i, mp_a, mp_ge]
        try simp only [t3]
        try simp only [t4]
        try simp only [m7]
        try simp only [m8]
        try simp only [m9]
        try simp only [m10]
        try simp only [m11]
        try simp only [w0]
        try simp only [w1]
        try simp only [w4]
        try simp only [w6]
        try simp only [zc]
        conv => whnf
        refine ⟨(by first | assumption | rfl), ?_⟩
        try simp (disch := omega) only [Int.cast_ofNat_Int, up_s, up_a, up_i, mp_a, mp_ge]
        try simp only [t3]
        try simp only [t4]
        try simp only [m7]
        try simp only [m8]
        try simp only [m9]
        try simp only [m10]
        try simp only [m11]
        try simp only [w0]
        try simp only [w1]
        try simp only [w4]
        try simp only [w6]
        try simp only [zc]
        conv => whnf
        refine ⟨⟨by omega, by omega⟩, ?_⟩
        conv => whnf
        refine ⟨(by first | assumption | rfl), ?_⟩
        try simp (disch := omega) only [Int.cast_ofNat_Int, up_s, up_a, up_i, mp_a, mp_ge]
        try simp only [t3]
        try simp only [t4]
        try simp only [m7]
        try simp only [m8]
        try simp only [m9]
        try simp only [m10]
        try simp only [m11]
        try simp only [w0]
        try simp only [w1]
        try simp only [w4]
        try simp only [w6]
        try simp only [zc]
        conv => whnf
        refine ⟨(by first | assumption | rfl), ?_⟩
        try simp (disch := omega) only [Int.cast_ofNat_Int, up_s, up_a, up_i, mp_a, mp_ge]
        try simp only [t3]
        try simp only [t4]
        try simp only [m7]
        try simp only [m8]
        try simp only [m9]
        try simp only [m10]
        try simp only [m11]
        try simp only [w0]
        try simp only [w1]
        try simp only [w4]
        try simp only [w6]
        try simp only [zc]
        conv => whnf
        refine ⟨Nat.le_of_ble_eq_true rfl, Nat.le_of_ble_eq_true rfl, (by first | assumption | rfl), ?_⟩
        refine c_Tadv hw (cQ_up (cQ_up hq10 (by unfold FPd; omega)) (by unfold FPd; omega)) (fun σ11 hf11 hq11 => ?_)
        conv => whnf
        refine ⟨rfl, ?_⟩
        obtain ⟨c0, c1, c2, c3, c4, c5, c6, c7⟩ := c_Twalk_v hp hf3 hf4 hf5 hf6 hf7 hf8 hf9 hf10 hf11
        exact h (by omega) _ c0 (by unfold zWalk; simpa only [Option.none_or, Option.or_assoc] using hq11) c1 c2 c3 c4 c5 c6 c7
    · simp only [sx_cc, Classical.not_not] at g
      have f9 := fBq_1 (k := 3) (s := kS tx n9 (kE tx n9 i)) (b := ¬ fFind (σ (p + 4)) (aV tx n9 (kE tx n9 i)) (σ p 6).toNat = -1) (by omega)
      conv => whnf
      refine ⟨Nat.le_of_ble_eq_true rfl, Nat.le_of_ble_eq_true rfl, (by first | assumption | rfl), ?_⟩
      refine c_Tfail hq3 (by decide) (fun σ4 hf4 hq4 => ?_)
      rw [← f9] at hq4
      clear t3 t4 t5 m7 m8 m9 m10 m11
      have t3 := pt_32_3 hq4.pt
      have t4 := hq4.ep
      have t5 := pt_32_5 hq4.pt
      have m7 := ptP_7 hq4.pt hq4.1
      have m8 := ptP_8 hq4.pt hq4.1
      have m9 := ptP_9 hq4.pt hq4.1
      have m10 := ptP_10 hq4.pt hq4.1
      have m11 := ptP_11 hq4.pt hq4.1
      have w0 : σ4 p 0 = σ p 0 := ((hf4 p 0 (ff_lt pl))).trans w0
      have w1 : σ4 p 1 = σ p 1 := ((hf4 p 1 (ff_lt pl))).trans w1
      have w4 : σ4 p 4 = σ p 4 := ((hf4 p 4 (ff_lt pl))).trans w4
      have w6 : σ4 p 6 = σ p 6 := ((hf4 p 6 (ff_lt pl))).trans w6
      have r3 : σ4 (p + 3) = σ (p + 3) := funext (fun j => ((hf4 (p + 3) j (ff_lt pl3))).trans (congrFun r3 j))
      have r4 : σ4 (p + 4) = σ (p + 4) := funext (fun j => ((hf4 (p + 4) j (ff_lt pl4))).trans (congrFun r4 j))
      conv => whnf
      refine ⟨(by first | assumption | rfl), ?_⟩
      try simp (disch := omega) only [Int.cast_ofNat_Int, up_s, up_a, up_i, mp_a, mp_ge]
      try simp only [t3]
      try simp only [t4]
      try simp only [m7]
      try simp only [m8]
      try simp only [m9]
      try simp only [m10]
      try simp only [m11]
      try simp only [w0]
      try simp only [w1]
      try simp only [w4]
      try simp only [w6]
      try simp only [zc]
      conv => whnf
      refine ⟨Nat.le_of_ble_eq_true rfl, Nat.le_of_ble_eq_true rfl, (by first | assumption | rfl), ?_⟩
      refine c_Tname hw hq4 (fun σ5 hf5 hq5 => ?_)
      clear t3 t4 t5 m7 m8 m9 m10 m11
      have t3 := pt_32_3 hq5.pt
      have t4 := hq5.ep
      have t5 := pt_32_5 hq5.pt
      have m7 := ptP_7 hq5.pt hq5.1
      have m8 := ptP_8 hq5.pt hq5.1
      have m9 := ptP_9 hq5.pt hq5.1
      have m10 := ptP_10 hq5.pt hq5.1
      have m11 := ptP_11 hq5.pt hq5.1
      have w0 : σ5 p 0 = σ p 0 := ((hf5 p 0 (nx_lt pl))).trans w0
      have w1 : σ5 p 1 = σ p 1 := ((hf5 p 1 (nx_lt pl))).trans w1
      have w4 : σ5 p 4 = σ p 4 := ((hf5 p 4 (nx_lt pl))).trans w4
      have w6 : σ5 p 6 = σ p 6 := ((hf5 p 6 (nx_lt pl))).trans w6
      have r3 : σ5 (p + 3) = σ (p + 3) := funext (fun j => ((hf5 (p + 3) j (nx_lt pl3))).trans (congrFun r3 j))
      have r4 : σ5 (p + 4) = σ (p + 4) := funext (fun j => ((hf5 (p + 4) j (nx_lt pl4))).trans (congrFun r4 j))
      conv => whnf
      refine ⟨Nat.le_of_ble_eq_true rfl, Nat.le_of_ble_eq_true rfl, (by first | assumption | rfl), ?_⟩
      refine c_Pfarmby hq5.pt hq5.1 (by rw [w4]; omega) ?_
      rw [r3, w4]
      conv => whnf
      refine ⟨fun g => ?_, fun g => ?_⟩
      · simp only [sx_cc, Classical.not_not] at g
        have f9 := fBq_0 (k := 4) (s := kS tx n9 (kE tx n9 (kE tx n9 i))) (b := fFind (σ (p + 3)) (aV tx n9 (kE tx n9 (kE tx n9 i))) (σ p 4).toNat = -1) (by omega)
        obtain ⟨σ6, e9, hf6, hq6⟩ : ∃ s9, σ5 = s9 ∧ fr FFl σ5 s9 ∧ cQ p s9 tx n9 (kE tx n9 (kE tx n9 i)) (Option.or (Option.or (Option.or (Option.or none (aF tx n9 (kE tx n9 i))) (fBq (¬ fFind (σ (p + 4)) (aV tx n9 (kE tx n9 i)) (σ p 6).toNat = -1) 3 (kS tx n9 (kE tx n9 i)))) (aF tx n9 (kE tx n9 (kE tx n9 i)))) (fBq (fFind (σ (p + 3)) (aV tx n9 (kE tx n9 (kE tx n9 i))) (σ p 4).toNat = -1) 4 (kS tx n9 (kE tx n9 (kE tx n9 i))))) := ⟨σ5, rfl, fun _ _ _ => rfl, by rw [f9, Option.or_none]; exact hq5⟩
        rw [e9]
        clear t3 t4 t5 m7 m8 m9 m10 m11
        have t3 := pt_32_3 hq6.pt
        have t4 := hq6.ep
        have t5 := pt_32_5 hq6.pt
        have m7 := ptP_7 hq6.pt hq6.1
        have m8 := ptP_8 hq6.pt hq6.1
        have m9 := ptP_9 hq6.pt hq6.1
        have m10 := ptP_10 hq6.pt hq6.1
        have m11 := ptP_11 hq6.pt hq6.1
        have w0 : σ6 p 0 = σ p 0 := ((hf6 p 0 (ff_lt pl))).trans w0
        have w1 : σ6 p 1 = σ p 1 := ((hf6 p 1 (ff_lt pl))).trans w1
        have w4 : σ6 p 4 = σ p 4 := ((hf6 p 4 (ff_lt pl))).trans w4
        have w6 : σ6 p 6 = σ p 6 := ((hf6 p 6 (ff_lt pl))).trans w6
        have r3 : σ6 (p + 3) = σ (p + 3) := funext (fun j => ((hf6 (p + 3) j (ff_lt pl3))).trans (congrFun r3 j))
        have r4 : σ6 (p + 4) = σ (p + 4) := funext (fun j => ((hf6 (p + 4) j (ff_lt pl4))).trans (congrFun r4 j))
        conv => whnf
        refine ⟨(by first | assumption | rfl), ?_⟩
        try simp (disch := omega) only [Int.cast_ofNat_Int, up_s, up_a, up_i, mp_a, mp_ge]
        try simp only [t3]
        try simp only [t4]
        try simp only [m7]
        try simp only [m8]
        try simp only [m9]
        try simp only [m10]
        try simp only [m11]
        try simp only [w0]
        try simp only [w1]
        try simp only [w4]
        try simp only [w6]
        try simp only [zc]
        conv => whnf
        refine ⟨(by first | assumption | rfl), ?_⟩
        try simp (disch := omega) only [Int.cast_ofNat_Int, up_s, up_a, up_i, mp_a, mp_ge]
        try simp only [t3]
        try simp only [t4]
        try simp only [m7]
        try simp only [m8]
        try simp only [m9]
        try simp only [m10]
        try simp only [m11]
        try simp only [w0]
        try simp only [w1]
        try simp only [w4]
        try simp only [w6]
        try simp only [zc]
        conv => whnf
        refine ⟨sx_ixI (by first | assumption | rfl) (by omega) (by omega), ?_⟩
        conv => whnf
        refine ⟨(by first | assumption | rfl), ?_⟩
        try simp (disch := omega) only [Int.cast_ofNat_Int, up_s, up_a, up_i, mp_a, mp_ge]
        try simp only [t3]
        try simp only [t4]
        try simp only [m7]
        try simp only [m8]
        try simp only [m9]
        try simp only [m10]
        try simp only [m11]
        try simp only [w0]
        try simp only [w1]
        try simp only [w4]
        try simp only [w6]
        try simp only [zc]
        conv => whnf
        refine ⟨(by first | assumption | rfl), ?_⟩
        try simp (disch := omega) only [Int.cast_ofNat_Int, up_s, up_a, up_i, mp_a, mp_ge]
        try simp only [t3]
        try simp only [t4]
        try simp only [m7]
        try simp only [m8]
        try simp only [m9]
        try simp only [m10]
        try simp only [m11]
        try simp only [w0]
        try simp only [w1]
        try simp only [w4]
        try simp only [w6]
        try simp only [zc]
        conv => whnf
        refine ⟨sx_ixI (by first | assumption | rfl) (by omega) (by omega), ?_⟩
        conv => whnf
        refine ⟨(by first | assumption | rfl), ?_⟩
        try simp (disch := omega) only [Int.cast_ofNat_Int, up_s, up_a, up_i, mp_a, mp_ge]
        try simp only [t3]
        try simp only [t4]
        try simp only [m7]
        try simp only [m8]
        try simp only [m9]
        try simp only [m10]
        try simp only [m11]
        try simp only [w0]
        try simp only [w1]
        try simp only [w4]
        try simp only [w6]
        try simp only [zc]
        conv => whnf
        refine ⟨(by first | assumption | rfl), ?_⟩
        try simp (disch := omega) only [Int.cast_ofNat_Int, up_s, up_a, up_i, mp_a, mp_ge]
        try simp only [t3]
        try simp only [t4]
        try simp only [m7]
        try simp only [m8]
        try simp only [m9]
        try simp only [m10]
        try simp only [m11]
        try simp only [w0]
        try simp only [w1]
        try simp only [w4]
        try simp only [w6]
        try simp only [zc]
        conv => whnf
        refine ⟨Nat.le_of_ble_eq_true rfl, Nat.le_of_ble_eq_true rfl, (by first | assumption | rfl), ?_⟩
        refine c_Tnxt hw (cQ_up (cQ_up hq6 (by unfold FPd; omega)) (by unfold FPd; omega)) (by omega) (fun σ7 hf7 hq7 => ?_)
        clear t3 t4 t5 m7 m8 m9 m10 m11
        have t3 := pt_32_3 hq7.pt
        have t4 := hq7.ep
        have t5 := pt_32_5 hq7.pt
        have m7 := ptP_7 hq7.pt hq7.1
        have m8 := ptP_8 hq7.pt hq7.1
        have m9 := ptP_9 hq7.pt hq7.1
        have m10 := ptP_10 hq7.pt hq7.1
        have m11 := ptP_11 hq7.pt hq7.1
        have w0 : σ7 p 0 = σ p 0 := ((((hf7 p 0 (nx_lt pl)).trans (up_a pn5)).trans (up_a pn4))).trans w0
        have w1 : σ7 p 1 = σ p 1 := ((((hf7 p 1 (nx_lt pl)).trans (up_a pn5)).trans (up_a pn4))).trans w1
        have w4 : σ7 p 4 = σ p 4 := ((((hf7 p 4 (nx_lt pl)).trans (up_a pn5)).trans (up_a pn4))).trans w4
        have w6 : σ7 p 6 = σ p 6 := ((((hf7 p 6 (nx_lt pl)).trans (up_a pn5)).trans (up_a pn4))).trans w6
        conv => whnf
        refine ⟨sx_ixI (by first | assumption | rfl) (by omega) (by omega), ?_⟩
        conv => whnf
        refine ⟨(by first | assumption | rfl), ?_⟩
        try simp (disch := omega) only [Int.cast_ofNat_Int, up_s, up_a, up_i, mp_a, mp_ge]
        try simp only [t3]
        try simp only [t4]
        try simp only [m7]
        try simp only [m8]
        try simp only [m9]
        try simp only [m10]
        try simp only [m11]
        try simp only [w0]
        try simp only [w1]
        try simp only [w4]
        try simp only [w6]
        try simp only [zc]
        conv => whnf
        refine ⟨(by first | assumption | rfl), ?_⟩
        try simp (disch := omega) only [Int.cast_ofNat_Int, up_s, up_a, up_i, mp_a, mp_ge]
        try simp only [t3]
        try simp only [t4]
        try simp only [m7]
        try simp only [m8]
        try simp only [m9]
        try simp only [m10]
        try simp only [m11]
        try simp only [w0]
        try simp only [w1]
        try simp only [w4]
        try simp only [w6]
        try simp only [zc]
        conv => whnf
        refine ⟨Nat.le_of_ble_eq_true rfl, Nat.le_of_ble_eq_true rfl, (by first | assumption | rfl), ?_⟩
        refine c_Tnxt hw (cQ_up hq7 (by unfold FPd; omega)) (by omega) (fun σ8 hf8 hq8 => ?_)
        clear t3 t4 t5 m7 m8 m9 m10 m11
        have t3 := pt_32_3 hq8.pt
        have t4 := hq8.ep
        have t5 := pt_32_5 hq8.pt
        have m7 := ptP_7 hq8.pt hq8.1
        have m8 := ptP_8 hq8.pt hq8.1
        have m9 := ptP_9 hq8.pt hq8.1
        have m10 := ptP_10 hq8.pt hq8.1
        have m11 := ptP_11 hq8.pt hq8.1
        have w0 : σ8 p 0 = σ p 0 := (((hf8 p 0 (nx_lt pl)).trans (up_a pn6))).trans w0
        have w1 : σ8 p 1 = σ p 1 := (((hf8 p 1 (nx_lt pl)).trans (up_a pn6))).trans w1
        have w4 : σ8 p 4 = σ p 4 := (((hf8 p 4 (nx_lt pl)).trans (up_a pn6))).trans w4
        have w6 : σ8 p 6 = σ p 6 := (((hf8 p 6 (nx_lt pl)).trans (up_a pn6))).trans w6
        conv => whnf
        refine ⟨sx_ixI (by first | assumption | rfl) (by omega) (by omega), ?_⟩
        conv => whnf
        refine ⟨(by first | assumption | rfl), ?_⟩
        try simp (disch := omega) only [Int.cast_ofNat_Int, up_s, up_a, up_i, mp_a, mp_ge]
        try simp only [t3]
        try simp only [t4]
        try simp only [m7]
        try simp only [m8]
        try simp only [m9]
        try simp only [m10]
        try simp only [m11]
        try simp only [w0]
        try simp only [w1]
        try simp only [w4]
        try simp only [w6]
        try simp only [zc]
        conv => whnf
        refine ⟨(by first | assumption | rfl), ?_⟩
        try simp (disch := omega) only [Int.cast_ofNat_Int, up_s, up_a, up_i, mp_a, mp_ge]
        try simp only [t3]
        try simp only [t4]
        try simp only [m7]
        try simp only [m8]
        try simp only [m9]
        try simp only [m10]
        try simp only [m11]
        try simp only [w0]
        try simp only [w1]
        try simp only [w4]
        try simp only [w6]
        try simp only [zc]
        conv => whnf
        refine ⟨⟨by omega, by omega⟩, ?_⟩
        conv => whnf
        refine ⟨Nat.le_of_ble_eq_true rfl, Nat.le_of_ble_eq_true rfl, (by first | assumption | rfl), ?_⟩
        refine c_Tnxt hw (cQ_up hq8 (by unfold FPd; omega)) (by omega) (fun σ9 hf9 hq9 => ?_)
        clear t3 t4 t5 m7 m8 m9 m10 m11
        have t3 := pt_32_3 hq9.pt
        have t4 := hq9.ep
        have t5 := pt_32_5 hq9.pt
        have m7 := ptP_7 hq9.pt hq9.1
        have m8 := ptP_8 hq9.pt hq9.1
        have m9 := ptP_9 hq9.pt hq9.1
        have m10 := ptP_10 hq9.pt hq9.1
        have m11 := ptP_11 hq9.pt hq9.1
        have w0 : σ9 p 0 = σ p 0 := (((hf9 p 0 (nx_lt pl)).trans (up_a pn7))).trans w0
        have w1 : σ9 p 1 = σ p 1 := (((hf9 p 1 (nx_lt pl)).trans (up_a pn7))).trans w1
        have w4 : σ9 p 4 = σ p 4 := (((hf9 p 4 (nx_lt pl)).trans (up_a pn7))).trans w4
        have w6 : σ9 p 6 = σ p 6 := (((hf9 p 6 (nx_lt pl)).trans (up_a pn7))).trans w6
        conv => whnf
        refine ⟨(by first | assumption | rfl), ?_⟩
        try simp (disch := omega) only [Int.cast_ofNat_Int, up_s, up_a, up_i, mp_a, mp_ge]
        try simp only [t3]
        try simp only [t4]
        try simp only [m7]
        try simp only [m8]
        try simp only [m9]
        try simp only [m10]
        try simp only [m11]
        try simp only [w0]
        try simp only [w1]
        try simp only [w4]
        try simp only [w6]
        try simp only [zc]
        conv => whnf
        refine ⟨(by first | assumption | rfl), ?_⟩
        try simp (disch := omega) only [Int.cast_ofNat_Int, up_s, up_a, up_i, mp_a, mp_ge]
        try simp only [t3]
        try simp only [t4]
        try simp only [m7]
        try simp only [m8]
        try simp only [m9]
        try simp only [m10]
        try simp only [m11]
        try simp only [w0]
        try simp only [w1]
        try simp only [w4]
        try simp only [w6]
        try simp only [zc]
        conv => whnf
        refine ⟨⟨by omega, by omega⟩, ?_⟩
        conv => whnf
        refine ⟨Nat.le_of_ble_eq_true rfl, Nat.le_of_ble_eq_true rfl, (by first | assumption | rfl), ?_⟩
        refine c_Tnxt hw hq9 (by omega) (fun σ10 hf10 hq10 => ?_)
        clear t3 t4 t5 m7 m8 m9 m10 m11
        have t3 := pt_32_3 hq10.pt
        have t4 := hq10.ep
        have t5 := pt_32_5 hq10.pt
        have m7 := ptP_7 hq10.pt hq10.1
        have m8 := ptP_8 hq10.pt hq10.1
        have m9 := ptP_9 hq10.pt hq10.1
        have m10 := ptP_10 hq10.pt hq10.1
        have m11 := ptP_11 hq10.pt hq10.1
        have w0 : σ10 p 0 = σ p 0 := ((hf10 p 0 (nx_lt pl))).trans w0
        have w1 : σ10 p 1 = σ p 1 := ((hf10 p 1 (nx_lt pl))).trans w1
        have w4 : σ10 p 4 = σ p 4 := ((hf10 p 4 (nx_lt pl))).trans w4
        have w6 : σ10 p 6 = σ p 6 := ((hf10 p 6 (nx_lt pl))).trans w6
        have zb := zCell_bd (tx := tx) (n9 := n9) (i := (kE tx n9 (kE tx n9 (kE tx n9 (kE tx n9 (kE tx n9 i)))))) wz
        have zc : nV tx n9 0 (σ p 1 - 1) (kE tx n9 (kE tx n9 (kE tx n9 (kE tx n9 (kE tx n9 (kE tx n9 i)))))) * σ p 0 + nV tx n9 0 (σ p 0 - 1) (kE tx n9 (kE tx n9 (kE tx n9 (kE tx n9 (kE tx n9 i))))) = zCell p σ tx n9 (kE tx n9 (kE tx n9 (kE tx n9 (kE tx n9 (kE tx n9 i))))) := rfl
        conv => whnf
        refine ⟨(by first | assumption | rfl), ?_⟩
        try simp (disch := omega) only [Int.cast_ofNat_Int, up_s, up_a, up_i, mp_a, mp_ge]
        try simp only [t3]
        try simp only [t4]
        try simp only [m7]
        try simp only [m8]
        try simp only [m9]
        try simp only [m10]
        try simp only [m11]
        try simp only [w0]
        try simp only [w1]
        try simp only [w4]
        try simp only [w6]
        try simp only [zc]
        conv => whnf
        refine ⟨(by first | assumption | rfl), ?_⟩
        try simp (disch := omega) only [Int.cast_ofNat_Int, up_s, up_a, up_i, mp_a, mp_ge]
        try simp only [t3]
        try simp only [t4]
        try simp only [m7]
        try simp only [m8]
        try simp only [m9]
        try simp only [m10]
        try simp only [m11]
        try simp only [w0]
        try simp only [w1]
        try simp only [w4]
        try simp only [w6]
        try simp only [zc]
        conv => whnf
        refine ⟨(by first | assumption | rfl), ?_⟩
        try simp (disch := omega) only [Int.cast_ofNat_Int, up_s, up_a, up_i, mp_a, mp_ge]
        try simp only [t3]
        try simp only [t4]
        try simp only [m7]
        try simp only [m8]
        try simp only [m9]
        try simp only [m10]
        try simp only [m11]
        try simp only [w0]
        try simp only [w1]
        try simp only [w4]
        try simp only [w6]
        try simp only [zc]
        conv => whnf
        refine ⟨(by first | assumption | rfl), ?_⟩
        try simp (disch := omega) only [Int.cast_ofNat_Int, up_s, up_a, up_i, mp_a, mp_ge]
        try simp only [t3]
        try simp only [t4]
        try simp only [m7]
        try simp only [m8]
        try simp only [m9]
        try simp only [m10]
        try simp only [m11]
        try simp only [w0]
        try simp only [w1]
        try simp only [w4]
        try simp only [w6]
        try simp only [zc]
        conv => whnf
        refine ⟨⟨by omega, by omega⟩, ?_⟩
        conv => whnf
        refine ⟨⟨by omega, by omega⟩, ?_⟩
        conv => whnf
        refine ⟨sx_ixI (by first | assumption | rfl) (by omega) (by omega), ?_⟩
        conv => whnf
        refine ⟨(by first | assumption | rfl), ?_⟩
        try simp (disch := omega) only [Int.cast_ofNat_Int, up_s, up_a, up_i, mp_a, mp_ge]
        try simp only [t3]
        try simp only [t4]
        try simp only [m7]
        try simp only [m8]
        try simp only [m9]
        try simp only [m10]
        try simp only [m11]
        try simp only [w0]
        try simp only [w1]
        try simp only [w4]
        try simp only [w6]
        try simp only [zc]
        conv => whnf
        refine ⟨(by first | assumption | rfl), ?_⟩
        try simp (disch := omega) only [Int.cast_ofNat_Int, up_s, up_a, up_i, mp_a, mp_ge]
        try simp only [t3]
        try simp only [t4]
        try simp only [m7]
        try simp only [m8]
        try simp only [m9]
        try simp only [m10]
        try simp only [m11]
        try simp only [w0]
        try simp only [w1]
        try simp only [w4]
        try simp only [w6]
        try simp only [zc]
        conv => whnf
        refine ⟨⟨by omega, by omega⟩, ?_⟩
        conv => whnf
        refine ⟨(by first | assumption | rfl), ?_⟩
        try simp (disch := omega) only [Int.cast_ofNat_Int, up_s, up_a, up_i, mp_a, mp_ge]
        try simp only [t3]
        try simp only [t4]
        try simp only [m7]
        try simp only [m8]
        try simp only [m9]
        try simp only [m10]
        try simp only [m11]
        try simp only [w0]
        try simp only [w1]
        try simp only [w4]
        try simp only [w6]
        try simp only [zc]
        conv => whnf
        refine ⟨(by first | assumption | rfl), ?_⟩
        try simp (disch := omega) only [Int.cast_ofNat_Int, up_s, up_a, up_i, mp_a, mp_ge]
        try simp only [t3]
        try simp only [t4]
        try simp only [m7]
        try simp only [m8]
        try simp only [m9]
        try simp only [m10]
        try simp only [m11]
        try simp only [w0]
        try simp only [w1]
        try simp only [w4]
        try simp only [w6]
        try simp only [zc]
        conv => whnf
        refine ⟨Nat.le_of_ble_eq_true rfl, Nat.le_of_ble_eq_true rfl, (by first | assumption | rfl), ?_⟩
        refine c_Tadv hw (cQ_up (cQ_up hq10 (by unfold FPd; omega)) (by unfold FPd; omega)) (fun σ11 hf11 hq11 => ?_)
        conv => whnf
        refine ⟨rfl, ?_⟩
        obtain ⟨c0, c1, c2, c3, c4, c5, c6, c7⟩ := c_Twalk_v hp hf3 hf4 hf5 hf6 hf7 hf8 hf9 hf10 hf11
        exact h (by omega) _ c0 (by unfold zWalk; simpa only [Option.none_or, Option.or_assoc] using hq11) c1 c2 c3 c4 c5 c6 c7
      · simp only [sx_cc, Classical.not_not] at g
        have f9 := fBq_1 (k := 4) (s := kS tx n9 (kE tx n9 (kE tx n9 i))) (b := fFind (σ (p + 3)) (aV tx n9 (kE tx n9 (kE tx n9 i))) (σ p 4).toNat = -1) (by omega)
        conv => whnf
        refine ⟨Nat.le_of_ble_eq_true rfl, Nat.le_of_ble_eq_true rfl, (by first | assumption | rfl), ?_⟩
        refine c_Tfail hq5 (by decide) (fun σ6 hf6 hq6 => ?_)
        rw [← f9] at hq6
        clear t3 t4 t5 m7 m8 m9 m10 m11
        have t3 := pt_32_3 hq6.pt
        have t4 := hq6.ep
        have t5 := pt_32_5 hq6.pt
        have m7 := ptP_7 hq6.pt hq6.1
        have m8 := ptP_8 hq6.pt hq6.1
        have m9 := ptP_9 hq6.pt hq6.1
        have m10 := ptP_10 hq6.pt hq6.1
        have m11 := ptP_11 hq6.pt hq6.1
        have w0 : σ6 p 0 = σ p 0 := ((hf6 p 0 (ff_lt pl))).trans w0
        have w1 : σ6 p 1 = σ p 1 := ((hf6 p 1 (ff_lt pl))).trans w1
        have w4 : σ6 p 4 = σ p 4 := ((hf6 p 4 (ff_lt pl))).trans w4
        have w6 : σ6 p 6 = σ p 6 := ((hf6 p 6 (ff_lt pl))).trans w6
        have r3 : σ6 (p + 3) = σ (p + 3) := funext (fun j => ((hf6 (p + 3) j (ff_lt pl3))).trans (congrFun r3 j))
        have r4 : σ6 (p + 4) = σ (p + 4) := funext (fun j => ((hf6 (p + 4) j (ff_lt pl4))).trans (congrFun r4 j))
        conv => whnf
        refine ⟨(by first | assumption | rfl), ?_⟩
        try simp (disch := omega) only [Int.cast_ofNat_Int, up_s, up_a, up_i, mp_a, mp_ge]
        try simp only [t3]
        try simp only [t4]
        try simp only [m7]
        try simp only [m8]
        try simp only [m9]
        try simp only [m10]
        try simp only [m11]
        try simp only [w0]
        try simp only [w1]
        try simp only [w4]
        try simp only [w6]
        try simp only [zc]
        conv => whnf
        refine ⟨(by first | assumption | rfl), ?_⟩
        try simp (disch := omega) only [Int.cast_ofNat_Int, up_s, up_a, up_i, mp_a, mp_ge]
        try simp only [t3]
        try simp only [t4]
        try simp only [m7]
        try simp only [m8]
        try simp only [m9]
        try simp only [m10]
        try simp only [m11]
        try simp only [w0]
        try simp only [w1]
        try simp only [w4]
        try simp only [w6]
        try simp only [zc]
        conv => whnf
        refine ⟨sx_ixI (by first | assumption | rfl) (by omega) (by omega), ?_⟩
        conv => whnf
        refine ⟨(by first | assumption | rfl), ?_⟩
        try simp (disch := omega) only [Int.cast_ofNat_Int, up_s, up_a, up_i, mp_a, mp_ge]
        try simp only [t3]
        try simp only [t4]
        try simp only [m7]
        try simp only [m8]
        try simp only [m9]
        try simp only [m10]
        try simp only [m11]
        try simp only [w0]
        try simp only [w1]
        try simp only [w4]
        try simp only [w6]
        try simp only [zc]
        conv => whnf
        refine ⟨(by first | assumption | rfl), ?_⟩
        try simp (disch := omega) only [Int.cast_ofNat_Int, up_s, up_a, up_i, mp_a, mp_ge]
        try simp only [t3]
        try simp only [t4]
        try simp only [m7]
        try simp only [m8]
        try simp only [m9]
        try simp only [m10]
        try simp only [m11]
        try simp only [w0]
        try simp only [w1]
        try simp only [w4]
        try simp only [w6]
        try simp only [zc]
        conv => whnf
        refine ⟨sx_ixI (by first | assumption | rfl) (by omega) (by omega), ?_⟩
        conv => whnf
        refine ⟨(by first | assumption | rfl), ?_⟩
        try simp (disch := omega) only [Int.cast_ofNat_Int, up_s, up_a, up_i, mp_a, mp_ge]
        try simp only [t3]
        try simp only [t4]
        try simp only [m7]
        try simp only [m8]
        try simp only [m9]
        try simp only [m10]
        try simp only [m11]
        try simp only [w0]
        try simp only [w1]
        try simp only [w4]
        try simp only [w6]
        try simp only [zc]
        conv => whnf
        refine ⟨(by first | assumption | rfl), ?_⟩
        try simp (disch := omega) only [Int.cast_ofNat_Int, up_s, up_a, up_i, mp_a, mp_ge]
        try simp only [t3]
        try simp only [t4]
        try simp only [m7]
        try simp only [m8]
        try simp only [m9]
        try simp only [m10]
        try simp only [m11]
        try simp only [w0]
        try simp only [w1]
        try simp only [w4]
        try simp only [w6]
        try simp only [zc]
        conv => whnf
        refine ⟨Nat.le_of_ble_eq_true rfl, Nat.le_of_ble_eq_true rfl, (by first | assumption | rfl), ?_⟩
        refine c_Tnxt hw (cQ_up (cQ_up hq6 (by unfold FPd; omega)) (by unfold FPd; omega)) (by omega) (fun σ7 hf7 hq7 => ?_)
        clear t3 t4 t5 m7 m8 m9 m10 m11
        have t3 := pt_32_3 hq7.pt
        have t4 := hq7.ep
        have t5 := pt_32_5 hq7.pt
        have m7 := ptP_7 hq7.pt hq7.1
        have m8 := ptP_8 hq7.pt hq7.1
        have m9 := ptP_9 hq7.pt hq7.1
        have m10 := ptP_10 hq7.pt hq7.1
        have m11 := ptP_11 hq7.pt hq7.1
        have w0 : σ7 p 0 = σ p 0 := ((((hf7 p 0 (nx_lt pl)).trans (up_a pn5)).trans (up_a pn4))).trans w0
        have w1 : σ7 p 1 = σ p 1 := ((((hf7 p 1 (nx_lt pl)).trans (up_a pn5)).trans (up_a pn4))).trans w1
        have w4 : σ7 p 4 = σ p 4 := ((((hf7 p 4 (nx_lt pl)).trans (up_a pn5)).trans (up_a pn4))).trans w4
        have w6 : σ7 p 6 = σ p 6 := ((((hf7 p 6 (nx_lt pl)).trans (up_a pn5)).trans (up_a pn4))).trans w6
        conv => whnf
        refine ⟨sx_ixI (by first | assumption | rfl) (by omega) (by omega), ?_⟩
        conv => whnf
        refine ⟨(by first | assumption | rfl), ?_⟩
        try simp (disch := omega) only [Int.cast_ofNat_Int, up_s, up_a, up_i, mp_a, mp_ge]
        try simp only [t3]
        try simp only [t4]
        try simp only [m7]
        try simp only [m8]
        try simp only [m9]
        try simp only [m10]
        try simp only [m11]
        try simp only [w0]
        try simp only [w1]
        try simp only [w4]
        try simp only [w6]
        try simp only [zc]
        conv => whnf
        refine ⟨(by first | assumption | rfl), ?_⟩
        try simp (disch := omega) only [Int.cast_ofNat_Int, up_s, up_a, up_i, mp_a, mp_ge]
        try simp only [t3]
        try simp only [t4]
        try simp only [m7]
        try simp only [m8]
        try simp only [m9]
        try simp only [m10]
        try simp only [m11]
        try simp only [w0]
        try simp only [w1]
        try simp only [w4]
        try simp only [w6]
        try simp only [zc]
        conv => whnf
        refine ⟨Nat.le_of_ble_eq_true rfl, Nat.le_of_ble_eq_true rfl, (by first | assumption | rfl), ?_⟩
        refine c_Tnxt hw (cQ_up hq7 (by unfold FPd; omega)) (by omega) (fun σ8 hf8 hq8 => ?_)
        clear t3 t4 t5 m7 m8 m9 m10 m11
        have t3 := pt_32_3 hq8.pt
        have t4 := hq8.ep
        have t5 := pt_32_5 hq8.pt
        have m7 := ptP_7 hq8.pt hq8.1
        have m8 := ptP_8 hq8.pt hq8.1
        have m9 := ptP_9 hq8.pt hq8.1
        have m10 := ptP_10 hq8.pt hq8.1
        have m11 := ptP_11 hq8.pt hq8.1
        have w0 : σ8 p 0 = σ p 0 := (((hf8 p 0 (nx_lt pl)).trans (up_a pn6))).trans w0
        have w1 : σ8 p 1 = σ p 1 := (((hf8 p 1 (nx_lt pl)).trans (up_a pn6))).trans w1
        have w4 : σ8 p 4 = σ p 4 := (((hf8 p 4 (nx_lt pl)).trans (up_a pn6))).trans w4
        have w6 : σ8 p 6 = σ p 6 := (((hf8 p 6 (nx_lt pl)).trans (up_a pn6))).trans w6
        conv => whnf
        refine ⟨sx_ixI (by first | assumption | rfl) (by omega) (by omega), ?_⟩
        conv => whnf
        refine ⟨(by first | assumption | rfl), ?_⟩
        try simp (disch := omega) only [Int.cast_ofNat_Int, up_s, up_a, up_i, mp_a, mp_ge]
        try simp only [t3]
        try simp only [t4]
        try simp only [m7]
        try simp only [m8]
        try simp only [m9]
        try simp only [m10]
        try simp only [m11]
        try simp only [w0]
        try simp only [w1]
        try simp only [w4]
        try simp only [w6]
        try simp only [zc]
        conv => whnf
        refine ⟨(by first | assumption | rfl), ?_⟩
        try simp (disch := omega) only [Int.cast_ofNat_Int, up_s, up_a, up_i, mp_a, mp_ge]
        try simp only [t3]
        try simp only [t4]
        try simp only [m7]
        try simp only [m8]
        try simp only [m9]
        try simp only [m10]
        try simp only [m11]
        try simp only [w0]
        try simp only [w1]
        try simp only [w4]
        try simp only [w6]
        try simp only [zc]
        conv => whnf
        refine ⟨⟨by omega, by omega⟩, ?_⟩
        conv => whnf
        refine ⟨Nat.le_of_ble_eq_true rfl, Nat.le_of_ble_eq_true rfl, (by first | assumption | rfl), ?_⟩
        refine c_Tnxt hw (cQ_up hq8 (by unfold FPd; omega)) (by omega) (fun σ9 hf9 hq9 => ?_)
        clear t3 t4 t5 m7 m8 m9 m10 m11
        have t3 := pt_32_3 hq9.pt
        have t4 := hq9.ep
        have t5 := pt_32_5 hq9.pt
        have m7 := ptP_7 hq9.pt hq9.1
        have m8 := ptP_8 hq9.pt hq9.1
        have m9 := ptP_9 hq9.pt hq9.1
        have m10 := ptP_10 hq9.pt hq9.1
        have m11 := ptP_11 hq9.pt hq9.1
        have w0 : σ9 p 0 = σ p 0 := (((hf9 p 0 (nx_lt pl)).trans (up_a pn7))).trans w0
        have w1 : σ9 p 1 = σ p 1 := (((hf9 p 1 (nx_lt pl)).trans (up_a pn7))).trans w1
        have w4 : σ9 p 4 = σ p 4 := (((hf9 p 4 (nx_lt pl)).trans (up_a pn7))).trans w4
        have w6 : σ9 p 6 = σ p 6 := (((hf9 p 6 (nx_lt pl)).trans (up_a pn7))).trans w6
        conv => whnf
        refine ⟨(by first | assumption | rfl), ?_⟩
        try simp (disch := omega) only [Int.cast_ofNat_Int, up_s, up_a, up_i, mp_a, mp_ge]
        try simp only [t3]
        try simp only [t4]
        try simp only [m7]
        try simp only [m8]
        try simp only [m9]
        try simp only [m10]
        try simp only [m11]
        try simp only [w0]
        try simp only [w1]
        try simp only [w4]
        try simp only [w6]
        try simp only [zc]
        conv => whnf
        refine ⟨(by first | assumption | rfl), ?_⟩
        try simp (disch := omega) only [Int.cast_ofNat_Int, up_s, up_a, up_i, mp_a, mp_ge]
        try simp only [t3]
        try simp only [t4]
        try simp only [m7]
        try simp only [m8]
        try simp only [m9]
        try simp only [m10]
        try simp only [m11]
        try simp only [w0]
        try simp only [w1]
        try simp only [w4]
        try simp only [w6]
        try simp only [zc]
        conv => whnf
        refine ⟨⟨by omega, by omega⟩, ?_⟩
        conv => whnf
        refine ⟨Nat.le_of_ble_eq_true rfl, Nat.le_of_ble_eq_true rfl, (by first | assumption | rfl), ?_⟩
        refine c_Tnxt hw hq9 (by omega) (fun σ10 hf10 hq10 => ?_)
        clear t3 t4 t5 m7 m8 m9 m10 m11
        have t3 := pt_32_3 hq10.pt
        have t4 := hq10.ep
        have t5 := pt_32_5 hq10.pt
        have m7 := ptP_7 hq10.pt hq10.1
        have m8 := ptP_8 hq10.pt hq10.1
        have m9 := ptP_9 hq10.pt hq10.1
        have m10 := ptP_10 hq10.pt hq10.1
        have m11 := ptP_11 hq10.pt hq10.1
        have w0 : σ10 p 0 = σ p 0 := ((hf10 p 0 (nx_lt pl))).trans w0
        have w1 : σ10 p 1 = σ p 1 := ((hf10 p 1 (nx_lt pl))).trans w1
        have w4 : σ10 p 4 = σ p 4 := ((hf10 p 4 (nx_lt pl))).trans w4
        have w6 : σ10 p 6 = σ p 6 := ((hf10 p 6 (nx_lt pl))).trans w6
        have zb := zCell_bd (tx := tx) (n9 := n9) (i := (kE tx n9 (kE tx n9 (kE tx n9 (kE tx n9 (kE tx n9 i)))))) wz
        have zc : nV tx n9 0 (σ p 1 - 1) (kE tx n9 (kE tx n9 (kE tx n9 (kE tx n9 (kE tx n9 (kE tx n9 i)))))) * σ p 0 + nV tx n9 0 (σ p 0 - 1) (kE tx n9 (kE tx n9 (kE tx n9 (kE tx n9 (kE tx n9 i))))) = zCell p σ tx n9 (kE tx n9 (kE tx n9 (kE tx n9 (kE tx n9 (kE tx n9 i))))) := rfl
        conv => whnf
        refine ⟨(by first | assumption | rfl), ?_⟩
        try simp (disch := omega) only [Int.cast_ofNat_Int, up_s, up_a, up_i, mp_a, mp_ge]
        try simp only [t3]
        try simp only [t4]
        try simp only [m7]
        try simp only [m8]
        try simp only [m9]
        try simp only [m10]
        try simp only [m11]
        try simp only [w0]
        try simp only [w1]
        try simp only [w4]
        try simp only [w6]
        try simp only [zc]
        conv => whnf
        refine ⟨(by first | assumption | rfl), ?_⟩
        try simp (disch := omega) only [Int.cast_ofNat_Int, up_s, up_a, up_i, mp_a, mp_ge]
        try simp only [t3]
        try simp only [t4]
        try simp only [m7]
        try simp only [m8]
        try simp only [m9]
        try simp only [m10]
        try simp only [m11]
        try simp only [w0]
        try simp only [w1]
        try simp only [w4]
        try simp only [w6]
        try simp only [zc]
        conv => whnf
        refine ⟨(by first | assumption | rfl), ?_⟩
        try simp (disch := omega) only [Int.cast_ofNat_Int, up_s, up_a, up_i, mp_a, mp_ge]
        try simp only [t3]
        try simp only [t4]
        try simp only [m7]
        try simp only [m8]
        try simp only [m9]
        try simp only [m10]
        try simp only [m11]
        try simp only [w0]
        try simp only [w1]
        try simp only [w4]
        try simp only [w6]
        try simp only [zc]
        conv => whnf
        refine ⟨(by first | assumption | rfl), ?_⟩
        try simp (disch := omega) only [Int.cast_ofNat_Int, up_s, up_a, up_i, mp_a, mp_ge]
        try simp only [t3]
        try simp only [t4]
        try simp only [m7]
        try simp only [m8]
        try simp only [m9]
        try simp only [m10]
        try simp only [m11]
        try simp only [w0]
        try simp only [w1]
        try simp only [w4]
        try simp only [w6]
        try simp only [zc]
        conv => whnf
        refine ⟨⟨by omega, by omega⟩, ?_⟩
        conv => whnf
        refine ⟨⟨by omega, by omega⟩, ?_⟩
        conv => whnf
        refine ⟨sx_ixI (by first | assumption | rfl) (by omega) (by omega), ?_⟩
        conv => whnf
        refine ⟨(by first | assumption | rfl), ?_⟩
        try simp (disch := omega) only [Int.cast_ofNat_Int, up_s, up_a, up_i, mp_a, mp_ge]
        try simp only [t3]
        try simp only [t4]
        try simp only [m7]
        try simp only [m8]
        try simp only [m9]
        try simp only [m10]
        try simp only [m11]
        try simp only [w0]
        try simp only [w1]
        try simp only [w4]
        try simp only [w6]
        try simp only [zc]
        conv => whnf
        refine ⟨(by first | assumption | rfl), ?_⟩
        try simp (disch := omega) only [Int.cast_ofNat_Int, up_s, up_a, up_i, mp_a, mp_ge]
        try simp only [t3]
        try simp only [t4]
        try simp only [m7]
        try simp only [m8]
        try simp only [m9]
        try simp only [m10]
        try simp only [m11]
        try simp only [w0]
        try simp only [w1]
        try simp only [w4]
        try simp only [w6]
        try simp only [zc]
        conv => whnf
        refine ⟨⟨by omega, by omega⟩, ?_⟩
        conv => whnf
        refine ⟨(by first | assumption | rfl), ?_⟩
        try simp (disch := omega) only [Int.cast_ofNat_Int, up_s, up_a, up_i, mp_a, mp_ge]
        try simp only [t3]
        try simp only [t4]
        try simp only [m7]
        try simp only [m8]
        try simp only [m9]
        try simp only [m10]
        try simp only [m11]
        try simp only [w0]
        try simp only [w1]
        try simp only [w4]
        try simp only [w6]
        try simp only [zc]
        conv => whnf
        refine ⟨(by first | assumption | rfl), ?_⟩
        try simp (disch := omega) only [Int.cast_ofNat_Int, up_s, up_a, up_i, mp_a, mp_ge]
        try simp only [t3]
        try simp only [t4]
        try simp only [m7]
        try simp only [m8]
        try simp only [m9]
        try simp only [m10]
        try simp only [m11]
        try simp only [w0]
        try simp only [w1]
        try simp only [w4]
        try simp only [w6]
        try simp only [zc]
        conv => whnf
        refine ⟨Nat.le_of_ble_eq_true rfl, Nat.le_of_ble_eq_true rfl, (by first | assumption | rfl), ?_⟩
        refine c_Tadv hw (cQ_up (cQ_up hq10 (by unfold FPd; omega)) (by unfold FPd; omega)) (fun σ11 hf11 hq11 => ?_)
        conv => whnf
        refine ⟨rfl, ?_⟩
        obtain ⟨c0, c1, c2, c3, c4, c5, c6, c7⟩ := c_Twalk_v hp hf3 hf4 hf5 hf6 hf7 hf8 hf9 hf10 hf11
        exact h (by omega) _ c0 (by unfold zWalk; simpa only [Option.none_or, Option.or_assoc] using hq11) c1 c2 c3 c4 c5 c6 c7
  · simp only [sx_cc, Classical.not_not] at g
    conv => whnf
    refine ⟨Nat.le_of_ble_eq_true rfl, Nat.le_of_ble_eq_true rfl, (by first | assumption | rfl), ?_⟩
    refine c_Tfail hq (by decide) (fun σ3 hf3 hq3 => ?_)
    conv => whnf
    refine ⟨rfl, ?_⟩
    exact h0 (by omega) _ hf3 hq3
end SXP3
