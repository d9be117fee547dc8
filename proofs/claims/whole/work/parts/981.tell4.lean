/-! THE TELLER: farms (by wip/whole) -/
section SXP4
variable {X : sx_X} {Q : sx_R} {σ σ0 σ' σ1 σ2 : sx_S} {tx : Int → Int} {n9 p i : Int} {F : Option (Int × Int)}
/-- the cells of a farm's ground that are told so far -/
abbrev pRc (w x x2 y v u c : Int) : Prop := (x ≤ c % w ∧ c % w ≤ x2 ∧ y ≤ c / w ∧ c / w < v) ∨ (c / w = v ∧ x ≤ c % w ∧ c % w < u)
theorem dm_u {w u v : Int} (hw : 0 < w) (hu : 0 ≤ u ∧ u < w) : (v * w + u) % w = u ∧ (v * w + u) / w = v := by
  constructor
  · rw [Int.add_comm, Int.add_mul_emod_self_right, Int.emod_eq_of_lt hu.1 hu.2]
  · rw [Int.add_comm, Int.add_mul_ediv_right _ _ (by omega), Int.ediv_eq_zero_of_lt hu.1 hu.2]; omega
theorem pRc_s {w x x2 y v u c : Int} (hw : 0 < w) (hu : 0 ≤ u ∧ u < w) (hx : x ≤ u) : pRc w x x2 y v (u + 1) c ↔ (c = v * w + u ∨ pRc w x x2 y v u c) := by
  have h1 := dm_u (w := w) (u := u) (v := v) hw hu
  have h2 : c / w = v → c % w = u → c = v * w + u := fun a b => by
    have h3 := Int.mul_ediv_add_emod c w
    rw [a, b, Int.mul_comm] at h3
    omega
  unfold pRc
  constructor
  · intro z
    by_cases e1 : c / w = v
    · by_cases e2 : c % w = u
      · exact Or.inl (h2 e1 e2)
      · omega
    · omega
  · rintro (z | z)
    · rw [z, h1.1, h1.2]; omega
    · omega
theorem pRc_r {w x x2 y v c : Int} (hx : y ≤ v) : pRc w x x2 y v (x2 + 1) c ↔ pRc w x x2 y (v + 1) x c := by
  unfold pRc
  constructor <;> intro z <;> omega
theorem pRc_0 {w x x2 y c : Int} : ¬ pRc w x x2 y y x c := by
  unfold pRc; omega
def zFarm (p : Int) (s : sx_S) (tx : Int → Int) (n9 i : Int) : Option (Int × Int) := (aF tx n9 (kE tx n9 i)).or ((fBq (¬ fFind (s (p + 3)) (aV tx n9 (kE tx n9 i)) (s p 4).toNat = -1) 3 (kS tx n9 (kE tx n9 i))).or ((nF tx n9 0 (s p 0 - 1) (kE tx n9 (kE tx n9 i))).or ((nF tx n9 0 (s p 1 - 1) (kE tx n9 (kE tx n9 (kE tx n9 i)))).or ((nF tx n9 (nV tx n9 0 (s p 0 - 1) (kE tx n9 (kE tx n9 i))) (s p 0 - 1) (kE tx n9 (kE tx n9 (kE tx n9 (kE tx n9 i))))).or (nF tx n9 (nV tx n9 0 (s p 1 - 1) (kE tx n9 (kE tx n9 (kE tx n9 i)))) (s p 1 - 1) (kE tx n9 (kE tx n9 (kE tx n9 (kE tx n9 (kE tx n9 i))))))))))
abbrev FZm (p m a j : Int) : Prop := FNx a j ∨ (a = 32 ∧ j = 9) ∨ a = p + 2 ∨ (a = p + 3 ∧ j = m) ∨ (a = p ∧ j = 4)
abbrev FZ9 (a j : Int) : Prop := FNx a j ∨ (a = 32 ∧ j = 9)
theorem c_Tfarm_v {σ3 σ4 σ5 σ6 σ7 σ8 : sx_S}  (hp : 2 ≤ p ∧ p ≤ 17)  (hf3 : fr FNx (sx_up σ (32) (9) (1)) σ3) (hf4 : fr FFl σ3 σ4) (hf5 : fr FNx σ4 σ5) (hf6 : fr FNx σ5 σ6) (hf7 : fr FNx σ6 σ7) (hf8 : fr FNx σ7 σ8) : fr (FZ9) σ σ8 ∧ σ8 (32) (9) = 1 := by
  refine ⟨fun a j z9 => by unfold FZ9 FNx at z9; rw [hf8 _ _ (by unfold FNx; omega), hf7 _ _ (by unfold FNx; omega), hf6 _ _ (by unfold FNx; omega), hf5 _ _ (by unfold FNx; omega), hf4 _ _ (by unfold FFl; omega), hf3 _ _ (by unfold FNx; omega), up_n (by omega)],
    by rw [hf8 _ _ (by unfold FNx; omega), hf7 _ _ (by unfold FNx; omega), hf6 _ _ (by unfold FNx; omega), hf5 _ _ (by unfold FNx; omega), hf4 _ _ (by unfold FFl; omega), hf3 _ _ (by unfold FNx; omega), up_s]⟩
set_option maxRecDepth 20000 in
theorem c_Tfarm (hw : sx_WT X) (hq : cQ p σ tx n9 i none) (wz : wZ p σ) (h0 : 3 ≤ σ p 4 → ∀ σ', fr FFl σ σ' → cQ p σ' tx n9 i (some (2, kS tx n9 i)) → Q none shM σ') (h : σ p 4 < 3 → ∀ σ', fr (FZm p (σ p 4)) σ σ' → cQ p σ' tx n9 (kE tx n9 (kE tx n9 (kE tx n9 (kE tx n9 (kE tx n9 (kE tx n9 i)))))) (zFarm p σ tx n9 i) → σ' 32 9 = 1 → (∀ c : Int, σ' (p + 2) c = if pRc (σ p 0) (nV tx n9 0 (σ p 0 - 1) (kE tx n9 (kE tx n9 i))) (nV tx n9 (nV tx n9 0 (σ p 0 - 1) (kE tx n9 (kE tx n9 i))) (σ p 0 - 1) (kE tx n9 (kE tx n9 (kE tx n9 (kE tx n9 i))))) (nV tx n9 0 (σ p 1 - 1) (kE tx n9 (kE tx n9 (kE tx n9 i)))) (nV tx n9 (nV tx n9 0 (σ p 1 - 1) (kE tx n9 (kE tx n9 (kE tx n9 i)))) (σ p 1 - 1) (kE tx n9 (kE tx n9 (kE tx n9 (kE tx n9 (kE tx n9 i))))) + 1) (nV tx n9 0 (σ p 0 - 1) (kE tx n9 (kE tx n9 i))) c then σ p 4 else σ (p + 2) c) → σ' (p + 3) (σ p 4) = aV tx n9 (kE tx n9 i) → σ' p 4 = σ p 4 + 1 → Q none shM σ') : sx_Run X 108 [.inr (.inr 32)] shM σ Q := by
  have hp : 2 ≤ p ∧ p ≤ 17 := by rcases hq.ip with rfl | rfl <;> decide
  have k0 := lkP0 hq.1
  have k1 := lkP1 hq.1
  have k2 := lkP2 hq.1
  have k3 := lkP3 hq.1
  have k4 := lkP4 hq.1
  have k5 := lkP5 hq.1
  have k6 := lkP6 hq.1
  have k7 := lkP7 hq.1
  have k8 := lkP8 hq.1
  have k9 := lkP9 hq.1
  have k10 := lkP10 hq.1
  have k11 := lkP11 hq.1
  have k12 := lkP12 hq.1
  have k13 := lkP13 hq.1
  have k14 := lkP14 hq.1
  skip
  have t3 := pt_32_3 hq.pt
  have t4 := hq.ep
  have t5 := pt_32_5 hq.pt
  have m3 := ptP_3 hq.pt hq.1
  have m5 := ptP_5 hq.pt hq.1
  have pl : p ≤ 31 := by omega
  have pn32 : ¬ p = 32 := by omega
  have pl1 : p + 1 ≤ 31 := by omega
  have pl2 : p + 2 ≤ 31 := by omega
  have pl3 : p + 3 ≤ 31 := by omega
  have pl4 : p + 4 ≤ 31 := by omega
  have pn1 : ¬ p = p + 1 := by omega
  have pn2 : ¬ p = p + 2 := by omega
  have pn3 : ¬ p = p + 3 := by omega
  have pn4 : ¬ p = p + 4 := by omega
  have pn5 : ¬ p = p + 5 := by omega
  have pn6 : ¬ p = p + 6 := by omega
  have pn7 : ¬ p = p + 7 := by omega
  have pn8 : ¬ p = p + 8 := by omega
  have pn10 : ¬ p = p + 10 := by omega
  obtain ⟨z0, z1, z2, z3, z4, z5⟩ := wz
  have zx := nV_bd (tx := tx) (n9 := n9) (i := (kE tx n9 (kE tx n9 i))) (lo := 0) (hi := σ p 0 - 1) (by omega)
  have zy := nV_bd (tx := tx) (n9 := n9) (i := (kE tx n9 (kE tx n9 (kE tx n9 i)))) (lo := 0) (hi := σ p 1 - 1) (by omega)
  have zx2 := nV_bd (tx := tx) (n9 := n9) (i := (kE tx n9 (kE tx n9 (kE tx n9 (kE tx n9 i))))) (lo := nV tx n9 0 (σ p 0 - 1) (kE tx n9 (kE tx n9 i))) (hi := σ p 0 - 1) (by omega)
  have zy2 := nV_bd (tx := tx) (n9 := n9) (i := (kE tx n9 (kE tx n9 (kE tx n9 (kE tx n9 (kE tx n9 i)))))) (lo := nV tx n9 0 (σ p 1 - 1) (kE tx n9 (kE tx n9 (kE tx n9 i)))) (hi := σ p 1 - 1) (by omega)
  refine sx_rule2 (own := 10) (cd := kX10_tellFarm) (nL := 8) (by decide +kernel) (by decide +kernel) kX10_tellFarm_ok (by decide +kernel) (Nat.le_of_ble_eq_true rfl) [109, 119] 40 (fun n t L st _ σ' => (t = 109 ∧ ∃ v : Int, ∃ w7 : Option sx_V, st = [] ∧ L = [some (.inr (.inr (32))), some (.inl (aV tx n9 (kE tx n9 i))), some (.inl (nV tx n9 0 (σ p 0 - 1) (kE tx n9 (kE tx n9 i)))), some (.inl (nV tx n9 0 (σ p 1 - 1) (kE tx n9 (kE tx n9 (kE tx n9 i))))), some (.inl (nV tx n9 (nV tx n9 0 (σ p 0 - 1) (kE tx n9 (kE tx n9 i))) (σ p 0 - 1) (kE tx n9 (kE tx n9 (kE tx n9 (kE tx n9 i)))))), some (.inl (nV tx n9 (nV tx n9 0 (σ p 1 - 1) (kE tx n9 (kE tx n9 (kE tx n9 i)))) (σ p 1 - 1) (kE tx n9 (kE tx n9 (kE tx n9 (kE tx n9 (kE tx n9 i))))))), some (.inl (v)), w7] ∧ (∃ σ8 : sx_S, fr FZ9 σ σ8 ∧ cQ p σ8 tx n9 (kE tx n9 (kE tx n9 (kE tx n9 (kE tx n9 (kE tx n9 i))))) (zFarm p σ tx n9 i) ∧ σ8 32 9 = 1 ∧ fr (fun a _ => a = p + 2) σ8 σ' ∧ (∀ c : Int, σ' (p + 2) c = if pRc (σ p 0) (nV tx n9 0 (σ p 0 - 1) (kE tx n9 (kE tx n9 i))) (nV tx n9 (nV tx n9 0 (σ p 0 - 1) (kE tx n9 (kE tx n9 i))) (σ p 0 - 1) (kE tx n9 (kE tx n9 (kE tx n9 (kE tx n9 i))))) (nV tx n9 0 (σ p 1 - 1) (kE tx n9 (kE tx n9 (kE tx n9 i)))) v (nV tx n9 0 (σ p 0 - 1) (kE tx n9 (kE tx n9 i))) c then σ p 4 else σ (p + 2) c) ∧ σ p 4 < 3 ∧ nV tx n9 0 (σ p 1 - 1) (kE tx n9 (kE tx n9 (kE tx n9 i))) ≤ v ∧ v ≤ nV tx n9 (nV tx n9 0 (σ p 1 - 1) (kE tx n9 (kE tx n9 (kE tx n9 i)))) (σ p 1 - 1) (kE tx n9 (kE tx n9 (kE tx n9 (kE tx n9 (kE tx n9 i))))) + 1) ∧ n = ((20 - v) * 100 + 50).toNat) ∨ (t = 119 ∧ ∃ v u : Int, st = [] ∧ L = [some (.inr (.inr (32))), some (.inl (aV tx n9 (kE tx n9 i))), some (.inl (nV tx n9 0 (σ p 0 - 1) (kE tx n9 (kE tx n9 i)))), some (.inl (nV tx n9 0 (σ p 1 - 1) (kE tx n9 (kE tx n9 (kE tx n9 i))))), some (.inl (nV tx n9 (nV tx n9 0 (σ p 0 - 1) (kE tx n9 (kE tx n9 i))) (σ p 0 - 1) (kE tx n9 (kE tx n9 (kE tx n9 (kE tx n9 i)))))), some (.inl (nV tx n9 (nV tx n9 0 (σ p 1 - 1) (kE tx n9 (kE tx n9 (kE tx n9 i)))) (σ p 1 - 1) (kE tx n9 (kE tx n9 (kE tx n9 (kE tx n9 (kE tx n9 i))))))), some (.inl (v)), some (.inl (u))] ∧ (∃ σ8 : sx_S, fr FZ9 σ σ8 ∧ cQ p σ8 tx n9 (kE tx n9 (kE tx n9 (kE tx n9 (kE tx n9 (kE tx n9 i))))) (zFarm p σ tx n9 i) ∧ σ8 32 9 = 1 ∧ fr (fun a _ => a = p + 2) σ8 σ' ∧ (∀ c : Int, σ' (p + 2) c = if pRc (σ p 0) (nV tx n9 0 (σ p 0 - 1) (kE tx n9 (kE tx n9 i))) (nV tx n9 (nV tx n9 0 (σ p 0 - 1) (kE tx n9 (kE tx n9 i))) (σ p 0 - 1) (kE tx n9 (kE tx n9 (kE tx n9 (kE tx n9 i))))) (nV tx n9 0 (σ p 1 - 1) (kE tx n9 (kE tx n9 (kE tx n9 i)))) v u c then σ p 4 else σ (p + 2) c) ∧ σ p 4 < 3 ∧ nV tx n9 0 (σ p 1 - 1) (kE tx n9 (kE tx n9 (kE tx n9 i))) ≤ v ∧ v ≤ nV tx n9 (nV tx n9 0 (σ p 1 - 1) (kE tx n9 (kE tx n9 (kE tx n9 i)))) (σ p 1 - 1) (kE tx n9 (kE tx n9 (kE tx n9 (kE tx n9 (kE tx n9 i))))) ∧ nV tx n9 0 (σ p 0 - 1) (kE tx n9 (kE tx n9 i)) ≤ u ∧ u ≤ nV tx n9 (nV tx n9 0 (σ p 0 - 1) (kE tx n9 (kE tx n9 i))) (σ p 0 - 1) (kE tx n9 (kE tx n9 (kE tx n9 (kE tx n9 i)))) + 1) ∧ n = ((20 - v) * 100 + 20 - u).toNat)) ?_ ?_
  · skip
    conv => whnf
    refine ⟨(by first | assumption | rfl), ?_⟩
    try simp (disch := omega) only [Int.cast_ofNat_Int, up_s, up_a, up_i, mp_a, mp_ge]
    try simp only [t3]
    try simp only [t4]
    try simp only [m3]
    try simp only [m5]
    try simp only [w0]
    try simp only [w1]
    try simp only [w4]
    conv => whnf
    refine ⟨(by first | assumption | rfl), ?_⟩
    try simp (disch := omega) only [Int.cast_ofNat_Int, up_s, up_a, up_i, mp_a, mp_ge]
    try simp only [t3]
    try simp only [t4]
    try simp only [m3]
    try simp only [m5]
    try simp only [w0]
    try simp only [w1]
    try simp only [w4]
    conv => whnf
    refine ⟨fun g => ?_, fun g => ?_⟩
    · simp only [sx_cc, Classical.not_not] at g
      conv => whnf
      refine ⟨(by first | assumption | rfl), by omega, ?_⟩
      try simp (disch := omega) only [Int.cast_ofNat_Int, up_s, up_a, up_i, mp_a, mp_ge]
      try simp only [t3]
      try simp only [t4]
      try simp only [m3]
      try simp only [m5]
      try simp only [w0]
      try simp only [w1]
      try simp only [w4]
      conv => whnf
      refine ⟨Nat.le_of_ble_eq_true rfl, Nat.le_of_ble_eq_true rfl, (by first | assumption | rfl), ?_⟩
      refine c_Tname hw (cQ_up hq (by unfold FPd; omega)) (fun σ3 hf3 hq3 => ?_)
      clear t3 t4 t5 m3 m5
      have t3 := pt_32_3 hq3.pt
      have t4 := hq3.ep
      have t5 := pt_32_5 hq3.pt
      have m3 := ptP_3 hq3.pt hq3.1
      have m5 := ptP_5 hq3.pt hq3.1
      have w0 : σ3 p 0 = σ p 0 := ((hf3 p 0 (nx_lt pl)).trans (up_a pn32))
      have w1 : σ3 p 1 = σ p 1 := ((hf3 p 1 (nx_lt pl)).trans (up_a pn32))
      have w4 : σ3 p 4 = σ p 4 := ((hf3 p 4 (nx_lt pl)).trans (up_a pn32))
      have r3 : σ3 (p + 3) = σ (p + 3) := funext (fun j => ((hf3 (p + 3) j (nx_lt pl3)).trans (up_a (by omega))))
      conv => whnf
      refine ⟨(by first | assumption | rfl), ?_⟩
      try simp (disch := omega) only [Int.cast_ofNat_Int, up_s, up_a, up_i, mp_a, mp_ge]
      try simp only [t3]
      try simp only [t4]
      try simp only [m3]
      try simp only [m5]
      try simp only [w0]
      try simp only [w1]
      try simp only [w4]
      conv => whnf
      refine ⟨Nat.le_of_ble_eq_true rfl, Nat.le_of_ble_eq_true rfl, (by first | assumption | rfl), ?_⟩
      refine c_Pfarmby hq3.pt hq3.1 (by rw [w4]; omega) ?_
      rw [r3, w4]
      conv => whnf
      refine ⟨fun g => ?_, fun g => ?_⟩
      · simp only [sx_cc, Classical.not_not] at g
        have f9 := fBq_0 (k := 3) (s := kS tx n9 (kE tx n9 i)) (b := ¬ fFind (σ (p + 3)) (aV tx n9 (kE tx n9 i)) (σ p 4).toNat = -1) (by omega)
        obtain ⟨σ4, e9, hf4, hq4⟩ : ∃ s9, σ3 = s9 ∧ fr FFl σ3 s9 ∧ cQ p s9 tx n9 (kE tx n9 i) (Option.or (Option.or none (aF tx n9 (kE tx n9 i))) (fBq (¬ fFind (σ (p + 3)) (aV tx n9 (kE tx n9 i)) (σ p 4).toNat = -1) 3 (kS tx n9 (kE tx n9 i)))) := ⟨σ3, rfl, fun _ _ _ => rfl, by rw [f9, Option.or_none]; exact hq3⟩
        rw [e9]
        clear t3 t4 t5 m3 m5
        have t3 := pt_32_3 hq4.pt
        have t4 := hq4.ep
        have t5 := pt_32_5 hq4.pt
        have m3 := ptP_3 hq4.pt hq4.1
        have m5 := ptP_5 hq4.pt hq4.1
        have w0 : σ4 p 0 = σ p 0 := ((hf4 p 0 (ff_lt pl))).trans w0
        have w1 : σ4 p 1 = σ p 1 := ((hf4 p 1 (ff_lt pl))).trans w1
        have w4 : σ4 p 4 = σ p 4 := ((hf4 p 4 (ff_lt pl))).trans w4
        have r3 : σ4 (p + 3) = σ (p + 3) := funext (fun j => ((hf4 (p + 3) j (ff_lt pl3))).trans (congrFun r3 j))
        conv => whnf
        refine ⟨(by first | assumption | rfl), ?_⟩
        try simp (disch := omega) only [Int.cast_ofNat_Int, up_s, up_a, up_i, mp_a, mp_ge]
        try simp only [t3]
        try simp only [t4]
        try simp only [m3]
        try simp only [m5]
        try simp only [w0]
        try simp only [w1]
        try simp only [w4]
        conv => whnf
        refine ⟨(by first | assumption | rfl), ?_⟩
        try simp (disch := omega) only [Int.cast_ofNat_Int, up_s, up_a, up_i, mp_a, mp_ge]
        try simp only [t3]
        try simp only [t4]
        try simp only [m3]
        try simp only [m5]
        try simp only [w0]
        try simp only [w1]
        try simp only [w4]
        conv => whnf
        refine ⟨⟨by omega, by omega⟩, ?_⟩
        conv => whnf
        refine ⟨Nat.le_of_ble_eq_true rfl, Nat.le_of_ble_eq_true rfl, (by first | assumption | rfl), ?_⟩
        refine c_Tnxt hw hq4 (by omega) (fun σ5 hf5 hq5 => ?_)
        clear t3 t4 t5 m3 m5
        have t3 := pt_32_3 hq5.pt
        have t4 := hq5.ep
        have t5 := pt_32_5 hq5.pt
        have m3 := ptP_3 hq5.pt hq5.1
        have m5 := ptP_5 hq5.pt hq5.1
        have w0 : σ5 p 0 = σ p 0 := ((hf5 p 0 (nx_lt pl))).trans w0
        have w1 : σ5 p 1 = σ p 1 := ((hf5 p 1 (nx_lt pl))).trans w1
        have w4 : σ5 p 4 = σ p 4 := ((hf5 p 4 (nx_lt pl))).trans w4
        conv => whnf
        refine ⟨(by first | assumption | rfl), ?_⟩
        try simp (disch := omega) only [Int.cast_ofNat_Int, up_s, up_a, up_i, mp_a, mp_ge]
        try simp only [t3]
        try simp only [t4]
        try simp only [m3]
        try simp only [m5]
        try simp only [w0]
        try simp only [w1]
        try simp only [w4]
        conv => whnf
        refine ⟨(by first | assumption | rfl), ?_⟩
        try simp (disch := omega) only [Int.cast_ofNat_Int, up_s, up_a, up_i, mp_a, mp_ge]
        try simp only [t3]
        try simp only [t4]
        try simp only [m3]
        try simp only [m5]
        try simp only [w0]
        try simp only [w1]
        try simp only [w4]
        conv => whnf
        refine ⟨⟨by omega, by omega⟩, ?_⟩
        conv => whnf
        refine ⟨Nat.le_of_ble_eq_true rfl, Nat.le_of_ble_eq_true rfl, (by first | assumption | rfl), ?_⟩
        refine c_Tnxt hw hq5 (by omega) (fun σ6 hf6 hq6 => ?_)
        clear t3 t4 t5 m3 m5
        have t3 := pt_32_3 hq6.pt
        have t4 := hq6.ep
        have t5 := pt_32_5 hq6.pt
        have m3 := ptP_3 hq6.pt hq6.1
        have m5 := ptP_5 hq6.pt hq6.1
        have w0 : σ6 p 0 = σ p 0 := ((hf6 p 0 (nx_lt pl))).trans w0
        have w1 : σ6 p 1 = σ p 1 := ((hf6 p 1 (nx_lt pl))).trans w1
        have w4 : σ6 p 4 = σ p 4 := ((hf6 p 4 (nx_lt pl))).trans w4
        conv => whnf
        refine ⟨(by first | assumption | rfl), ?_⟩
        try simp (disch := omega) only [Int.cast_ofNat_Int, up_s, up_a, up_i, mp_a, mp_ge]
        try simp only [t3]
        try simp only [t4]
        try simp only [m3]
        try simp only [m5]
        try simp only [w0]
        try simp only [w1]
        try simp only [w4]
        conv => whnf
        refine ⟨(by first | assumption | rfl), ?_⟩
        try simp (disch := omega) only [Int.cast_ofNat_Int, up_s, up_a, up_i, mp_a, mp_ge]
        try simp only [t3]
        try simp only [t4]
        try simp only [m3]
        try simp only [m5]
        try simp only [w0]
        try simp only [w1]
        try simp only [w4]
        conv => whnf
        refine ⟨⟨by omega, by omega⟩, ?_⟩
        conv => whnf
        refine ⟨Nat.le_of_ble_eq_true rfl, Nat.le_of_ble_eq_true rfl, (by first | assumption | rfl), ?_⟩
        refine c_Tnxt hw hq6 (by omega) (fun σ7 hf7 hq7 => ?_)
        clear t3 t4 t5 m3 m5
        have t3 := pt_32_3 hq7.pt
        have t4 := hq7.ep
        have t5 := pt_32_5 hq7.pt
        have m3 := ptP_3 hq7.pt hq7.1
        have m5 := ptP_5 hq7.pt hq7.1
        have w0 : σ7 p 0 = σ p 0 := ((hf7 p 0 (nx_lt pl))).trans w0
        have w1 : σ7 p 1 = σ p 1 := ((hf7 p 1 (nx_lt pl))).trans w1
        have w4 : σ7 p 4 = σ p 4 := ((hf7 p 4 (nx_lt pl))).trans w4
        conv => whnf
        refine ⟨(by first | assumption | rfl), ?_⟩
        try simp (disch := omega) only [Int.cast_ofNat_Int, up_s, up_a, up_i, mp_a, mp_ge]
        try simp only [t3]
        try simp only [t4]
        try simp only [m3]
        try simp only [m5]
        try simp only [w0]
        try simp only [w1]
        try simp only [w4]
        conv => whnf
        refine ⟨(by first | assumption | rfl), ?_⟩
        try simp (disch := omega) only [Int.cast_ofNat_Int, up_s, up_a, up_i, mp_a, mp_ge]
        try simp only [t3]
        try simp only [t4]
        try simp only [m3]
        try simp only [m5]
        try simp only [w0]
        try simp only [w1]
        try simp only [w4]
        conv => whnf
        refine ⟨⟨by omega, by omega⟩, ?_⟩
        conv => whnf
        refine ⟨Nat.le_of_ble_eq_true rfl, Nat.le_of_ble_eq_true rfl, (by first | assumption | rfl), ?_⟩
        refine c_Tnxt hw hq7 (by omega) (fun σ8 hf8 hq8 => ?_)
        clear t3 t4 t5 m3 m5
        have t3 := pt_32_3 hq8.pt
        have t4 := hq8.ep
        have t5 := pt_32_5 hq8.pt
        have m3 := ptP_3 hq8.pt hq8.1
        have m5 := ptP_5 hq8.pt hq8.1
        have w0 : σ8 p 0 = σ p 0 := ((hf8 p 0 (nx_lt pl))).trans w0
        have w1 : σ8 p 1 = σ p 1 := ((hf8 p 1 (nx_lt pl))).trans w1
        have w4 : σ8 p 4 = σ p 4 := ((hf8 p 4 (nx_lt pl))).trans w4
        conv => whnf
        refine ⟨_, Or.inl ⟨rfl, _, _, rfl, rfl, ?_, rfl⟩⟩
        obtain ⟨c0, c1⟩ := c_Tfarm_v hp hf3 hf4 hf5 hf6 hf7 hf8
        exact ⟨σ8, c0, by unfold zFarm; simpa only [Option.none_or, Option.or_assoc] using hq8, c1, fun _ _ _ => rfl, fun c => by rw [if_neg pRc_0]; exact c0 _ _ (by unfold FZ9 FNx; omega), by omega, by omega, by omega⟩
      · simp only [sx_cc, Classical.not_not] at g
        have f9 := fBq_1 (k := 3) (s := kS tx n9 (kE tx n9 i)) (b := ¬ fFind (σ (p + 3)) (aV tx n9 (kE tx n9 i)) (σ p 4).toNat = -1) (by omega)
        conv => whnf
        refine ⟨Nat.le_of_ble_eq_true rfl, Nat.le_of_ble_eq_true rfl, (by first | assumption | rfl), ?_⟩
        refine c_Tfail hq3 (by decide) (fun σ4 hf4 hq4 => ?_)
        rw [← f9] at hq4
        clear t3 t4 t5 m3 m5
        have t3 := pt_32_3 hq4.pt
        have t4 := hq4.ep
        have t5 := pt_32_5 hq4.pt
        have m3 := ptP_3 hq4.pt hq4.1
        have m5 := ptP_5 hq4.pt hq4.1
        have w0 : σ4 p 0 = σ p 0 := ((hf4 p 0 (ff_lt pl))).trans w0
        have w1 : σ4 p 1 = σ p 1 := ((hf4 p 1 (ff_lt pl))).trans w1
        have w4 : σ4 p 4 = σ p 4 := ((hf4 p 4 (ff_lt pl))).trans w4
        have r3 : σ4 (p + 3) = σ (p + 3) := funext (fun j => ((hf4 (p + 3) j (ff_lt pl3))).trans (congrFun r3 j))
        conv => whnf
        refine ⟨(by first | assumption | rfl), ?_⟩
        try simp (disch := omega) only [Int.cast_ofNat_Int, up_s, up_a, up_i, mp_a, mp_ge]
        try simp only [t3]
        try simp only [t4]
        try simp only [m3]
        try simp only [m5]
        try simp only [w0]
        try simp only [w1]
        try simp only [w4]
        conv => whnf
        refine ⟨(by first | assumption | rfl), ?_⟩
        try simp (disch := omega) only [Int.cast_ofNat_Int, up_s, up_a, up_i, mp_a, mp_ge]
        try simp only [t3]
        try simp only [t4]
        try simp only [m3]
        try simp only [m5]
        try simp only [w0]
        try simp only [w1]
        try simp only [w4]
        conv => whnf
        refine ⟨⟨by omega, by omega⟩, ?_⟩
        conv => whnf
        refine ⟨Nat.le_of_ble_eq_true rfl, Nat.le_of_ble_eq_true rfl, (by first | assumption | rfl), ?_⟩
        refine c_Tnxt hw hq4 (by omega) (fun σ5 hf5 hq5 => ?_)
        clear t3 t4 t5 m3 m5
        have t3 := pt_32_3 hq5.pt
        have t4 := hq5.ep
        have t5 := pt_32_5 hq5.pt
        have m3 := ptP_3 hq5.pt hq5.1
        have m5 := ptP_5 hq5.pt hq5.1
        have w0 : σ5 p 0 = σ p 0 := ((hf5 p 0 (nx_lt pl))).trans w0
        have w1 : σ5 p 1 = σ p 1 := ((hf5 p 1 (nx_lt pl))).trans w1
        have w4 : σ5 p 4 = σ p 4 := ((hf5 p 4 (nx_lt pl))).trans w4
        conv => whnf
        refine ⟨(by first | assumption | rfl), ?_⟩
        try simp (disch := omega) only [Int.cast_ofNat_Int, up_s, up_a, up_i, mp_a, mp_ge]
        try simp only [t3]
        try simp only [t4]
        try simp only [m3]
        try simp only [m5]
        try simp only [w0]
        try simp only [w1]
        try simp only [w4]
        conv => whnf
        refine ⟨(by first | assumption | rfl), ?_⟩
        try simp (disch := omega) only [Int.cast_ofNat_Int, up_s, up_a, up_i, mp_a, mp_ge]
        try simp only [t3]
        try simp only [t4]
        try simp only [m3]
        try simp only [m5]
        try simp only [w0]
        try simp only [w1]
        try simp only [w4]
        conv => whnf
        refine ⟨⟨by omega, by omega⟩, ?_⟩
        conv => whnf
        refine ⟨Nat.le_of_ble_eq_true rfl, Nat.le_of_ble_eq_true rfl, (by first | assumption | rfl), ?_⟩
        refine c_Tnxt hw hq5 (by omega) (fun σ6 hf6 hq6 => ?_)
        clear t3 t4 t5 m3 m5
        have t3 := pt_32_3 hq6.pt
        have t4 := hq6.ep
        have t5 := pt_32_5 hq6.pt
        have m3 := ptP_3 hq6.pt hq6.1
        have m5 := ptP_5 hq6.pt hq6.1
        have w0 : σ6 p 0 = σ p 0 := ((hf6 p 0 (nx_lt pl))).trans w0
        have w1 : σ6 p 1 = σ p 1 := ((hf6 p 1 (nx_lt pl))).trans w1
        have w4 : σ6 p 4 = σ p 4 := ((hf6 p 4 (nx_lt pl))).trans w4
        conv => whnf
        refine ⟨(by first | assumption | rfl), ?_⟩
        try simp (disch := omega) only [Int.cast_ofNat_Int, up_s, up_a, up_i, mp_a, mp_ge]
        try simp only [t3]
        try simp only [t4]
        try simp only [m3]
        try simp only [m5]
        try simp only [w0]
        try simp only [w1]
        try simp only [w4]
        conv => whnf
        refine ⟨(by first | assumption | rfl), ?_⟩
        try simp (disch := omega) only [Int.cast_ofNat_Int, up_s, up_a, up_i, mp_a, mp_ge]
        try simp only [t3]
        try simp only [t4]
        try simp only [m3]
        try simp only [m5]
        try simp only [w0]
        try simp only [w1]
        try simp only [w4]
        conv => whnf
        refine ⟨⟨by omega, by omega⟩, ?_⟩
        conv => whnf
        refine ⟨Nat.le_of_ble_eq_true rfl, Nat.le_of_ble_eq_true rfl, (by first | assumption | rfl), ?_⟩
        refine c_Tnxt hw hq6 (by omega) (fun σ7 hf7 hq7 => ?_)
        clear t3 t4 t5 m3 m5
        have t3 := pt_32_3 hq7.pt
        have t4 := hq7.ep
        have t5 := pt_32_5 hq7.pt
        have m3 := ptP_3 hq7.pt hq7.1
        have m5 := ptP_5 hq7.pt hq7.1
        have w0 : σ7 p 0 = σ p 0 := ((hf7 p 0 (nx_lt pl))).trans w0
        have w1 : σ7 p 1 = σ p 1 := ((hf7 p 1 (nx_lt pl))).trans w1
        have w4 : σ7 p 4 = σ p 4 := ((hf7 p 4 (nx_lt pl))).trans w4
        conv => whnf
        refine ⟨(by first | assumption | rfl), ?_⟩
        try simp (disch := omega) only [Int.cast_ofNat_Int, up_s, up_a, up_i, mp_a, mp_ge]
        try simp only [t3]
        try simp only [t4]
        try simp only [m3]
        try simp only [m5]
        try simp only [w0]
        try simp only [w1]
        try simp only [w4]
        conv => whnf
        refine ⟨(by first | assumption | rfl), ?_⟩
        try simp (disch := omega) only [Int.cast_ofNat_Int, up_s, up_a, up_i, mp_a, mp_ge]
        try simp only [t3]
        try simp only [t4]
        try simp only [m3]
        try simp only [m5]
        try simp only [w0]
        try simp only [w1]
        try simp only [w4]
        conv => whnf
        refine ⟨⟨by omega, by omega⟩, ?_⟩
        conv => whnf
        refine ⟨Nat.le_of_ble_eq_true rfl, Nat.le_of_ble_eq_true rfl, (by first | assumption | rfl), ?_⟩
        refine c_Tnxt hw hq7 (by omega) (fun σ8 hf8 hq8 => ?_)
        clear t3 t4 t5 m3 m5
        have t3 := pt_32_3 hq8.pt
        have t4 := hq8.ep
        have t5 := pt_32_5 hq8.pt
        have m3 := ptP_3 hq8.pt hq8.1
        have m5 := ptP_5 hq8.pt hq8.1
        have w0 : σ8 p 0 = σ p 0 := ((hf8 p 0 (nx_lt pl))).trans w0
        have w1 : σ8 p 1 = σ p 1 := ((hf8 p 1 (nx_lt pl))).trans w1
        have w4 : σ8 p 4 = σ p 4 := ((hf8 p 4 (nx_lt pl))).trans w4
        conv => whnf
        refine ⟨_, Or.inl ⟨rfl, _, _, rfl, rfl, ?_, rfl⟩⟩
        obtain ⟨c0, c1⟩ := c_Tfarm_v hp hf3 hf4 hf5 hf6 hf7 hf8
        exact ⟨σ8, c0, by unfold zFarm; simpa only [Option.none_or, Option.or_assoc] using hq8, c1, fun _ _ _ => rfl, fun c => by rw [if_neg pRc_0]; exact c0 _ _ (by unfold FZ9 FNx; omega), by omega, by omega, by omega⟩
    · simp only [sx_cc, Classical.not_not] at g
      conv => whnf
      refine ⟨Nat.le_of_ble_eq_true rfl, Nat.le_of_ble_eq_true rfl, (by first | assumption | rfl), ?_⟩
      refine c_Tfail hq (by decide) (fun σ3 hf3 hq3 => ?_)
      conv => whnf
      refine ⟨rfl, ?_⟩
      exact h0 (by omega) _ hf3 hq3
  · intro n t L st σ' hk
    rcases hk with hk | hk
    · obtain ⟨rfl, v, w7, rfl, rfl, hc, rfl⟩ := hk
      obtain ⟨σ8, hf8, hq8, h9, hg, hv, hfa, hv0, hv1⟩ := hc
      have hq9 : cQ p σ' tx n9 (kE tx n9 (kE tx n9 (kE tx n9 (kE tx n9 (kE tx n9 i))))) (zFarm p σ tx n9 i) := cQ_of hq8 (fun a j z9 => hg a j (by unfold FPd at z9; omega))
      clear t3 t4 t5 m3 m5
      have t3 := pt_32_3 hq9.pt
      have t4 := hq9.ep
      have m3 := ptP_3 hq9.pt hq9.1
      have m5 := ptP_5 hq9.pt hq9.1
      have w0 : σ' p 0 = σ p 0 := (hg p 0 (by omega)).trans (hf8 p 0 (by unfold FZ9 FNx; omega))
      have w4 : σ' p 4 = σ p 4 := (hg p 4 (by omega)).trans (hf8 p 4 (by unfold FZ9 FNx; omega))
      conv => whnf
      refine ⟨fun g => ?_, fun g => ?_⟩
      · simp only [sx_cc, Classical.not_not] at g
        conv => whnf
        refine ⟨(by first | assumption | rfl), ?_⟩
        try simp (disch := omega) only [Int.cast_ofNat_Int, up_s, up_a, up_i, mp_a, mp_ge]
        try simp only [t3]
        try simp only [t4]
        try simp only [m3]
        try simp only [m5]
        try simp only [w0]
        try simp only [w1]
        try simp only [w4]
        conv => whnf
        refine ⟨(by first | assumption | rfl), ?_⟩
        try simp (disch := omega) only [Int.cast_ofNat_Int, up_s, up_a, up_i, mp_a, mp_ge]
        try simp only [t3]
        try simp only [t4]
        try simp only [m3]
        try simp only [m5]
        try simp only [w0]
        try simp only [w1]
        try simp only [w4]
        conv => whnf
        refine ⟨(by first | assumption | rfl), ?_⟩
        try simp (disch := omega) only [Int.cast_ofNat_Int, up_s, up_a, up_i, mp_a, mp_ge]
        try simp only [t3]
        try simp only [t4]
        try simp only [m3]
        try simp only [m5]
        try simp only [w0]
        try simp only [w1]
        try simp only [w4]
        conv => whnf
        refine ⟨(by first | assumption | rfl), ?_⟩
        try simp (disch := omega) only [Int.cast_ofNat_Int, up_s, up_a, up_i, mp_a, mp_ge]
        try simp only [t3]
        try simp only [t4]
        try simp only [m3]
        try simp only [m5]
        try simp only [w0]
        try simp only [w1]
        try simp only [w4]
        conv => whnf
        refine ⟨sx_ixI (by first | assumption | rfl) (by omega) (by omega), ?_⟩
        conv => whnf
        refine ⟨(by first | assumption | rfl), ?_⟩
        try simp (disch := omega) only [Int.cast_ofNat_Int, up_s, up_a, up_i, mp_a, mp_ge]
        try simp only [t3]
        try simp only [t4]
        try simp only [m3]
        try simp only [m5]
        try simp only [w0]
        try simp only [w1]
        try simp only [w4]
        conv => whnf
        refine ⟨(by first | assumption | rfl), ?_⟩
        try simp (disch := omega) only [Int.cast_ofNat_Int, up_s, up_a, up_i, mp_a, mp_ge]
        try simp only [t3]
        try simp only [t4]
        try simp only [m3]
        try simp only [m5]
        try simp only [w0]
        try simp only [w1]
        try simp only [w4]
        conv => whnf
        refine ⟨⟨by omega, by omega⟩, ?_⟩
        conv => whnf
        refine ⟨(by first | assumption | rfl), ?_⟩
        try simp (disch := omega) only [Int.cast_ofNat_Int, up_s, up_a, up_i, mp_a, mp_ge]
        try simp only [t3]
        try simp only [t4]
        try simp only [m3]
        try simp only [m5]
        try simp only [w0]
        try simp only [w1]
        try simp only [w4]
        conv => whnf
        refine ⟨(by first | assumption | rfl), ?_⟩
        try simp (disch := omega) only [Int.cast_ofNat_Int, up_s, up_a, up_i, mp_a, mp_ge]
        try simp only [t3]
        try simp only [t4]
        try simp only [m3]
        try simp only [m5]
        try simp only [w0]
        try simp only [w1]
        try simp only [w4]
        conv => whnf
        refine ⟨Nat.le_of_ble_eq_true rfl, Nat.le_of_ble_eq_true rfl, (by first | assumption | rfl), ?_⟩
        refine c_Tadv hw (cQ_up (cQ_up hq9 (by unfold FPd; omega)) (by unfold FPd; omega)) (fun σ11 hf11 hq11 => ?_)
        conv => whnf
        refine ⟨rfl, ?_⟩
        have ev : v = nV tx n9 (nV tx n9 0 (σ p 1 - 1) (kE tx n9 (kE tx n9 (kE tx n9 i)))) (σ p 1 - 1) (kE tx n9 (kE tx n9 (kE tx n9 (kE tx n9 (kE tx n9 i))))) + 1 := by omega
        subst ev
        refine h (by omega) _ (fun a j z9 => by unfold FZm FNx at z9; rw [hf11 a j (by unfold FXa; omega), up_n (by omega), up_n (by omega), hg a j (by omega), hf8 a j (by unfold FZ9 FNx; omega)]) hq11 (by rw [hf11 _ _ (by unfold FXa; omega), up_n (by omega), up_n (by omega), hg _ _ (by omega)]; exact h9) (fun c => by rw [hf11 _ _ (by unfold FXa; omega), up_n (by omega), up_n (by omega)]; exact hv c) (by rw [hf11 _ _ (by unfold FXa; omega), up_n (by omega), up_s]) (by rw [hf11 _ _ (by unfold FXa; omega), up_s])
      · simp only [sx_cc, Classical.not_not] at g
        conv => whnf
        refine ⟨_, ?_, Or.inr (⟨rfl, _, _, rfl, rfl, ?_, rfl⟩)⟩
        · omega
        · exact ⟨σ8, hf8, hq8, h9, hg, hv, hfa, hv0, by omega, by omega, by omega⟩
    · obtain ⟨rfl, v, u, rfl, rfl, hc, rfl⟩ := hk
      obtain ⟨σ8, hf8, hq8, h9, hg, hv, hfa, hv0, hv1, hu0, hu1⟩ := hc
      have hq9 : cQ p σ' tx n9 (kE tx n9 (kE tx n9 (kE tx n9 (kE tx n9 (kE tx n9 i))))) (zFarm p σ tx n9 i) := cQ_of hq8 (fun a j z9 => hg a j (by unfold FPd at z9; omega))
      clear t3 t4 t5 m3 m5
      have t3 := pt_32_3 hq9.pt
      have t4 := hq9.ep
      have m3 := ptP_3 hq9.pt hq9.1
      have m5 := ptP_5 hq9.pt hq9.1
      have w0 : σ' p 0 = σ p 0 := (hg p 0 (by omega)).trans (hf8 p 0 (by unfold FZ9 FNx; omega))
      have w4 : σ' p 4 = σ p 4 := (hg p 4 (by omega)).trans (hf8 p 4 (by unfold FZ9 FNx; omega))
      have zcb := fun hu2 : u ≤ nV tx n9 (nV tx n9 0 (σ p 0 - 1) (kE tx n9 (kE tx n9 i))) (σ p 0 - 1) (kE tx n9 (kE tx n9 (kE tx n9 (kE tx n9 i)))) => cell_bd (x := u) (y := v) z0 z1 (by omega) (by omega)
      conv => whnf
      refine ⟨fun g => ?_, fun g => ?_⟩
      · simp only [sx_cc, Classical.not_not] at g
        conv => whnf
        refine ⟨⟨by omega, by omega⟩, ?_⟩
        conv => whnf
        refine ⟨_, ?_, Or.inl ⟨rfl, _, _, rfl, rfl, ?_, rfl⟩⟩
        · omega
        · have eu : u = nV tx n9 (nV tx n9 0 (σ p 0 - 1) (kE tx n9 (kE tx n9 i))) (σ p 0 - 1) (kE tx n9 (kE tx n9 (kE tx n9 (kE tx n9 i)))) + 1 := by omega
          subst eu
          refine ⟨σ8, hf8, hq8, h9, hg, fun c => ?_, hfa, by omega, by omega⟩
          rw [hv c]
          have hk := pRc_r (w := σ p 0) (x := nV tx n9 0 (σ p 0 - 1) (kE tx n9 (kE tx n9 i))) (x2 := nV tx n9 (nV tx n9 0 (σ p 0 - 1) (kE tx n9 (kE tx n9 i))) (σ p 0 - 1) (kE tx n9 (kE tx n9 (kE tx n9 (kE tx n9 i))))) (y := nV tx n9 0 (σ p 1 - 1) (kE tx n9 (kE tx n9 (kE tx n9 i)))) (v := v) (c := c) hv0
          by_cases e8 : pRc (σ p 0) (nV tx n9 0 (σ p 0 - 1) (kE tx n9 (kE tx n9 i))) (nV tx n9 (nV tx n9 0 (σ p 0 - 1) (kE tx n9 (kE tx n9 i))) (σ p 0 - 1) (kE tx n9 (kE tx n9 (kE tx n9 (kE tx n9 i))))) (nV tx n9 0 (σ p 1 - 1) (kE tx n9 (kE tx n9 (kE tx n9 i)))) v (nV tx n9 (nV tx n9 0 (σ p 0 - 1) (kE tx n9 (kE tx n9 i))) (σ p 0 - 1) (kE tx n9 (kE tx n9 (kE tx n9 (kE tx n9 i)))) + 1) c
          · rw [if_pos e8, if_pos (hk.mp e8)]
          · rw [if_neg e8, if_neg (fun z => e8 (hk.mpr z))]
      · simp only [sx_cc, Classical.not_not] at g
        have zcb := zcb (by omega)
        conv => whnf
        refine ⟨(by first | assumption | rfl), ?_⟩
        try simp (disch := omega) only [Int.cast_ofNat_Int, up_s, up_a, up_i, mp_a, mp_ge]
        try simp only [t3]
        try simp only [t4]
        try simp only [m3]
        try simp only [m5]
        try simp only [w0]
        try simp only [w1]
        try simp only [w4]
        conv => whnf
        refine ⟨(by first | assumption | rfl), ?_⟩
        try simp (disch := omega) only [Int.cast_ofNat_Int, up_s, up_a, up_i, mp_a, mp_ge]
        try simp only [t3]
        try simp only [t4]
        try simp only [m3]
        try simp only [m5]
        try simp only [w0]
        try simp only [w1]
        try simp only [w4]
        conv => whnf
        refine ⟨(by first | assumption | rfl), ?_⟩
        try simp (disch := omega) only [Int.cast_ofNat_Int, up_s, up_a, up_i, mp_a, mp_ge]
        try simp only [t3]
        try simp only [t4]
        try simp only [m3]
        try simp only [m5]
        try simp only [w0]
        try simp only [w1]
        try simp only [w4]
        conv => whnf
        refine ⟨(by first | assumption | rfl), ?_⟩
        try simp (disch := omega) only [Int.cast_ofNat_Int, up_s, up_a, up_i, mp_a, mp_ge]
        try simp only [t3]
        try simp only [t4]
        try simp only [m3]
        try simp only [m5]
        try simp only [w0]
        try simp only [w1]
        try simp only [w4]
        conv => whnf
        refine ⟨⟨by omega, by omega⟩, ?_⟩
        conv => whnf
        refine ⟨⟨by omega, by omega⟩, ?_⟩
        conv => whnf
        refine ⟨(by first | assumption | rfl), ?_⟩
        try simp (disch := omega) only [Int.cast_ofNat_Int, up_s, up_a, up_i, mp_a, mp_ge]
        try simp only [t3]
        try simp only [t4]
        try simp only [m3]
        try simp only [m5]
        try simp only [w0]
        try simp only [w1]
        try simp only [w4]
        conv => whnf
        refine ⟨(by first | assumption | rfl), ?_⟩
        try simp (disch := omega) only [Int.cast_ofNat_Int, up_s, up_a, up_i, mp_a, mp_ge]
        try simp only [t3]
        try simp only [t4]
        try simp only [m3]
        try simp only [m5]
        try simp only [w0]
        try simp only [w1]
        try simp only [w4]
        conv => whnf
        refine ⟨sx_ixI (by first | assumption | rfl) (by omega) (by omega), ?_⟩
        conv => whnf
        refine ⟨⟨by omega, by omega⟩, ?_⟩
        conv => whnf
        refine ⟨_, ?_, Or.inr (⟨rfl, _, _, rfl, rfl, ?_, rfl⟩)⟩
        · omega
        · refine ⟨σ8, hf8, hq8, h9, fun a j z9 => by rw [up_a z9]; exact hg a j z9, fun c => ?_, hfa, hv0, by omega, by omega, by omega⟩
          have hk := pRc_s (w := σ p 0) (x := nV tx n9 0 (σ p 0 - 1) (kE tx n9 (kE tx n9 i))) (x2 := nV tx n9 (nV tx n9 0 (σ p 0 - 1) (kE tx n9 (kE tx n9 i))) (σ p 0 - 1) (kE tx n9 (kE tx n9 (kE tx n9 (kE tx n9 i))))) (y := nV tx n9 0 (σ p 1 - 1) (kE tx n9 (kE tx n9 (kE tx n9 i)))) (v := v) (u := u) (c := c) (by omega) (by omega) (by omega)
          by_cases e9 : c = v * σ p 0 + u
          · rw [e9, up_s, if_pos (by rw [← e9]; exact hk.mpr (Or.inl e9))]
          · rw [up_i e9, hv c]
            by_cases e8 : pRc (σ p 0) (nV tx n9 0 (σ p 0 - 1) (kE tx n9 (kE tx n9 i))) (nV tx n9 (nV tx n9 0 (σ p 0 - 1) (kE tx n9 (kE tx n9 i))) (σ p 0 - 1) (kE tx n9 (kE tx n9 (kE tx n9 (kE tx n9 i))))) (nV tx n9 0 (σ p 1 - 1) (kE tx n9 (kE tx n9 (kE tx n9 i)))) v u c
            · rw [if_pos e8, if_pos (hk.mpr (Or.inr e8))]
            · rw [if_neg e8, if_neg (fun z => by rcases hk.mp z with z | z; exact e9 z; exact e8 z)]
end SXP4
