/-! THE LEXER: a number, class side (by wip/whole) -/
section SXO6
variable {X : sx_X} {Q : sx_R} {σ σ0 σ' σ1 σ2 : sx_S} {tx : Int → Int} {n9 : Int}
/-- the value of the first k digits from i on -/
def fNuc (tx : Int → Int) (i : Int) : Nat → Int
  | 0 => 0
  | k + 1 => if 10 * fNuc tx i k + (tx (i + k) - 48) < 1000000 then 10 * fNuc tx i k + (tx (i + k) - 48) else 1000000
theorem fNuc_s {i e : Int} (h : i ≤ e) : fNuc tx i (e + 1 - i).toNat = if 10 * fNuc tx i (e - i).toNat + (tx e - 48) < 1000000 then 10 * fNuc tx i (e - i).toNat + (tx e - 48) else 1000000 := by
  rw [show (e + 1 - i).toNat = (e - i).toNat + 1 by omega]
  show (if 10 * fNuc tx i (e - i).toNat + (tx (i + ((e - i).toNat : Nat)) - 48) < 1000000 then _ else _) = _
  rw [show i + (((e - i).toNat : Nat) : Int) = e by omega]
abbrev FXn (a i : Int) : Prop := a = 33 ∧ (i = 2 ∨ i = 3 ∨ i = 5)
set_option maxRecDepth 20000 in
theorem c_Xnum (hT : PT σ) (hx : pLx σ tx n9) {i : Int} (en : σ 33 2 = i) (hi : 0 ≤ i ∧ i ≤ n9) (h : ∀ (σ' : sx_S) (e : Int), fr FXn σ σ' → i ≤ e → e ≤ n9 → (∀ j : Int, i ≤ j → j < e → pDig (fTx tx n9 j)) → ¬ pDig (fTx tx n9 e) → σ' 33 2 = e → σ' 33 5 = fNuc tx i (e - i).toNat → σ' 33 3 = 21 → Q none shM σ') : sx_Run X 21 [.inr (.inr 33)] shM σ Q := by
  have hn := hx.2.2.1
  refine sx_rule2 (own := 2) (cd := kX2_takeNumber) (nL := 1) (by decide +kernel) (by decide +kernel) kX2_takeNumber_ok (by decide +kernel) (Nat.le_of_ble_eq_true rfl) [5] 40 (fun n t L st _ σ' => (t = 5 ∧ st = [] ∧ L = [some (.inr (.inr (33)))] ∧ (∃ e : Int, fr FXn σ σ' ∧ i ≤ e ∧ e ≤ n9 ∧ (∀ j : Int, i ≤ j → j < e → pDig (fTx tx n9 j)) ∧ σ' 33 2 = e ∧ σ' 33 5 = fNuc tx i (e - i).toNat ∧ (0 ≤ σ' 33 5 ∧ σ' 33 5 ≤ 1000000)) ∧ n = (1000 - σ' 33 2).toNat)) ?_ ?_
  · skip
    conv => whnf
    refine ⟨(by first | assumption | rfl), ?_⟩
    try simp (disch := omega) only [Int.cast_ofNat_Int, up_s, up_a, up_i, mp_a, mp_ge]
    try simp only [x1]
    try simp only [ey]
    conv => whnf
    refine ⟨_, ⟨rfl, rfl, rfl, ?_, rfl⟩⟩
    exact ⟨i, fun a j z9 => by unfold FXn at z9; rw [up_n (by omega)], by omega, by omega, fun j y0 y1 => by omega, by rw [up_i (by decide)]; exact en, by rw [up_s, show (i - i).toNat = 0 by omega]; rfl, by rw [up_s]; decide⟩
  · intro n t L st σ' hk
    obtain ⟨rfl, rfl, rfl, hc, rfl⟩ := hk
    obtain ⟨e, hfi, he0, he1, hdg, ey, ev, evb⟩ := hc
    have hx' : pLx σ' tx n9 := pLx_of hx (fun a j z9 => hfi a j (by unfold FXn; omega))
    have x1 := hx'.2.1
    conv => whnf
    refine ⟨(by first | assumption | rfl), ?_⟩
    try simp (disch := omega) only [Int.cast_ofNat_Int, up_s, up_a, up_i, mp_a, mp_ge]
    try simp only [x1]
    try simp only [ey]
    conv => whnf
    refine ⟨(by first | assumption | rfl), ?_⟩
    try simp (disch := omega) only [Int.cast_ofNat_Int, up_s, up_a, up_i, mp_a, mp_ge]
    try simp only [x1]
    try simp only [ey]
    conv => whnf
    refine ⟨fun g => ?_, fun g => ?_⟩
    · simp only [sx_cc, Classical.not_not] at g
      conv => whnf
      refine ⟨(by first | assumption | rfl), ?_⟩
      try simp (disch := omega) only [Int.cast_ofNat_Int, up_s, up_a, up_i, mp_a, mp_ge]
      try simp only [x1]
      try simp only [ey]
      conv => whnf
      refine ⟨rfl, ?_⟩
      refine h _ e (hfi.trans (fun a j z9 => by unfold FXn at z9; rw [up_n (by omega)])) he0 he1 hdg (by first | exact hd | (rw [show fTx tx n9 e = 0 from if_neg (by omega)]; decide)) (by rw [up_i (by decide)]; exact ey) (by rw [up_i (by decide)]; exact ev) up_s
    · simp only [sx_cc, Classical.not_not] at g
      conv => whnf
      refine ⟨(by first | assumption | rfl), ?_⟩
      try simp (disch := omega) only [Int.cast_ofNat_Int, up_s, up_a, up_i, mp_a, mp_ge]
      try simp only [x1]
      try simp only [ey]
      conv => whnf
      refine ⟨Nat.le_of_ble_eq_true rfl, Nat.le_of_ble_eq_true rfl, (by first | assumption | rfl), ?_⟩
      refine c_Xbyte hx' (i := e) (by omega) ?_
      conv => whnf
      refine ⟨Nat.le_of_ble_eq_true rfl, Nat.le_of_ble_eq_true rfl, ?_⟩
      refine c_Xdigit (fun hd => ?_) (fun hd => ?_)
      · have etx : fTx tx n9 e = tx e := if_pos (by omega)
        conv => whnf
        refine ⟨fun g => ?_, fun g => ?_⟩
        · exact absurd g (by simp [sx_cc])
        · skip
          conv => whnf
          refine ⟨(by first | assumption | rfl), ?_⟩
          try simp (disch := omega) only [Int.cast_ofNat_Int, up_s, up_a, up_i, mp_a, mp_ge]
          try simp only [x1]
          try simp only [ey]
          conv => whnf
          refine ⟨⟨by omega, by omega⟩, ?_⟩
          conv => whnf
          refine ⟨(by first | assumption | rfl), ?_⟩
          try simp (disch := omega) only [Int.cast_ofNat_Int, up_s, up_a, up_i, mp_a, mp_ge]
          try simp only [x1]
          try simp only [ey]
          conv => whnf
          refine ⟨Nat.le_of_ble_eq_true rfl, Nat.le_of_ble_eq_true rfl, (by first | assumption | rfl), ?_⟩
          refine c_Xbyte hx' (i := e) (by omega) ?_
          conv => whnf
          refine ⟨⟨by omega, by omega⟩, ?_⟩
          conv => whnf
          refine ⟨⟨by omega, by omega⟩, ?_⟩
          conv => whnf
          refine ⟨Nat.le_of_ble_eq_true rfl, ?_⟩
          conv => whnf
          refine ⟨(by first | assumption | rfl), ?_⟩
          try simp (disch := omega) only [Int.cast_ofNat_Int, up_s, up_a, up_i, mp_a, mp_ge]
          try simp only [x1]
          try simp only [ey]
          conv => whnf
          refine ⟨(by first | assumption | rfl), ?_⟩
          try simp (disch := omega) only [Int.cast_ofNat_Int, up_s, up_a, up_i, mp_a, mp_ge]
          try simp only [x1]
          try simp only [ey]
          conv => whnf
          refine ⟨⟨by omega, by omega⟩, ?_⟩
          conv => whnf
          refine ⟨(by first | assumption | rfl), ?_⟩
          try simp (disch := omega) only [Int.cast_ofNat_Int, up_s, up_a, up_i, mp_a, mp_ge]
          try simp only [x1]
          try simp only [ey]
          conv => whnf
          refine ⟨_, ?_, ⟨rfl, rfl, rfl, ?_, rfl⟩⟩
          · try rw [up_s]
            try rw [ey]
            omega
          · refine ⟨e + 1, hfi.trans (fun a j z9 => by unfold FXn at z9; rw [up_n (by omega), up_n (by omega)]), by omega, by omega, fun j y0 y1 => ?_, by rw [up_s], ?_, ?_⟩
            · by_cases e9 : j = e
              · rw [e9]; exact hd
              · exact hdg j y0 (by omega)
            · rw [up_i (by decide), up_s, fNuc_s he0, ← ev, ← etx]
              repeat (first | omega | split)
            · rw [up_i (by decide), up_s]
              repeat (first | omega | split)
      · skip
        conv => whnf
        refine ⟨fun g => ?_, fun g => ?_⟩
        · skip
          conv => whnf
          refine ⟨(by first | assumption | rfl), ?_⟩
          try simp (disch := omega) only [Int.cast_ofNat_Int, up_s, up_a, up_i, mp_a, mp_ge]
          try simp only [x1]
          try simp only [ey]
          conv => whnf
          refine ⟨rfl, ?_⟩
          refine h _ e (hfi.trans (fun a j z9 => by unfold FXn at z9; rw [up_n (by omega)])) he0 he1 hdg (by first | exact hd | (rw [show fTx tx n9 e = 0 from if_neg (by omega)]; decide)) (by rw [up_i (by decide)]; exact ey) (by rw [up_i (by decide)]; exact ev) up_s
        · exact absurd g (by simp [sx_cc])
end SXO6
