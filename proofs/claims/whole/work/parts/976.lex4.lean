/-! THE LEXER: class side (by wip/whole) -/
section SXO8
variable {X : sx_X} {Q : sx_R} {σ σ0 σ' σ1 σ2 : sx_S} {tx : Int → Int} {n9 : Int}
/-- the class's search of a word (shown where the strings are known) -/
def sx_WT (X : sx_X) : Prop := ∀ (σ : sx_S) (Q : sx_R) (L : Int), σ 33 6 = L → (0 ≤ L ∧ L < 1073741824) → Q (some (.inl (fWt L))) shM σ → sx_Run X 20 [.inr (.inr 33)] shM σ Q
abbrev FXa (a i : Int) : Prop := a = 33 ∧ 2 ≤ i ∧ i ≤ 6
abbrev FXw (a i : Int) : Prop := a = 33 ∧ (i = 2 ∨ i = 3 ∨ i = 6)
theorem FXa_pts : ptL.all (fun q => decide (¬ q.1 = 33)) = true := by decide +kernel
theorem fr.ptxb {σ σ' : sx_S} (h : fr (fun a i => a = 33) σ σ') (hT : PT σ) : PT σ' := hT.fr (fun q hq => h _ _ (of_decide_eq_true (List.all_eq_true.mp FXa_pts q hq)))
theorem fr.ptxa {σ σ' : sx_S} (h : fr FXa σ σ') (hT : PT σ) : PT σ' := fr.ptxb (fun a i z9 => h a i (fun z8 => z9 z8.1)) hT
def pSv (a b t : Int) : Prop := (a = 59 ∧ t = 22) ∨ (a = 40 ∧ t = 23) ∨ (a = 41 ∧ t = 24) ∨ (a = 60 ∧ b = 61 ∧ t = 26) ∨ (a = 60 ∧ b = 62 ∧ t = 28) ∨ (a = 60 ∧ ¬ b = 61 ∧ ¬ b = 62 ∧ t = 25) ∨ (a = 61 ∧ t = 27) ∨ (a = 62 ∧ b = 61 ∧ t = 29) ∨ (a = 62 ∧ ¬ b = 61 ∧ t = 30) ∨ (a = 43 ∧ t = 31) ∨ (a = 45 ∧ t = 32) ∨ (a = 42 ∧ t = 33) ∨ (a = 47 ∧ t = 34) ∨ (¬ (a = 59 ∨ a = 40 ∨ a = 41 ∨ a = 60 ∨ a = 61 ∨ a = 62 ∨ a = 43 ∨ a = 45 ∨ a = 42 ∨ a = 47) ∧ t = 35)
theorem fSg_v {a b t : Int} (h : pSv a b t) : fSg a b = t := by
  unfold fSg
  unfold pSv at h
  repeat' split
  all_goals omega
theorem fNuc_bd {i : Int} : ∀ k : Nat, (∀ j : Int, i ≤ j → j < i + k → pDig (tx j)) → 0 ≤ fNuc tx i k ∧ fNuc tx i k ≤ 1000000
  | 0, _ => by unfold fNuc; decide
  | k + 1, h => by
    have h1 := fNuc_bd k (fun j y0 y1 => h j y0 (by omega))
    have h2 := h (i + k) (by omega) (by omega)
    show 0 ≤ (if 10 * fNuc tx i k + (tx (i + k) - 48) < 1000000 then 10 * fNuc tx i k + (tx (i + k) - 48) else 1000000) ∧ (if 10 * fNuc tx i k + (tx (i + k) - 48) < 1000000 then 10 * fNuc tx i k + (tx (i + k) - 48) else 1000000) ≤ 1000000
    split <;> omega
theorem tk_end {i e : Int} (hs : kS tx n9 i = e) (h : n9 ≤ e) : kE tx n9 i = e ∧ kT tx n9 i = 36 := by
  unfold kE kT
  simp only [hs, if_pos h, and_self]
theorem tk_let {i e : Int} (hs : kS tx n9 i = e) (h : e < n9) (hl : pLet (fTx tx n9 e)) : kE tx n9 i = kEl tx n9 e ∧ kT tx n9 i = (if 6 < kEl tx n9 e - e then 35 else fWt (fPk tx e (kEl tx n9 e))) ∧ kV tx n9 i = fPk tx e (kEl tx n9 e) := by
  unfold kE kT kV
  have h9 : ¬ n9 ≤ e := by omega
  simp only [hs, if_neg h9, if_pos hl, and_self]
theorem tk_dig {i e : Int} (hs : kS tx n9 i = e) (h : e < n9) (hl : ¬ pLet (fTx tx n9 e)) (hd : pDig (fTx tx n9 e)) : kE tx n9 i = kEd tx n9 e ∧ kT tx n9 i = 21 ∧ kV tx n9 i = if fNuc tx e (kEd tx n9 e - e).toNat ≤ 99999 then fNuc tx e (kEd tx n9 e - e).toNat else 100000 := by
  unfold kE kT kV
  have h9 : ¬ n9 ≤ e := by omega
  simp only [hs, if_neg h9, if_neg hl, if_pos hd, and_self]
theorem tk_sgn {i e : Int} (hs : kS tx n9 i = e) (h : e < n9) (hl : ¬ pLet (fTx tx n9 e)) (hd : ¬ pDig (fTx tx n9 e)) : kE tx n9 i = (if fTwo (fTx tx n9 e) (fTx tx n9 (e + 1)) then e + 2 else e + 1) ∧ kT tx n9 i = fSg (fTx tx n9 e) (fTx tx n9 (e + 1)) := by
  unfold kE kT
  have h9 : ¬ n9 ≤ e := by omega
  simp only [hs, if_neg h9, if_neg hl, if_neg hd, and_self]
/-- the class's lexer stands at the token behind i -/
def cTk (σ : sx_S) (tx : Int → Int) (n9 i : Int) : Prop := σ 33 2 = kE tx n9 i ∧ σ 33 3 = kT tx n9 i ∧ σ 33 4 = kS tx n9 i ∧ (kT tx n9 i = 20 → σ 33 6 = kV tx n9 i) ∧ (kT tx n9 i = 21 → (σ 33 5 = kV tx n9 i ∧ kV tx n9 i ≤ 99999) ∨ (99999 < σ 33 5 ∧ kV tx n9 i = 100000))
theorem cTk_of {i : Int} (h : cTk σ tx n9 i) (e : ∀ j : Int, 2 ≤ j → j ≤ 6 → σ' 33 j = σ 33 j) : cTk σ' tx n9 i := by
  unfold cTk
  rw [e 2 (by decide) (by decide), e 3 (by decide) (by decide), e 4 (by decide) (by decide), e 5 (by decide) (by decide), e 6 (by decide) (by decide)]
  exact h
theorem kV_nn {i : Int} (hn : n9 ≤ 700) (hi : 0 ≤ i ∧ i ≤ n9) (h : kT tx n9 i = 21) : 0 ≤ kV tx n9 i ∧ kV tx n9 i ≤ 100000 := by
  have b1 := kS_bd (tx := tx) hi.2
  have b2 := fWt_bd (fPk tx (kS tx n9 i) (kEl tx n9 (kS tx n9 i)))
  have b3 := fSg_bd (fTx tx n9 (kS tx n9 i)) (fTx tx n9 (kS tx n9 i + 1))
  by_cases g1 : n9 ≤ kS tx n9 i
  · have := tk_end rfl g1; omega
  by_cases g2 : pLet (fTx tx n9 (kS tx n9 i))
  · have := (tk_let rfl (by omega) g2).2.1
    rw [this] at h
    split at h <;> omega
  by_cases g3 : pDig (fTx tx n9 (kS tx n9 i))
  · rw [(tk_dig rfl (by omega) g2 g3).2.2]
    obtain ⟨e, a1, a2, a3, a4⟩ := fRn_ex (q := fun j => pDig (fTx tx n9 j)) qD_n 701 (i := kS tx n9 i) b1.2 (by omega)
    rw [kEd_of hn (by omega) a1 a2 a3 a4]
    have := fNuc_bd (tx := tx) (i := kS tx n9 i) (e - kS tx n9 i).toNat (fun j y0 y1 => by have q := a3 j y0 (by omega); rw [fTx_p (by omega)] at q; exact q)
    split <;> omega
  · have := (tk_sgn rfl (by omega) g2 g3).2; omega
theorem cTk_let {i e : Int} (hs : kS tx n9 i = e) (h : e < n9) (hl : pLet (fTx tx n9 e)) (h2 : σ 33 2 = kEl tx n9 e) (h3 : σ 33 3 = (if 6 < kEl tx n9 e - e then 35 else fWt (fPk tx e (kEl tx n9 e)))) (h4 : σ 33 4 = e) (h6 : σ 33 6 = fPk tx e (kEl tx n9 e)) : cTk σ tx n9 i := by
  obtain ⟨t1, t2, t3⟩ := tk_let hs h hl
  have b2 := fWt_bd (fPk tx e (kEl tx n9 e))
  refine ⟨h2.trans t1.symm, h3.trans t2.symm, h4.trans hs.symm, fun _ => h6.trans t3.symm, fun z9 => ?_⟩
  rw [t2] at z9
  split at z9 <;> omega
theorem cTk_dig {i e : Int} (hs : kS tx n9 i = e) (h : e < n9) (hl : ¬ pLet (fTx tx n9 e)) (hd : pDig (fTx tx n9 e)) (h2 : σ 33 2 = kEd tx n9 e) (h3 : σ 33 3 = 21) (h4 : σ 33 4 = e) (h5 : σ 33 5 = fNuc tx e (kEd tx n9 e - e).toNat) : cTk σ tx n9 i := by
  obtain ⟨t1, t2, t3⟩ := tk_dig hs h hl hd
  refine ⟨h2.trans t1.symm, h3.trans t2.symm, h4.trans hs.symm, fun z9 => by omega, fun z9 => ?_⟩
  rw [t3, h5]
  split
  · left; exact ⟨rfl, by assumption⟩
  · right; exact ⟨by omega, rfl⟩
theorem cTk_sgn {i e : Int} (hs : kS tx n9 i = e) (h : e < n9) (hl : ¬ pLet (fTx tx n9 e)) (hd : ¬ pDig (fTx tx n9 e)) (h2 : σ 33 2 = (if fTwo (fTx tx n9 e) (fTx tx n9 (e + 1)) then e + 2 else e + 1)) (h3 : σ 33 3 = fSg (fTx tx n9 e) (fTx tx n9 (e + 1))) (h4 : σ 33 4 = e) : cTk σ tx n9 i := by
  obtain ⟨t1, t2⟩ := tk_sgn hs h hl hd
  have b3 := fSg_bd (fTx tx n9 e) (fTx tx n9 (e + 1))
  exact ⟨h2.trans t1.symm, h3.trans t2.symm, h4.trans hs.symm, fun z9 => by omega, fun z9 => by omega⟩
theorem cTk_end {i e : Int} (hs : kS tx n9 i = e) (h : n9 ≤ e) (h2 : σ 33 2 = e) (h3 : σ 33 3 = 36) (h4 : σ 33 4 = e) : cTk σ tx n9 i := by
  obtain ⟨t1, t2⟩ := tk_end hs h
  exact ⟨h2.trans t1.symm, h3.trans t2.symm, h4.trans hs.symm, fun z9 => by omega, fun z9 => by omega⟩
set_option maxRecDepth 20000 in
theorem c_Xword (hw : sx_WT X) (hx : pLx σ tx n9) {s : Int} (en : σ 33 2 = s) (es : σ 33 4 = s) (hi : 0 ≤ s ∧ s ≤ n9) (h : ∀ (σ' : sx_S), fr FXw σ σ' → σ' 33 2 = kEl tx n9 s → σ' 33 6 = fPk tx s (kEl tx n9 s) → σ' 33 3 = (if 6 < kEl tx n9 s - s then 35 else fWt (fPk tx s (kEl tx n9 s))) → Q none shM σ') : sx_Run X 19 [.inr (.inr 33)] shM σ Q := by
  have hn := hx.2.2.1
  refine sx_rule2 (own := 2) (cd := kX2_takeWord) (nL := 2) (by decide +kernel) (by decide +kernel) kX2_takeWord_ok (by decide +kernel) (Nat.le_of_ble_eq_true rfl) [5] 40 (fun n t L st _ σ' => (t = 5 ∧ ∃ w9 : Option sx_V, st = [] ∧ L = [some (.inr (.inr (33))), w9] ∧ (∃ e : Int, fr FXw σ σ' ∧ s ≤ e ∧ e ≤ n9 ∧ (∀ j : Int, s ≤ j → j < e → pLet (fTx tx n9 j)) ∧ σ' 33 2 = e ∧ σ' 33 6 = fPk tx s e) ∧ n = (1000 - σ' 33 2).toNat)) ?_ ?_
  · skip
    conv => whnf
    refine ⟨(by first | assumption | rfl), ?_⟩
    try simp (disch := omega) only [Int.cast_ofNat_Int, up_s, up_a, up_i, mp_a, mp_ge]
    try simp only [x1]
    try simp only [ey]
    try simp only [es2]
    conv => whnf
    refine ⟨_, ⟨rfl, _, rfl, rfl, ?_, rfl⟩⟩
    exact ⟨s, fun a j z9 => by unfold FXw at z9; rw [up_n (by omega)], by omega, by omega, fun j y0 y1 => by omega, by rw [up_i (by decide)]; exact en, by rw [up_s, fPk_0]⟩
  · intro n t L st σ' hk
    obtain ⟨rfl, w9, rfl, rfl, hc, rfl⟩ := hk
    obtain ⟨e, hfi, he0, he1, hdg, ey, ev⟩ := hc
    have hx' : pLx σ' tx n9 := pLx_of hx (fun a j z9 => hfi a j (by unfold FXw; omega))
    have x1 := hx'.2.1
    have es2 : σ' 33 4 = s := (hfi _ _ (by decide)).trans es
    conv => whnf
    refine ⟨(by first | assumption | rfl), ?_⟩
    try simp (disch := omega) only [Int.cast_ofNat_Int, up_s, up_a, up_i, mp_a, mp_ge]
    try simp only [x1]
    try simp only [ey]
    try simp only [es2]
    conv => whnf
    refine ⟨(by first | assumption | rfl), ?_⟩
    try simp (disch := omega) only [Int.cast_ofNat_Int, up_s, up_a, up_i, mp_a, mp_ge]
    try simp only [x1]
    try simp only [ey]
    try simp only [es2]
    conv => whnf
    refine ⟨fun g => ?_, fun g => ?_⟩
    · simp only [sx_cc, Classical.not_not] at g
      conv => whnf
      refine ⟨(by first | assumption | rfl), ?_⟩
      try simp (disch := omega) only [Int.cast_ofNat_Int, up_s, up_a, up_i, mp_a, mp_ge]
      try simp only [x1]
      try simp only [ey]
      try simp only [es2]
      conv => whnf
      refine ⟨(by first | assumption | rfl), ?_⟩
      try simp (disch := omega) only [Int.cast_ofNat_Int, up_s, up_a, up_i, mp_a, mp_ge]
      try simp only [x1]
      try simp only [ey]
      try simp only [es2]
      conv => whnf
      refine ⟨⟨by omega, by omega⟩, ?_⟩
      conv => whnf
      refine ⟨fun g => ?_, fun g => ?_⟩
      · simp only [sx_cc, Classical.not_not] at g
        conv => whnf
        refine ⟨Nat.le_of_ble_eq_true rfl, Nat.le_of_ble_eq_true rfl, (by first | assumption | rfl), ?_⟩
        refine hw _ _ (fPk tx s e) ev (fPk_bd (fun j y0 y1 => by have q := hdg j y0 y1; rw [fTx_p (by omega)] at q; exact q)) ?_
        conv => whnf
        refine ⟨(by first | assumption | rfl), ?_⟩
        try simp (disch := omega) only [Int.cast_ofNat_Int, up_s, up_a, up_i, mp_a, mp_ge]
        try simp only [x1]
        try simp only [ey]
        try simp only [es2]
        conv => whnf
        refine ⟨rfl, ?_⟩
        have ek := (kEl_of hn.2 (by omega) he0 he1 hdg (by first | exact hd | exact qL_n e (by omega)))
        refine h _ (hfi.trans (fun a j z9 => by unfold FXw at z9; rw [up_n (by omega)])) (by rw [up_i (by decide), ek]; exact ey) (by rw [up_i (by decide), ek]; exact ev) (by rw [up_s, ek]; first | rw [if_pos (by omega)] | rw [if_neg (by omega)])
      · simp only [sx_cc, Classical.not_not] at g
        conv => whnf
        refine ⟨(by first | assumption | rfl), ?_⟩
        try simp (disch := omega) only [Int.cast_ofNat_Int, up_s, up_a, up_i, mp_a, mp_ge]
        try simp only [x1]
        try simp only [ey]
        try simp only [es2]
        conv => whnf
        refine ⟨rfl, ?_⟩
        have ek := (kEl_of hn.2 (by omega) he0 he1 hdg (by first | exact hd | exact qL_n e (by omega)))
        refine h _ (hfi.trans (fun a j z9 => by unfold FXw at z9; rw [up_n (by omega)])) (by rw [up_i (by decide), ek]; exact ey) (by rw [up_i (by decide), ek]; exact ev) (by rw [up_s, ek]; first | rw [if_pos (by omega)] | rw [if_neg (by omega)])
    · simp only [sx_cc, Classical.not_not] at g
      conv => whnf
      refine ⟨(by first | assumption | rfl), ?_⟩
      try simp (disch := omega) only [Int.cast_ofNat_Int, up_s, up_a, up_i, mp_a, mp_ge]
      try simp only [x1]
      try simp only [ey]
      try simp only [es2]
      conv => whnf
      refine ⟨Nat.le_of_ble_eq_true rfl, Nat.le_of_ble_eq_true rfl, (by first | assumption | rfl), ?_⟩
      refine c_Xbyte hx' (i := e) (by omega) ?_
      conv => whnf
      refine ⟨Nat.le_of_ble_eq_true rfl, Nat.le_of_ble_eq_true rfl, ?_⟩
      refine c_Xletter (fun hd => ?_) (fun hd => ?_)
      · have etx : fTx tx n9 e = tx e := if_pos (by omega)
        try rw [etx] at hd
        conv => whnf
        refine ⟨fun g => ?_, fun g => ?_⟩
        · exact absurd g (by simp [sx_cc])
        · skip
          conv => whnf
          refine ⟨(by first | assumption | rfl), ?_⟩
          try simp (disch := omega) only [Int.cast_ofNat_Int, up_s, up_a, up_i, mp_a, mp_ge]
          try simp only [x1]
          try simp only [ey]
          try simp only [es2]
          conv => whnf
          refine ⟨(by first | assumption | rfl), ?_⟩
          try simp (disch := omega) only [Int.cast_ofNat_Int, up_s, up_a, up_i, mp_a, mp_ge]
          try simp only [x1]
          try simp only [ey]
          try simp only [es2]
          conv => whnf
          refine ⟨⟨by omega, by omega⟩, ?_⟩
          conv => whnf
          refine ⟨fun g => ?_, fun g => ?_⟩
          · simp only [sx_cc, Classical.not_not] at g
            conv => whnf
            refine ⟨(by first | assumption | rfl), ?_⟩
            try simp (disch := omega) only [Int.cast_ofNat_Int, up_s, up_a, up_i, mp_a, mp_ge]
            try simp only [x1]
            try simp only [ey]
            try simp only [es2]
            conv => whnf
            refine ⟨⟨by omega, by omega⟩, ?_⟩
            conv => whnf
            refine ⟨(by first | assumption | rfl), ?_⟩
            try simp (disch := omega) only [Int.cast_ofNat_Int, up_s, up_a, up_i, mp_a, mp_ge]
            try simp only [x1]
            try simp only [ey]
            try simp only [es2]
            conv => whnf
            refine ⟨_, ?_, ⟨rfl, _, rfl, rfl, ?_, rfl⟩⟩
            · try rw [up_s]
              try rw [ey]
              omega
            · refine ⟨e + 1, hfi.trans (fun a j z9 => by unfold FXw at z9; repeat (first | rw [up_n (by omega)] | rfl)), by omega, by omega, fun j y0 y1 => ?_, by rw [up_s], ?_⟩
              · by_cases e9 : j = e
                · rw [e9]; (first | exact hd | (rw [etx]; exact hd))
                · exact hdg j y0 (by omega)
              · rw [up_i (by decide)]
                first
                | (rw [up_s, ev, etx, fPk_s he0 (by omega) (fun j y0 y1 => by
                    by_cases e9 : j = e
                    · rw [e9]; first | exact hd | (rw [← etx]; exact hd)
                    · have q := hdg j y0 (by omega); rw [fTx_p (by omega)] at q; exact q)])
                | (rw [fPk_6 (by omega)]; exact ev)
          · simp only [sx_cc, Classical.not_not] at g
            conv => whnf
            refine ⟨(by first | assumption | rfl), ?_⟩
            try simp (disch := omega) only [Int.cast_ofNat_Int, up_s, up_a, up_i, mp_a, mp_ge]
            try simp only [x1]
            try simp only [ey]
            try simp only [es2]
            conv => whnf
            refine ⟨(by first | assumption | rfl), ?_⟩
            try simp (disch := omega) only [Int.cast_ofNat_Int, up_s, up_a, up_i, mp_a, mp_ge]
            try simp only [x1]
            try simp only [ey]
            try simp only [es2]
            conv => whnf
            refine ⟨Nat.le_of_ble_eq_true rfl, Nat.le_of_ble_eq_true rfl, (by first | assumption | rfl), ?_⟩
            refine c_Xbyte hx' (i := e) (by omega) ?_
            conv => whnf
            refine ⟨⟨by omega, by omega⟩, ?_⟩
            conv => whnf
            refine ⟨⟨by omega, by omega⟩, ?_⟩
            conv => whnf
            refine ⟨⟨by omega, by omega⟩, ?_⟩
            conv => whnf
            refine ⟨⟨by omega, by omega⟩, ?_⟩
            conv => whnf
            refine ⟨(by first | assumption | rfl), ?_⟩
            try simp (disch := omega) only [Int.cast_ofNat_Int, up_s, up_a, up_i, mp_a, mp_ge]
            try simp only [x1]
            try simp only [ey]
            try simp only [es2]
            conv => whnf
            refine ⟨(by first | assumption | rfl), ?_⟩
            try simp (disch := omega) only [Int.cast_ofNat_Int, up_s, up_a, up_i, mp_a, mp_ge]
            try simp only [x1]
            try simp only [ey]
            try simp only [es2]
            conv => whnf
            refine ⟨⟨by omega, by omega⟩, ?_⟩
            conv => whnf
            refine ⟨(by first | assumption | rfl), ?_⟩
            try simp (disch := omega) only [Int.cast_ofNat_Int, up_s, up_a, up_i, mp_a, mp_ge]
            try simp only [x1]
            try simp only [ey]
            try simp only [es2]
            conv => whnf
            refine ⟨_, ?_, ⟨rfl, _, rfl, rfl, ?_, rfl⟩⟩
            · try rw [up_s]
              try rw [ey]
              omega
            · refine ⟨e + 1, hfi.trans (fun a j z9 => by unfold FXw at z9; repeat (first | rw [up_n (by omega)] | rfl)), by omega, by omega, fun j y0 y1 => ?_, by rw [up_s], ?_⟩
              · by_cases e9 : j = e
                · rw [e9]; (first | exact hd | (rw [etx]; exact hd))
                · exact hdg j y0 (by omega)
              · rw [up_i (by decide)]
                first
                | (rw [up_s, ev, etx, fPk_s he0 (by omega) (fun j y0 y1 => by
                    by_cases e9 : j = e
                    · rw [e9]; first | exact hd | (rw [← etx]; exact hd)
                    · have q := hdg j y0 (by omega); rw [fTx_p (by omega)] at q; exact q)])
                | (rw [fPk_6 (by omega)]; exact ev)
      · skip
        conv => whnf
        refine ⟨fun g => ?_, fun g => ?_⟩
        · skip
          conv => whnf
          refine ⟨(by first | assumption | rfl), ?_⟩
          try simp (disch := omega) only [Int.cast_ofNat_Int, up_s, up_a, up_i, mp_a, mp_ge]
          try simp only [x1]
          try simp only [ey]
          try simp only [es2]
          conv => whnf
          refine ⟨(by first | assumption | rfl), ?_⟩
          try simp (disch := omega) only [Int.cast_ofNat_Int, up_s, up_a, up_i, mp_a, mp_ge]
          try simp only [x1]
          try simp only [ey]
          try simp only [es2]
          conv => whnf
          refine ⟨⟨by omega, by omega⟩, ?_⟩
          conv => whnf
          refine ⟨fun g => ?_, fun g => ?_⟩
          · simp only [sx_cc, Classical.not_not] at g
            conv => whnf
            refine ⟨Nat.le_of_ble_eq_true rfl, Nat.le_of_ble_eq_true rfl, (by first | assumption | rfl), ?_⟩
            refine hw _ _ (fPk tx s e) ev (fPk_bd (fun j y0 y1 => by have q := hdg j y0 y1; rw [fTx_p (by omega)] at q; exact q)) ?_
            conv => whnf
            refine ⟨(by first | assumption | rfl), ?_⟩
            try simp (disch := omega) only [Int.cast_ofNat_Int, up_s, up_a, up_i, mp_a, mp_ge]
            try simp only [x1]
            try simp only [ey]
            try simp only [es2]
            conv => whnf
            refine ⟨rfl, ?_⟩
            have ek := (kEl_of hn.2 (by omega) he0 he1 hdg (by first | exact hd | exact qL_n e (by omega)))
            refine h _ (hfi.trans (fun a j z9 => by unfold FXw at z9; rw [up_n (by omega)])) (by rw [up_i (by decide), ek]; exact ey) (by rw [up_i (by decide), ek]; exact ev) (by rw [up_s, ek]; first | rw [if_pos (by omega)] | rw [if_neg (by omega)])
          · simp only [sx_cc, Classical.not_not] at g
            conv => whnf
            refine ⟨(by first | assumption | rfl), ?_⟩
            try simp (disch := omega) only [Int.cast_ofNat_Int, up_s, up_a, up_i, mp_a, mp_ge]
            try simp only [x1]
            try simp only [ey]
            try simp only [es2]
            conv => whnf
            refine ⟨rfl, ?_⟩
            have ek := (kEl_of hn.2 (by omega) he0 he1 hdg (by first | exact hd | exact qL_n e (by omega)))
            refine h _ (hfi.trans (fun a j z9 => by unfold FXw at z9; rw [up_n (by omega)])) (by rw [up_i (by decide), ek]; exact ey) (by rw [up_i (by decide), ek]; exact ev) (by rw [up_s, ek]; first | rw [if_pos (by omega)] | rw [if_neg (by omega)])
        · exact absurd g (by simp [sx_cc])
set_option maxRecDepth 20000 in
theorem c_Xsign (hx : pLx σ tx n9) {y s9 : Int} (en : σ 33 2 = y) (hy : 0 ≤ y ∧ y ≤ 700) (h2 : fTwo s9 (fTx tx n9 y) → Q (some (.inl (fSg s9 (fTx tx n9 y)))) shM (sx_up σ 33 2 (y + 1))) (h1 : ¬ fTwo s9 (fTx tx n9 y) → Q (some (.inl (fSg s9 (fTx tx n9 y)))) shM σ) : sx_Run X 22 [.inr (.inr 33), .inl s9] shM σ Q := by
  refine sx_rule0 (own := 2) (cd := kX2_signType) (nL := 2) (by decide +kernel) (by decide +kernel) kX2_signType_ok (by decide +kernel) (Nat.le_of_ble_eq_true rfl) 40 ?_
  conv => whnf
  refine ⟨fun g => ?_, ?_⟩
  · skip
    conv => whnf
    refine ⟨fun q9 => by first | (simp at q9; done) | omega, ?_⟩
    have e9 : fSg s9 (fTx tx n9 y) = 35 := fSg_v (Or.inr (Or.inr (Or.inr (Or.inr (Or.inr (Or.inr (Or.inr (Or.inr (Or.inr (Or.inr (Or.inr (Or.inr (Or.inr (⟨fun z => by rcases z with z | z | z | z | z | z | z | z | z | z <;> omega, rfl⟩))))))))))))))
    rw [e9] at h1 h2
    first | exact h2 (by unfold fTwo; omega) | exact h1 (by unfold fTwo; omega)
  conv => whnf
  refine ⟨fun g => ?_, ?_⟩
  · skip
    conv => whnf
    refine ⟨fun q9 => by first | (simp at q9; done) | omega, ?_⟩
    have e9 : fSg s9 (fTx tx n9 y) = 23 := fSg_v (Or.inr (Or.inl ⟨by omega, rfl⟩))
    rw [e9] at h1 h2
    first | exact h2 (by unfold fTwo; omega) | exact h1 (by unfold fTwo; omega)
  conv => whnf
  refine ⟨fun g => ?_, ?_⟩
  · skip
    conv => whnf
    refine ⟨fun q9 => by first | (simp at q9; done) | omega, ?_⟩
    have e9 : fSg s9 (fTx tx n9 y) = 24 := fSg_v (Or.inr (Or.inr (Or.inl ⟨by omega, rfl⟩)))
    rw [e9] at h1 h2
    first | exact h2 (by unfold fTwo; omega) | exact h1 (by unfold fTwo; omega)
  conv => whnf
  refine ⟨fun g => ?_, ?_⟩
  · skip
    conv => whnf
    refine ⟨fun q9 => by first | (simp at q9; done) | omega, ?_⟩
    have e9 : fSg s9 (fTx tx n9 y) = 33 := fSg_v (Or.inr (Or.inr (Or.inr (Or.inr (Or.inr (Or.inr (Or.inr (Or.inr (Or.inr (Or.inr (Or.inr (Or.inl ⟨by omega, rfl⟩))))))))))))
    rw [e9] at h1 h2
    first | exact h2 (by unfold fTwo; omega) | exact h1 (by unfold fTwo; omega)
  conv => whnf
  refine ⟨fun g => ?_, ?_⟩
  · skip
    conv => whnf
    refine ⟨fun q9 => by first | (simp at q9; done) | omega, ?_⟩
    have e9 : fSg s9 (fTx tx n9 y) = 31 := fSg_v (Or.inr (Or.inr (Or.inr (Or.inr (Or.inr (Or.inr (Or.inr (Or.inr (Or.inr (Or.inl ⟨by omega, rfl⟩))))))))))
    rw [e9] at h1 h2
    first | exact h2 (by unfold fTwo; omega) | exact h1 (by unfold fTwo; omega)
  conv => whnf
  refine ⟨fun g => ?_, ?_⟩
  · skip
    conv => whnf
    refine ⟨fun q9 => by first | (simp at q9; done) | omega, ?_⟩
    have e9 : fSg s9 (fTx tx n9 y) = 35 := fSg_v (Or.inr (Or.inr (Or.inr (Or.inr (Or.inr (Or.inr (Or.inr (Or.inr (Or.inr (Or.inr (Or.inr (Or.inr (Or.inr (⟨fun z => by rcases z with z | z | z | z | z | z | z | z | z | z <;> omega, rfl⟩))))))))))))))
    rw [e9] at h1 h2
    first | exact h2 (by unfold fTwo; omega) | exact h1 (by unfold fTwo; omega)
  conv => whnf
  refine ⟨fun g => ?_, ?_⟩
  · skip
    conv => whnf
    refine ⟨fun q9 => by first | (simp at q9; done) | omega, ?_⟩
    have e9 : fSg s9 (fTx tx n9 y) = 32 := fSg_v (Or.inr (Or.inr (Or.inr (Or.inr (Or.inr (Or.inr (Or.inr (Or.inr (Or.inr (Or.inr (Or.inl ⟨by omega, rfl⟩)))))))))))
    rw [e9] at h1 h2
    first | exact h2 (by unfold fTwo; omega) | exact h1 (by unfold fTwo; omega)
  conv => whnf
  refine ⟨fun g => ?_, ?_⟩
  · skip
    conv => whnf
    refine ⟨fun q9 => by first | (simp at q9; done) | omega, ?_⟩
    have e9 : fSg s9 (fTx tx n9 y) = 35 := fSg_v (Or.inr (Or.inr (Or.inr (Or.inr (Or.inr (Or.inr (Or.inr (Or.inr (Or.inr (Or.inr (Or.inr (Or.inr (Or.inr (⟨fun z => by rcases z with z | z | z | z | z | z | z | z | z | z <;> omega, rfl⟩))))))))))))))
    rw [e9] at h1 h2
    first | exact h2 (by unfold fTwo; omega) | exact h1 (by unfold fTwo; omega)
  conv => whnf
  refine ⟨fun g => ?_, ?_⟩
  · skip
    conv => whnf
    refine ⟨fun q9 => by first | (simp at q9; done) | omega, ?_⟩
    have e9 : fSg s9 (fTx tx n9 y) = 34 := fSg_v (Or.inr (Or.inr (Or.inr (Or.inr (Or.inr (Or.inr (Or.inr (Or.inr (Or.inr (Or.inr (Or.inr (Or.inr (Or.inl ⟨by omega, rfl⟩)))))))))))))
    rw [e9] at h1 h2
    first | exact h2 (by unfold fTwo; omega) | exact h1 (by unfold fTwo; omega)
  conv => whnf
  refine ⟨fun g => ?_, ?_⟩
  · skip
    conv => whnf
    refine ⟨fun q9 => by first | (simp at q9; done) | omega, ?_⟩
    have e9 : fSg s9 (fTx tx n9 y) = 35 := fSg_v (Or.inr (Or.inr (Or.inr (Or.inr (Or.inr (Or.inr (Or.inr (Or.inr (Or.inr (Or.inr (Or.inr (Or.inr (Or.inr (⟨fun z => by rcases z with z | z | z | z | z | z | z | z | z | z <;> omega, rfl⟩))))))))))))))
    rw [e9] at h1 h2
    first | exact h2 (by unfold fTwo; omega) | exact h1 (by unfold fTwo; omega)
  conv => whnf
  refine ⟨fun g => ?_, ?_⟩
  · skip
    conv => whnf
    refine ⟨fun q9 => by first | (simp at q9; done) | omega, ?_⟩
    have e9 : fSg s9 (fTx tx n9 y) = 35 := fSg_v (Or.inr (Or.inr (Or.inr (Or.inr (Or.inr (Or.inr (Or.inr (Or.inr (Or.inr (Or.inr (Or.inr (Or.inr (Or.inr (⟨fun z => by rcases z with z | z | z | z | z | z | z | z | z | z <;> omega, rfl⟩))))))))))))))
    rw [e9] at h1 h2
    first | exact h2 (by unfold fTwo; omega) | exact h1 (by unfold fTwo; omega)
  conv => whnf
  refine ⟨fun g => ?_, ?_⟩
  · skip
    conv => whnf
    refine ⟨fun q9 => by first | (simp at q9; done) | omega, ?_⟩
    have e9 : fSg s9 (fTx tx n9 y) = 35 := fSg_v (Or.inr (Or.inr (Or.inr (Or.inr (Or.inr (Or.inr (Or.inr (Or.inr (Or.inr (Or.inr (Or.inr (Or.inr (Or.inr (⟨fun z => by rcases z with z | z | z | z | z | z | z | z | z | z <;> omega, rfl⟩))))))))))))))
    rw [e9] at h1 h2
    first | exact h2 (by unfold fTwo; omega) | exact h1 (by unfold fTwo; omega)
  conv => whnf
  refine ⟨fun g => ?_, ?_⟩
  · skip
    conv => whnf
    refine ⟨fun q9 => by first | (simp at q9; done) | omega, ?_⟩
    have e9 : fSg s9 (fTx tx n9 y) = 35 := fSg_v (Or.inr (Or.inr (Or.inr (Or.inr (Or.inr (Or.inr (Or.inr (Or.inr (Or.inr (Or.inr (Or.inr (Or.inr (Or.inr (⟨fun z => by rcases z with z | z | z | z | z | z | z | z | z | z <;> omega, rfl⟩))))))))))))))
    rw [e9] at h1 h2
    first | exact h2 (by unfold fTwo; omega) | exact h1 (by unfold fTwo; omega)
  conv => whnf
  refine ⟨fun g => ?_, ?_⟩
  · skip
    conv => whnf
    refine ⟨fun q9 => by first | (simp at q9; done) | omega, ?_⟩
    have e9 : fSg s9 (fTx tx n9 y) = 35 := fSg_v (Or.inr (Or.inr (Or.inr (Or.inr (Or.inr (Or.inr (Or.inr (Or.inr (Or.inr (Or.inr (Or.inr (Or.inr (Or.inr (⟨fun z => by rcases z with z | z | z | z | z | z | z | z | z | z <;> omega, rfl⟩))))))))))))))
    rw [e9] at h1 h2
    first | exact h2 (by unfold fTwo; omega) | exact h1 (by unfold fTwo; omega)
  conv => whnf
  refine ⟨fun g => ?_, ?_⟩
  · skip
    conv => whnf
    refine ⟨fun q9 => by first | (simp at q9; done) | omega, ?_⟩
    have e9 : fSg s9 (fTx tx n9 y) = 35 := fSg_v (Or.inr (Or.inr (Or.inr (Or.inr (Or.inr (Or.inr (Or.inr (Or.inr (Or.inr (Or.inr (Or.inr (Or.inr (Or.inr (⟨fun z => by rcases z with z | z | z | z | z | z | z | z | z | z <;> omega, rfl⟩))))))))))))))
    rw [e9] at h1 h2
    first | exact h2 (by unfold fTwo; omega) | exact h1 (by unfold fTwo; omega)
  conv => whnf
  refine ⟨fun g => ?_, ?_⟩
  · skip
    conv => whnf
    refine ⟨fun q9 => by first | (simp at q9; done) | omega, ?_⟩
    have e9 : fSg s9 (fTx tx n9 y) = 35 := fSg_v (Or.inr (Or.inr (Or.inr (Or.inr (Or.inr (Or.inr (Or.inr (Or.inr (Or.inr (Or.inr (Or.inr (Or.inr (Or.inr (⟨fun z => by rcases z with z | z | z | z | z | z | z | z | z | z <;> omega, rfl⟩))))))))))))))
    rw [e9] at h1 h2
    first | exact h2 (by unfold fTwo; omega) | exact h1 (by unfold fTwo; omega)
  conv => whnf
  refine ⟨fun g => ?_, ?_⟩
  · skip
    conv => whnf
    refine ⟨fun q9 => by first | (simp at q9; done) | omega, ?_⟩
    have e9 : fSg s9 (fTx tx n9 y) = 35 := fSg_v (Or.inr (Or.inr (Or.inr (Or.inr (Or.inr (Or.inr (Or.inr (Or.inr (Or.inr (Or.inr (Or.inr (Or.inr (Or.inr (⟨fun z => by rcases z with z | z | z | z | z | z | z | z | z | z <;> omega, rfl⟩))))))))))))))
    rw [e9] at h1 h2
    first | exact h2 (by unfold fTwo; omega) | exact h1 (by unfold fTwo; omega)
  conv => whnf
  refine ⟨fun g => ?_, ?_⟩
  · skip
    conv => whnf
    refine ⟨fun q9 => by first | (simp at q9; done) | omega, ?_⟩
    have e9 : fSg s9 (fTx tx n9 y) = 35 := fSg_v (Or.inr (Or.inr (Or.inr (Or.inr (Or.inr (Or.inr (Or.inr (Or.inr (Or.inr (Or.inr (Or.inr (Or.inr (Or.inr (⟨fun z => by rcases z with z | z | z | z | z | z | z | z | z | z <;> omega, rfl⟩))))))))))))))
    rw [e9] at h1 h2
    first | exact h2 (by unfold fTwo; omega) | exact h1 (by unfold fTwo; omega)
  conv => whnf
  refine ⟨fun g => ?_, ?_⟩
  · skip
    conv => whnf
    refine ⟨fun q9 => by first | (simp at q9; done) | omega, ?_⟩
    have e9 : fSg s9 (fTx tx n9 y) = 35 := fSg_v (Or.inr (Or.inr (Or.inr (Or.inr (Or.inr (Or.inr (Or.inr (Or.inr (Or.inr (Or.inr (Or.inr (Or.inr (Or.inr (⟨fun z => by rcases z with z | z | z | z | z | z | z | z | z | z <;> omega, rfl⟩))))))))))))))
    rw [e9] at h1 h2
    first | exact h2 (by unfold fTwo; omega) | exact h1 (by unfold fTwo; omega)
  conv => whnf
  refine ⟨fun g => ?_, ?_⟩
  · skip
    conv => whnf
    refine ⟨fun q9 => by first | (simp at q9; done) | omega, ?_⟩
    have e9 : fSg s9 (fTx tx n9 y) = 35 := fSg_v (Or.inr (Or.inr (Or.inr (Or.inr (Or.inr (Or.inr (Or.inr (Or.inr (Or.inr (Or.inr (Or.inr (Or.inr (Or.inr (⟨fun z => by rcases z with z | z | z | z | z | z | z | z | z | z <;> omega, rfl⟩))))))))))))))
    rw [e9] at h1 h2
    first | exact h2 (by unfold fTwo; omega) | exact h1 (by unfold fTwo; omega)
  conv => whnf
  refine ⟨fun g => ?_, ?_⟩
  · skip
    conv => whnf
    refine ⟨fun q9 => by first | (simp at q9; done) | omega, ?_⟩
    have e9 : fSg s9 (fTx tx n9 y) = 22 := fSg_v (Or.inl ⟨by omega, rfl⟩)
    rw [e9] at h1 h2
    first | exact h2 (by unfold fTwo; omega) | exact h1 (by unfold fTwo; omega)
  conv => whnf
  refine ⟨fun g => ?_, ?_⟩
  · skip
    conv => whnf
    refine ⟨Nat.le_of_ble_eq_true rfl, Nat.le_of_ble_eq_true rfl, (by first | assumption | rfl), ?_⟩
    refine c_Xnext hx en hy (fun hb => ?_) (fun hb => ?_)
    · have hb9 := hb
      conv => whnf
      refine ⟨fun g => ?_, fun g => ?_⟩
      · exact absurd g (by simp [sx_cc])
      · skip
        conv => whnf
        refine ⟨fun q9 => by first | (simp at q9; done) | omega, ?_⟩
        have e9 : fSg s9 (fTx tx n9 y) = 26 := fSg_v (Or.inr (Or.inr (Or.inr (Or.inl ⟨by omega, by omega, rfl⟩))))
        rw [e9] at h1 h2
        first | exact h2 (by unfold fTwo; omega) | exact h1 (by unfold fTwo; omega)
    · have hb8 := hb
      conv => whnf
      refine ⟨fun g => ?_, fun g => ?_⟩
      · skip
        conv => whnf
        refine ⟨Nat.le_of_ble_eq_true rfl, Nat.le_of_ble_eq_true rfl, (by first | assumption | rfl), ?_⟩
        refine c_Xnext hx en hy (fun hb => ?_) (fun hb => ?_)
        · have hb9 := hb
          conv => whnf
          refine ⟨fun g => ?_, fun g => ?_⟩
          · exact absurd g (by simp [sx_cc])
          · skip
            conv => whnf
            refine ⟨fun q9 => by first | (simp at q9; done) | omega, ?_⟩
            have e9 : fSg s9 (fTx tx n9 y) = 28 := fSg_v (Or.inr (Or.inr (Or.inr (Or.inr (Or.inl ⟨by omega, by omega, rfl⟩)))))
            rw [e9] at h1 h2
            first | exact h2 (by unfold fTwo; omega) | exact h1 (by unfold fTwo; omega)
        · have hb8 := hb
          conv => whnf
          refine ⟨fun g => ?_, fun g => ?_⟩
          · skip
            conv => whnf
            refine ⟨fun q9 => by first | (simp at q9; done) | omega, ?_⟩
            have e9 : fSg s9 (fTx tx n9 y) = 25 := fSg_v (Or.inr (Or.inr (Or.inr (Or.inr (Or.inr (Or.inl ⟨by omega, by omega, by omega, rfl⟩))))))
            rw [e9] at h1 h2
            first | exact h2 (by unfold fTwo; omega) | exact h1 (by unfold fTwo; omega)
          · exact absurd g (by simp [sx_cc])
      · exact absurd g (by simp [sx_cc])
  conv => whnf
  refine ⟨fun g => ?_, ?_⟩
  · skip
    conv => whnf
    refine ⟨fun q9 => by first | (simp at q9; done) | omega, ?_⟩
    have e9 : fSg s9 (fTx tx n9 y) = 27 := fSg_v (Or.inr (Or.inr (Or.inr (Or.inr (Or.inr (Or.inr (Or.inl ⟨by omega, rfl⟩)))))))
    rw [e9] at h1 h2
    first | exact h2 (by unfold fTwo; omega) | exact h1 (by unfold fTwo; omega)
  conv => whnf
  refine ⟨fun g => ?_, ?_⟩
  · skip
    conv => whnf
    refine ⟨Nat.le_of_ble_eq_true rfl, Nat.le_of_ble_eq_true rfl, (by first | assumption | rfl), ?_⟩
    refine c_Xnext hx en hy (fun hb => ?_) (fun hb => ?_)
    · have hb9 := hb
      conv => whnf
      refine ⟨fun g => ?_, fun g => ?_⟩
      · exact absurd g (by simp [sx_cc])
      · skip
        conv => whnf
        refine ⟨fun q9 => by first | (simp at q9; done) | omega, ?_⟩
        have e9 : fSg s9 (fTx tx n9 y) = 29 := fSg_v (Or.inr (Or.inr (Or.inr (Or.inr (Or.inr (Or.inr (Or.inr (Or.inl ⟨by omega, by omega, rfl⟩))))))))
        rw [e9] at h1 h2
        first | exact h2 (by unfold fTwo; omega) | exact h1 (by unfold fTwo; omega)
    · have hb8 := hb
      conv => whnf
      refine ⟨fun g => ?_, fun g => ?_⟩
      · skip
        conv => whnf
        refine ⟨fun q9 => by first | (simp at q9; done) | omega, ?_⟩
        have e9 : fSg s9 (fTx tx n9 y) = 30 := fSg_v (Or.inr (Or.inr (Or.inr (Or.inr (Or.inr (Or.inr (Or.inr (Or.inr (Or.inl ⟨by omega, by omega, rfl⟩)))))))))
        rw [e9] at h1 h2
        first | exact h2 (by unfold fTwo; omega) | exact h1 (by unfold fTwo; omega)
      · exact absurd g (by simp [sx_cc])
  exact trivial
theorem c_Xnum9 (hx : pLx σ tx n9) {i : Int} (en : σ 33 2 = i) (hi : 0 ≤ i ∧ i ≤ n9) (h : ∀ (σ' : sx_S), fr FXn σ σ' → σ' 33 2 = kEd tx n9 i → σ' 33 5 = fNuc tx i (kEd tx n9 i - i).toNat → σ' 33 3 = 21 → Q none shM σ') (hT : PT σ) : sx_Run X 21 [.inr (.inr 33)] shM σ Q :=
  c_Xnum hT hx en hi (fun σ' e hf h0 h1 ha hx2 e2 e5 e3 => by
    have ek := kEd_of hx.2.2.1.2 hi.1 h0 h1 ha hx2
    exact h σ' hf (by rw [ek]; exact e2) (by rw [ek]; exact e5) e3)
set_option maxRecDepth 20000 in
theorem c_Xadv (hw : sx_WT X) (hT : PT σ) (hx : pLx σ tx n9) {i : Int} (en : σ 33 2 = i) (hi : 0 ≤ i ∧ i ≤ n9) (h : ∀ (σ' : sx_S), fr FXa σ σ' → cTk σ' tx n9 i → Q none shM σ') : sx_Run X 16 [.inr (.inr 33)] shM σ Q := by
  have hn := hx.2.2.1
  have hfi : fr FXa σ σ := fun _ _ _ => rfl
  have hx' := hx
  have x1 := hx.2.1
  have hsp : ∀ j : Int, i ≤ j → j < i → pSpc (fTx tx n9 j) := fun j y0 y1 => by omega
  obtain ⟨e, ei⟩ : ∃ e : Int, e = i := ⟨i, rfl⟩
  have ey : σ 33 2 = e := en.trans ei.symm
  have he0 : i ≤ e := by omega
  have he1 : e ≤ n9 := by omega
  rw [← ei] at hsp; rw [ei] at hsp; have hsp : ∀ j : Int, i ≤ j → j < e → pSpc (fTx tx n9 j) := fun j y0 y1 => by omega
  refine sx_rule2 (own := 2) (cd := kX2_advance) (nL := 2) (by decide +kernel) (by decide +kernel) kX2_advance_ok (by decide +kernel) (Nat.le_of_ble_eq_true rfl) [0] 40 (fun n t L st _ σ' => (t = 0 ∧ ∃ w9 : Option sx_V, st = [] ∧ L = [some (.inr (.inr (33))), w9] ∧ (∃ e : Int, fr FXa σ σ' ∧ i ≤ e ∧ e ≤ n9 ∧ (∀ j : Int, i ≤ j → j < e → pSpc (fTx tx n9 j)) ∧ σ' 33 2 = e) ∧ n = (1000 - σ' 33 2).toNat)) ?_ ?_
  · skip
    conv => whnf
    refine ⟨(by first | assumption | rfl), ?_⟩
    try simp (disch := omega) only [Int.cast_ofNat_Int, up_s, up_a, up_i, mp_a, mp_ge]
    try simp only [x1]
    try simp only [ey]
    conv => whnf
    refine ⟨(by first | assumption | rfl), ?_⟩
    try simp (disch := omega) only [Int.cast_ofNat_Int, up_s, up_a, up_i, mp_a, mp_ge]
    try simp only [x1]
    try simp only [ey]
    conv => whnf
    refine ⟨fun g => ?_, fun g => ?_⟩
    · simp only [sx_cc, Classical.not_not] at g
      have hs : kS tx n9 i = e := kS_of hn.2 hi.1 he0 he1 hsp (by unfold pSpc; first | omega | exact qS_n e (by omega))
      conv => whnf
      refine ⟨(by first | assumption | rfl), ?_⟩
      try simp (disch := omega) only [Int.cast_ofNat_Int, up_s, up_a, up_i, mp_a, mp_ge]
      try simp only [x1]
      try simp only [ey]
      conv => whnf
      refine ⟨(by first | assumption | rfl), ?_⟩
      try simp (disch := omega) only [Int.cast_ofNat_Int, up_s, up_a, up_i, mp_a, mp_ge]
      try simp only [x1]
      try simp only [ey]
      conv => whnf
      refine ⟨(by first | assumption | rfl), ?_⟩
      try simp (disch := omega) only [Int.cast_ofNat_Int, up_s, up_a, up_i, mp_a, mp_ge]
      try simp only [x1]
      try simp only [ey]
      conv => whnf
      refine ⟨(by first | assumption | rfl), ?_⟩
      try simp (disch := omega) only [Int.cast_ofNat_Int, up_s, up_a, up_i, mp_a, mp_ge]
      try simp only [x1]
      try simp only [ey]
      conv => whnf
      refine ⟨fun g => ?_, fun g => ?_⟩
      · simp only [sx_cc, Classical.not_not] at g
        conv => whnf
        refine ⟨(by first | assumption | rfl), ?_⟩
        try simp (disch := omega) only [Int.cast_ofNat_Int, up_s, up_a, up_i, mp_a, mp_ge]
        try simp only [x1]
        try simp only [ey]
        conv => whnf
        refine ⟨Nat.le_of_ble_eq_true rfl, Nat.le_of_ble_eq_true rfl, (by first | assumption | rfl), ?_⟩
        refine c_Xbyte (pLx_of hx' (fun a j z9 => by rw [up_n (by omega)])) (i := e) (by omega) ?_
        conv => whnf
        refine ⟨Nat.le_of_ble_eq_true rfl, Nat.le_of_ble_eq_true rfl, ?_⟩
        refine c_Xletter (fun hl => ?_) (fun hl => ?_)
        · skip
          conv => whnf
          refine ⟨fun g => ?_, fun g => ?_⟩
          · exact absurd g (by simp [sx_cc])
          · skip
            conv => whnf
            refine ⟨Nat.le_of_ble_eq_true rfl, Nat.le_of_ble_eq_true rfl, (by first | assumption | rfl), ?_⟩
            refine c_Xword hw (pLx_of hx' (fun a j z9 => by rw [up_n (by omega)])) (s := e) (by rw [up_i (by decide)]; exact ey) up_s (by omega) (fun σ3 hf3 r2 r6 r3 => ?_)
            conv => whnf
            refine ⟨rfl, ?_⟩
            first
            | exact h _ (hfi.trans (fun a j z9 => by unfold FXa at z9; rw [hf3 a j (by unfold FXw; omega), up_n (by omega)])) (cTk_let hs (by omega) hl r2 r3 ((hf3 33 4 (by decide)).trans up_s) r6)
            | exact h _ (hfi.trans (fun a j z9 => by unfold FXa at z9; rw [hf3 a j (by unfold FXn; omega), up_n (by omega)])) (cTk_dig hs (by omega) hl hd r2 r3 ((hf3 33 4 (by decide)).trans up_s) r5)
            | exact h _ (hfi.trans (fun a j z9 => by unfold FXa at z9; repeat (first | rw [up_n (by omega)] | rfl))) (cTk_sgn hs (by omega) hl hd (by rw [up_i (by decide), up_s, ek]; try omega) up_s (by rw [up_i (by decide), up_i (by decide)]; first | exact up_s | (rw [up_i (by decide)]; exact up_s)))
        · skip
          conv => whnf
          refine ⟨fun g => ?_, fun g => ?_⟩
          · skip
            conv => whnf
            refine ⟨Nat.le_of_ble_eq_true rfl, Nat.le_of_ble_eq_true rfl, ?_⟩
            refine c_Xdigit (fun hd => ?_) (fun hd => ?_)
            · skip
              conv => whnf
              refine ⟨fun g => ?_, fun g => ?_⟩
              · exact absurd g (by simp [sx_cc])
              · skip
                conv => whnf
                refine ⟨Nat.le_of_ble_eq_true rfl, Nat.le_of_ble_eq_true rfl, (by first | assumption | rfl), ?_⟩
                refine c_Xnum9 (pLx_of hx' (fun a j z9 => by rw [up_n (by omega)])) (i := e) (by rw [up_i (by decide)]; exact ey) (by omega) (fun σ3 hf3 r2 r5 r3 => ?_) (fr.ptxa (hfi.trans (fun a j z9 => by unfold FXa at z9; rw [up_n (by omega)])) hT)
                conv => whnf
                refine ⟨rfl, ?_⟩
                first
                | exact h _ (hfi.trans (fun a j z9 => by unfold FXa at z9; rw [hf3 a j (by unfold FXw; omega), up_n (by omega)])) (cTk_let hs (by omega) hl r2 r3 ((hf3 33 4 (by decide)).trans up_s) r6)
                | exact h _ (hfi.trans (fun a j z9 => by unfold FXa at z9; rw [hf3 a j (by unfold FXn; omega), up_n (by omega)])) (cTk_dig hs (by omega) hl hd r2 r3 ((hf3 33 4 (by decide)).trans up_s) r5)
                | exact h _ (hfi.trans (fun a j z9 => by unfold FXa at z9; repeat (first | rw [up_n (by omega)] | rfl))) (cTk_sgn hs (by omega) hl hd (by rw [up_i (by decide), up_s, ek]; try omega) up_s (by rw [up_i (by decide), up_i (by decide)]; first | exact up_s | (rw [up_i (by decide)]; exact up_s)))
            · skip
              conv => whnf
              refine ⟨fun g => ?_, fun g => ?_⟩
              · skip
                conv => whnf
                refine ⟨(by first | assumption | rfl), ?_⟩
                try simp (disch := omega) only [Int.cast_ofNat_Int, up_s, up_a, up_i, mp_a, mp_ge]
                try simp only [x1]
                try simp only [ey]
                conv => whnf
                refine ⟨⟨by omega, by omega⟩, ?_⟩
                conv => whnf
                refine ⟨(by first | assumption | rfl), ?_⟩
                try simp (disch := omega) only [Int.cast_ofNat_Int, up_s, up_a, up_i, mp_a, mp_ge]
                try simp only [x1]
                try simp only [ey]
                conv => whnf
                refine ⟨Nat.le_of_ble_eq_true rfl, Nat.le_of_ble_eq_true rfl, (by first | assumption | rfl), ?_⟩
                refine c_Xsign (pLx_of hx' (fun a j z9 => by rw [up_n (by omega), up_n (by omega)])) (y := e + 1) up_s (by omega) (fun h2 => ?_) (fun h2 => ?_)
                · have ek : (if fTwo (fTx tx n9 e) (fTx tx n9 (e + 1)) then e + 2 else e + 1) = e + 2 := if_pos h2
                  conv => whnf
                  refine ⟨(by first | assumption | rfl), ?_⟩
                  try simp (disch := omega) only [Int.cast_ofNat_Int, up_s, up_a, up_i, mp_a, mp_ge]
                  try simp only [x1]
                  try simp only [ey]
                  conv => whnf
                  refine ⟨rfl, ?_⟩
                  first
                  | exact h _ (hfi.trans (fun a j z9 => by unfold FXa at z9; rw [hf3 a j (by unfold FXw; omega), up_n (by omega)])) (cTk_let hs (by omega) hl r2 r3 ((hf3 33 4 (by decide)).trans up_s) r6)
                  | exact h _ (hfi.trans (fun a j z9 => by unfold FXa at z9; rw [hf3 a j (by unfold FXn; omega), up_n (by omega)])) (cTk_dig hs (by omega) hl hd r2 r3 ((hf3 33 4 (by decide)).trans up_s) r5)
                  | exact h _ (hfi.trans (fun a j z9 => by unfold FXa at z9; repeat (first | rw [up_n (by omega)] | rfl))) (cTk_sgn hs (by omega) hl hd (by rw [up_i (by decide), up_s, ek]; try omega) up_s (by rw [up_i (by decide), up_i (by decide)]; first | exact up_s | (rw [up_i (by decide)]; exact up_s)))
                · have ek : (if fTwo (fTx tx n9 e) (fTx tx n9 (e + 1)) then e + 2 else e + 1) = e + 1 := if_neg h2
                  conv => whnf
                  refine ⟨(by first | assumption | rfl), ?_⟩
                  try simp (disch := omega) only [Int.cast_ofNat_Int, up_s, up_a, up_i, mp_a, mp_ge]
                  try simp only [x1]
                  try simp only [ey]
                  conv => whnf
                  refine ⟨rfl, ?_⟩
                  first
                  | exact h _ (hfi.trans (fun a j z9 => by unfold FXa at z9; rw [hf3 a j (by unfold FXw; omega), up_n (by omega)])) (cTk_let hs (by omega) hl r2 r3 ((hf3 33 4 (by decide)).trans up_s) r6)
                  | exact h _ (hfi.trans (fun a j z9 => by unfold FXa at z9; rw [hf3 a j (by unfold FXn; omega), up_n (by omega)])) (cTk_dig hs (by omega) hl hd r2 r3 ((hf3 33 4 (by decide)).trans up_s) r5)
                  | exact h _ (hfi.trans (fun a j z9 => by unfold FXa at z9; repeat (first | rw [up_n (by omega)] | rfl))) (cTk_sgn hs (by omega) hl hd (by rw [up_i (by decide), up_s, ek]; try omega) up_s (by rw [up_i (by decide), up_i (by decide)]; first | exact up_s | (rw [up_i (by decide)]; exact up_s)))
              · exact absurd g (by simp [sx_cc])
          · exact absurd g (by simp [sx_cc])
      · simp only [sx_cc, Classical.not_not] at g
        conv => whnf
        refine ⟨(by first | assumption | rfl), ?_⟩
        try simp (disch := omega) only [Int.cast_ofNat_Int, up_s, up_a, up_i, mp_a, mp_ge]
        try simp only [x1]
        try simp only [ey]
        conv => whnf
        refine ⟨rfl, ?_⟩
        exact h _ (hfi.trans (fun a j z9 => by unfold FXa at z9; rw [up_n (by omega), up_n (by omega)])) (cTk_end hs (by omega) (by rw [up_i (by decide), up_i (by decide)]; exact ey) up_s (by rw [up_i (by decide), up_s]))
    · simp only [sx_cc, Classical.not_not] at g
      conv => whnf
      refine ⟨(by first | assumption | rfl), ?_⟩
      try simp (disch := omega) only [Int.cast_ofNat_Int, up_s, up_a, up_i, mp_a, mp_ge]
      try simp only [x1]
      try simp only [ey]
      conv => whnf
      refine ⟨Nat.le_of_ble_eq_true rfl, Nat.le_of_ble_eq_true rfl, (by first | assumption | rfl), ?_⟩
      refine c_Xbyte hx' (i := e) (by omega) ?_
      conv => whnf
      refine ⟨fun g => ?_, fun g => ?_⟩
      · simp only [sx_cc, Classical.not_not] at g
        conv => whnf
        refine ⟨(by first | assumption | rfl), ?_⟩
        try simp (disch := omega) only [Int.cast_ofNat_Int, up_s, up_a, up_i, mp_a, mp_ge]
        try simp only [x1]
        try simp only [ey]
        conv => whnf
        refine ⟨⟨by omega, by omega⟩, ?_⟩
        conv => whnf
        refine ⟨(by first | assumption | rfl), ?_⟩
        try simp (disch := omega) only [Int.cast_ofNat_Int, up_s, up_a, up_i, mp_a, mp_ge]
        try simp only [x1]
        try simp only [ey]
        conv => whnf
        refine ⟨_, ⟨rfl, _, rfl, rfl, ?_, rfl⟩⟩
        refine ⟨e + 1, hfi.trans (fun a j z9 => by unfold FXa at z9; rw [up_n (by omega)]), by omega, by omega, fun j y0 y1 => ?_, by rw [up_s]⟩
        by_cases e9 : j = e
        · rw [e9]; unfold pSpc; omega
        · exact hsp j y0 (by omega)
      · simp only [sx_cc, Classical.not_not] at g
        conv => whnf
        refine ⟨(by first | assumption | rfl), ?_⟩
        try simp (disch := omega) only [Int.cast_ofNat_Int, up_s, up_a, up_i, mp_a, mp_ge]
        try simp only [x1]
        try simp only [ey]
        conv => whnf
        refine ⟨Nat.le_of_ble_eq_true rfl, Nat.le_of_ble_eq_true rfl, (by first | assumption | rfl), ?_⟩
        refine c_Xbyte hx' (i := e) (by omega) ?_
        conv => whnf
        refine ⟨fun g => ?_, fun g => ?_⟩
        · simp only [sx_cc, Classical.not_not] at g
          have hs : kS tx n9 i = e := kS_of hn.2 hi.1 he0 he1 hsp (by unfold pSpc; first | omega | exact qS_n e (by omega))
          conv => whnf
          refine ⟨(by first | assumption | rfl), ?_⟩
          try simp (disch := omega) only [Int.cast_ofNat_Int, up_s, up_a, up_i, mp_a, mp_ge]
          try simp only [x1]
          try simp only [ey]
          conv => whnf
          refine ⟨(by first | assumption | rfl), ?_⟩
          try simp (disch := omega) only [Int.cast_ofNat_Int, up_s, up_a, up_i, mp_a, mp_ge]
          try simp only [x1]
          try simp only [ey]
          conv => whnf
          refine ⟨(by first | assumption | rfl), ?_⟩
          try simp (disch := omega) only [Int.cast_ofNat_Int, up_s, up_a, up_i, mp_a, mp_ge]
          try simp only [x1]
          try simp only [ey]
          conv => whnf
          refine ⟨(by first | assumption | rfl), ?_⟩
          try simp (disch := omega) only [Int.cast_ofNat_Int, up_s, up_a, up_i, mp_a, mp_ge]
          try simp only [x1]
          try simp only [ey]
          conv => whnf
          refine ⟨fun g => ?_, fun g => ?_⟩
          · simp only [sx_cc, Classical.not_not] at g
            conv => whnf
            refine ⟨(by first | assumption | rfl), ?_⟩
            try simp (disch := omega) only [Int.cast_ofNat_Int, up_s, up_a, up_i, mp_a, mp_ge]
            try simp only [x1]
            try simp only [ey]
            conv => whnf
            refine ⟨Nat.le_of_ble_eq_true rfl, Nat.le_of_ble_eq_true rfl, (by first | assumption | rfl), ?_⟩
            refine c_Xbyte (pLx_of hx' (fun a j z9 => by rw [up_n (by omega)])) (i := e) (by omega) ?_
            conv => whnf
            refine ⟨Nat.le_of_ble_eq_true rfl, Nat.le_of_ble_eq_true rfl, ?_⟩
            refine c_Xletter (fun hl => ?_) (fun hl => ?_)
            · skip
              conv => whnf
              refine ⟨fun g => ?_, fun g => ?_⟩
              · exact absurd g (by simp [sx_cc])
              · skip
                conv => whnf
                refine ⟨Nat.le_of_ble_eq_true rfl, Nat.le_of_ble_eq_true rfl, (by first | assumption | rfl), ?_⟩
                refine c_Xword hw (pLx_of hx' (fun a j z9 => by rw [up_n (by omega)])) (s := e) (by rw [up_i (by decide)]; exact ey) up_s (by omega) (fun σ3 hf3 r2 r6 r3 => ?_)
                conv => whnf
                refine ⟨rfl, ?_⟩
                first
                | exact h _ (hfi.trans (fun a j z9 => by unfold FXa at z9; rw [hf3 a j (by unfold FXw; omega), up_n (by omega)])) (cTk_let hs (by omega) hl r2 r3 ((hf3 33 4 (by decide)).trans up_s) r6)
                | exact h _ (hfi.trans (fun a j z9 => by unfold FXa at z9; rw [hf3 a j (by unfold FXn; omega), up_n (by omega)])) (cTk_dig hs (by omega) hl hd r2 r3 ((hf3 33 4 (by decide)).trans up_s) r5)
                | exact h _ (hfi.trans (fun a j z9 => by unfold FXa at z9; repeat (first | rw [up_n (by omega)] | rfl))) (cTk_sgn hs (by omega) hl hd (by rw [up_i (by decide), up_s, ek]; try omega) up_s (by rw [up_i (by decide), up_i (by decide)]; first | exact up_s | (rw [up_i (by decide)]; exact up_s)))
            · skip
              conv => whnf
              refine ⟨fun g => ?_, fun g => ?_⟩
              · skip
                conv => whnf
                refine ⟨Nat.le_of_ble_eq_true rfl, Nat.le_of_ble_eq_true rfl, ?_⟩
                refine c_Xdigit (fun hd => ?_) (fun hd => ?_)
                · skip
                  conv => whnf
                  refine ⟨fun g => ?_, fun g => ?_⟩
                  · exact absurd g (by simp [sx_cc])
                  · skip
                    conv => whnf
                    refine ⟨Nat.le_of_ble_eq_true rfl, Nat.le_of_ble_eq_true rfl, (by first | assumption | rfl), ?_⟩
                    refine c_Xnum9 (pLx_of hx' (fun a j z9 => by rw [up_n (by omega)])) (i := e) (by rw [up_i (by decide)]; exact ey) (by omega) (fun σ3 hf3 r2 r5 r3 => ?_) (fr.ptxa (hfi.trans (fun a j z9 => by unfold FXa at z9; rw [up_n (by omega)])) hT)
                    conv => whnf
                    refine ⟨rfl, ?_⟩
                    first
                    | exact h _ (hfi.trans (fun a j z9 => by unfold FXa at z9; rw [hf3 a j (by unfold FXw; omega), up_n (by omega)])) (cTk_let hs (by omega) hl r2 r3 ((hf3 33 4 (by decide)).trans up_s) r6)
                    | exact h _ (hfi.trans (fun a j z9 => by unfold FXa at z9; rw [hf3 a j (by unfold FXn; omega), up_n (by omega)])) (cTk_dig hs (by omega) hl hd r2 r3 ((hf3 33 4 (by decide)).trans up_s) r5)
                    | exact h _ (hfi.trans (fun a j z9 => by unfold FXa at z9; repeat (first | rw [up_n (by omega)] | rfl))) (cTk_sgn hs (by omega) hl hd (by rw [up_i (by decide), up_s, ek]; try omega) up_s (by rw [up_i (by decide), up_i (by decide)]; first | exact up_s | (rw [up_i (by decide)]; exact up_s)))
                · skip
                  conv => whnf
                  refine ⟨fun g => ?_, fun g => ?_⟩
                  · skip
                    conv => whnf
                    refine ⟨(by first | assumption | rfl), ?_⟩
                    try simp (disch := omega) only [Int.cast_ofNat_Int, up_s, up_a, up_i, mp_a, mp_ge]
                    try simp only [x1]
                    try simp only [ey]
                    conv => whnf
                    refine ⟨⟨by omega, by omega⟩, ?_⟩
                    conv => whnf
                    refine ⟨(by first | assumption | rfl), ?_⟩
                    try simp (disch := omega) only [Int.cast_ofNat_Int, up_s, up_a, up_i, mp_a, mp_ge]
                    try simp only [x1]
                    try simp only [ey]
                    conv => whnf
                    refine ⟨Nat.le_of_ble_eq_true rfl, Nat.le_of_ble_eq_true rfl, (by first | assumption | rfl), ?_⟩
                    refine c_Xsign (pLx_of hx' (fun a j z9 => by rw [up_n (by omega), up_n (by omega)])) (y := e + 1) up_s (by omega) (fun h2 => ?_) (fun h2 => ?_)
                    · have ek : (if fTwo (fTx tx n9 e) (fTx tx n9 (e + 1)) then e + 2 else e + 1) = e + 2 := if_pos h2
                      conv => whnf
                      refine ⟨(by first | assumption | rfl), ?_⟩
                      try simp (disch := omega) only [Int.cast_ofNat_Int, up_s, up_a, up_i, mp_a, mp_ge]
                      try simp only [x1]
                      try simp only [ey]
                      conv => whnf
                      refine ⟨rfl, ?_⟩
                      first
                      | exact h _ (hfi.trans (fun a j z9 => by unfold FXa at z9; rw [hf3 a j (by unfold FXw; omega), up_n (by omega)])) (cTk_let hs (by omega) hl r2 r3 ((hf3 33 4 (by decide)).trans up_s) r6)
                      | exact h _ (hfi.trans (fun a j z9 => by unfold FXa at z9; rw [hf3 a j (by unfold FXn; omega), up_n (by omega)])) (cTk_dig hs (by omega) hl hd r2 r3 ((hf3 33 4 (by decide)).trans up_s) r5)
                      | exact h _ (hfi.trans (fun a j z9 => by unfold FXa at z9; repeat (first | rw [up_n (by omega)] | rfl))) (cTk_sgn hs (by omega) hl hd (by rw [up_i (by decide), up_s, ek]; try omega) up_s (by rw [up_i (by decide), up_i (by decide)]; first | exact up_s | (rw [up_i (by decide)]; exact up_s)))
                    · have ek : (if fTwo (fTx tx n9 e) (fTx tx n9 (e + 1)) then e + 2 else e + 1) = e + 1 := if_neg h2
                      conv => whnf
                      refine ⟨(by first | assumption | rfl), ?_⟩
                      try simp (disch := omega) only [Int.cast_ofNat_Int, up_s, up_a, up_i, mp_a, mp_ge]
                      try simp only [x1]
                      try simp only [ey]
                      conv => whnf
                      refine ⟨rfl, ?_⟩
                      first
                      | exact h _ (hfi.trans (fun a j z9 => by unfold FXa at z9; rw [hf3 a j (by unfold FXw; omega), up_n (by omega)])) (cTk_let hs (by omega) hl r2 r3 ((hf3 33 4 (by decide)).trans up_s) r6)
                      | exact h _ (hfi.trans (fun a j z9 => by unfold FXa at z9; rw [hf3 a j (by unfold FXn; omega), up_n (by omega)])) (cTk_dig hs (by omega) hl hd r2 r3 ((hf3 33 4 (by decide)).trans up_s) r5)
                      | exact h _ (hfi.trans (fun a j z9 => by unfold FXa at z9; repeat (first | rw [up_n (by omega)] | rfl))) (cTk_sgn hs (by omega) hl hd (by rw [up_i (by decide), up_s, ek]; try omega) up_s (by rw [up_i (by decide), up_i (by decide)]; first | exact up_s | (rw [up_i (by decide)]; exact up_s)))
                  · exact absurd g (by simp [sx_cc])
              · exact absurd g (by simp [sx_cc])
          · simp only [sx_cc, Classical.not_not] at g
            conv => whnf
            refine ⟨(by first | assumption | rfl), ?_⟩
            try simp (disch := omega) only [Int.cast_ofNat_Int, up_s, up_a, up_i, mp_a, mp_ge]
            try simp only [x1]
            try simp only [ey]
            conv => whnf
            refine ⟨rfl, ?_⟩
            exact h _ (hfi.trans (fun a j z9 => by unfold FXa at z9; rw [up_n (by omega), up_n (by omega)])) (cTk_end hs (by omega) (by rw [up_i (by decide), up_i (by decide)]; exact ey) up_s (by rw [up_i (by decide), up_s]))
        · simp only [sx_cc, Classical.not_not] at g
          conv => whnf
          refine ⟨(by first | assumption | rfl), ?_⟩
          try simp (disch := omega) only [Int.cast_ofNat_Int, up_s, up_a, up_i, mp_a, mp_ge]
          try simp only [x1]
          try simp only [ey]
          conv => whnf
          refine ⟨⟨by omega, by omega⟩, ?_⟩
          conv => whnf
          refine ⟨(by first | assumption | rfl), ?_⟩
          try simp (disch := omega) only [Int.cast_ofNat_Int, up_s, up_a, up_i, mp_a, mp_ge]
          try simp only [x1]
          try simp only [ey]
          conv => whnf
          refine ⟨_, ⟨rfl, _, rfl, rfl, ?_, rfl⟩⟩
          refine ⟨e + 1, hfi.trans (fun a j z9 => by unfold FXa at z9; rw [up_n (by omega)]), by omega, by omega, fun j y0 y1 => ?_, by rw [up_s]⟩
          by_cases e9 : j = e
          · rw [e9]; unfold pSpc; omega
          · exact hsp j y0 (by omega)
  · intro n t L st σ' hk
    obtain ⟨rfl, w9, rfl, rfl, hc, rfl⟩ := hk
    obtain ⟨e, hfi, he0, he1, hsp, ey⟩ := hc
    have hx' : pLx σ' tx n9 := pLx_of hx (fun a j z9 => hfi a j (by unfold FXa; omega))
    have x1 := hx'.2.1
    conv => whnf
    refine ⟨(by first | assumption | rfl), ?_⟩
    try simp (disch := omega) only [Int.cast_ofNat_Int, up_s, up_a, up_i, mp_a, mp_ge]
    try simp only [x1]
    try simp only [ey]
    conv => whnf
    refine ⟨(by first | assumption | rfl), ?_⟩
    try simp (disch := omega) only [Int.cast_ofNat_Int, up_s, up_a, up_i, mp_a, mp_ge]
    try simp only [x1]
    try simp only [ey]
    conv => whnf
    refine ⟨fun g => ?_, fun g => ?_⟩
    · simp only [sx_cc, Classical.not_not] at g
      have hs : kS tx n9 i = e := kS_of hn.2 hi.1 he0 he1 hsp (by unfold pSpc; first | omega | exact qS_n e (by omega))
      conv => whnf
      refine ⟨(by first | assumption | rfl), ?_⟩
      try simp (disch := omega) only [Int.cast_ofNat_Int, up_s, up_a, up_i, mp_a, mp_ge]
      try simp only [x1]
      try simp only [ey]
      conv => whnf
      refine ⟨(by first | assumption | rfl), ?_⟩
      try simp (disch := omega) only [Int.cast_ofNat_Int, up_s, up_a, up_i, mp_a, mp_ge]
      try simp only [x1]
      try simp only [ey]
      conv => whnf
      refine ⟨(by first | assumption | rfl), ?_⟩
      try simp (disch := omega) only [Int.cast_ofNat_Int, up_s, up_a, up_i, mp_a, mp_ge]
      try simp only [x1]
      try simp only [ey]
      conv => whnf
      refine ⟨(by first | assumption | rfl), ?_⟩
      try simp (disch := omega) only [Int.cast_ofNat_Int, up_s, up_a, up_i, mp_a, mp_ge]
      try simp only [x1]
      try simp only [ey]
      conv => whnf
      refine ⟨fun g => ?_, fun g => ?_⟩
      · simp only [sx_cc, Classical.not_not] at g
        conv => whnf
        refine ⟨(by first | assumption | rfl), ?_⟩
        try simp (disch := omega) only [Int.cast_ofNat_Int, up_s, up_a, up_i, mp_a, mp_ge]
        try simp only [x1]
        try simp only [ey]
        conv => whnf
        refine ⟨Nat.le_of_ble_eq_true rfl, Nat.le_of_ble_eq_true rfl, (by first | assumption | rfl), ?_⟩
        refine c_Xbyte (pLx_of hx' (fun a j z9 => by rw [up_n (by omega)])) (i := e) (by omega) ?_
        conv => whnf
        refine ⟨Nat.le_of_ble_eq_true rfl, Nat.le_of_ble_eq_true rfl, ?_⟩
        refine c_Xletter (fun hl => ?_) (fun hl => ?_)
        · skip
          conv => whnf
          refine ⟨fun g => ?_, fun g => ?_⟩
          · exact absurd g (by simp [sx_cc])
          · skip
            conv => whnf
            refine ⟨Nat.le_of_ble_eq_true rfl, Nat.le_of_ble_eq_true rfl, (by first | assumption | rfl), ?_⟩
            refine c_Xword hw (pLx_of hx' (fun a j z9 => by rw [up_n (by omega)])) (s := e) (by rw [up_i (by decide)]; exact ey) up_s (by omega) (fun σ3 hf3 r2 r6 r3 => ?_)
            conv => whnf
            refine ⟨rfl, ?_⟩
            first
            | exact h _ (hfi.trans (fun a j z9 => by unfold FXa at z9; rw [hf3 a j (by unfold FXw; omega), up_n (by omega)])) (cTk_let hs (by omega) hl r2 r3 ((hf3 33 4 (by decide)).trans up_s) r6)
            | exact h _ (hfi.trans (fun a j z9 => by unfold FXa at z9; rw [hf3 a j (by unfold FXn; omega), up_n (by omega)])) (cTk_dig hs (by omega) hl hd r2 r3 ((hf3 33 4 (by decide)).trans up_s) r5)
            | exact h _ (hfi.trans (fun a j z9 => by unfold FXa at z9; repeat (first | rw [up_n (by omega)] | rfl))) (cTk_sgn hs (by omega) hl hd (by rw [up_i (by decide), up_s, ek]; try omega) up_s (by rw [up_i (by decide), up_i (by decide)]; first | exact up_s | (rw [up_i (by decide)]; exact up_s)))
        · skip
          conv => whnf
          refine ⟨fun g => ?_, fun g => ?_⟩
          · skip
            conv => whnf
            refine ⟨Nat.le_of_ble_eq_true rfl, Nat.le_of_ble_eq_true rfl, ?_⟩
            refine c_Xdigit (fun hd => ?_) (fun hd => ?_)
            · skip
              conv => whnf
              refine ⟨fun g => ?_, fun g => ?_⟩
              · exact absurd g (by simp [sx_cc])
              · skip
                conv => whnf
                refine ⟨Nat.le_of_ble_eq_true rfl, Nat.le_of_ble_eq_true rfl, (by first | assumption | rfl), ?_⟩
                refine c_Xnum9 (pLx_of hx' (fun a j z9 => by rw [up_n (by omega)])) (i := e) (by rw [up_i (by decide)]; exact ey) (by omega) (fun σ3 hf3 r2 r5 r3 => ?_) (fr.ptxa (hfi.trans (fun a j z9 => by unfold FXa at z9; rw [up_n (by omega)])) hT)
                conv => whnf
                refine ⟨rfl, ?_⟩
                first
                | exact h _ (hfi.trans (fun a j z9 => by unfold FXa at z9; rw [hf3 a j (by unfold FXw; omega), up_n (by omega)])) (cTk_let hs (by omega) hl r2 r3 ((hf3 33 4 (by decide)).trans up_s) r6)
                | exact h _ (hfi.trans (fun a j z9 => by unfold FXa at z9; rw [hf3 a j (by unfold FXn; omega), up_n (by omega)])) (cTk_dig hs (by omega) hl hd r2 r3 ((hf3 33 4 (by decide)).trans up_s) r5)
                | exact h _ (hfi.trans (fun a j z9 => by unfold FXa at z9; repeat (first | rw [up_n (by omega)] | rfl))) (cTk_sgn hs (by omega) hl hd (by rw [up_i (by decide), up_s, ek]; try omega) up_s (by rw [up_i (by decide), up_i (by decide)]; first | exact up_s | (rw [up_i (by decide)]; exact up_s)))
            · skip
              conv => whnf
              refine ⟨fun g => ?_, fun g => ?_⟩
              · skip
                conv => whnf
                refine ⟨(by first | assumption | rfl), ?_⟩
                try simp (disch := omega) only [Int.cast_ofNat_Int, up_s, up_a, up_i, mp_a, mp_ge]
                try simp only [x1]
                try simp only [ey]
                conv => whnf
                refine ⟨⟨by omega, by omega⟩, ?_⟩
                conv => whnf
                refine ⟨(by first | assumption | rfl), ?_⟩
                try simp (disch := omega) only [Int.cast_ofNat_Int, up_s, up_a, up_i, mp_a, mp_ge]
                try simp only [x1]
                try simp only [ey]
                conv => whnf
                refine ⟨Nat.le_of_ble_eq_true rfl, Nat.le_of_ble_eq_true rfl, (by first | assumption | rfl), ?_⟩
                refine c_Xsign (pLx_of hx' (fun a j z9 => by rw [up_n (by omega), up_n (by omega)])) (y := e + 1) up_s (by omega) (fun h2 => ?_) (fun h2 => ?_)
                · have ek : (if fTwo (fTx tx n9 e) (fTx tx n9 (e + 1)) then e + 2 else e + 1) = e + 2 := if_pos h2
                  conv => whnf
                  refine ⟨(by first | assumption | rfl), ?_⟩
                  try simp (disch := omega) only [Int.cast_ofNat_Int, up_s, up_a, up_i, mp_a, mp_ge]
                  try simp only [x1]
                  try simp only [ey]
                  conv => whnf
                  refine ⟨rfl, ?_⟩
                  first
                  | exact h _ (hfi.trans (fun a j z9 => by unfold FXa at z9; rw [hf3 a j (by unfold FXw; omega), up_n (by omega)])) (cTk_let hs (by omega) hl r2 r3 ((hf3 33 4 (by decide)).trans up_s) r6)
                  | exact h _ (hfi.trans (fun a j z9 => by unfold FXa at z9; rw [hf3 a j (by unfold FXn; omega), up_n (by omega)])) (cTk_dig hs (by omega) hl hd r2 r3 ((hf3 33 4 (by decide)).trans up_s) r5)
                  | exact h _ (hfi.trans (fun a j z9 => by unfold FXa at z9; repeat (first | rw [up_n (by omega)] | rfl))) (cTk_sgn hs (by omega) hl hd (by rw [up_i (by decide), up_s, ek]; try omega) up_s (by rw [up_i (by decide), up_i (by decide)]; first | exact up_s | (rw [up_i (by decide)]; exact up_s)))
                · have ek : (if fTwo (fTx tx n9 e) (fTx tx n9 (e + 1)) then e + 2 else e + 1) = e + 1 := if_neg h2
                  conv => whnf
                  refine ⟨(by first | assumption | rfl), ?_⟩
                  try simp (disch := omega) only [Int.cast_ofNat_Int, up_s, up_a, up_i, mp_a, mp_ge]
                  try simp only [x1]
                  try simp only [ey]
                  conv => whnf
                  refine ⟨rfl, ?_⟩
                  first
                  | exact h _ (hfi.trans (fun a j z9 => by unfold FXa at z9; rw [hf3 a j (by unfold FXw; omega), up_n (by omega)])) (cTk_let hs (by omega) hl r2 r3 ((hf3 33 4 (by decide)).trans up_s) r6)
                  | exact h _ (hfi.trans (fun a j z9 => by unfold FXa at z9; rw [hf3 a j (by unfold FXn; omega), up_n (by omega)])) (cTk_dig hs (by omega) hl hd r2 r3 ((hf3 33 4 (by decide)).trans up_s) r5)
                  | exact h _ (hfi.trans (fun a j z9 => by unfold FXa at z9; repeat (first | rw [up_n (by omega)] | rfl))) (cTk_sgn hs (by omega) hl hd (by rw [up_i (by decide), up_s, ek]; try omega) up_s (by rw [up_i (by decide), up_i (by decide)]; first | exact up_s | (rw [up_i (by decide)]; exact up_s)))
              · exact absurd g (by simp [sx_cc])
          · exact absurd g (by simp [sx_cc])
      · simp only [sx_cc, Classical.not_not] at g
        conv => whnf
        refine ⟨(by first | assumption | rfl), ?_⟩
        try simp (disch := omega) only [Int.cast_ofNat_Int, up_s, up_a, up_i, mp_a, mp_ge]
        try simp only [x1]
        try simp only [ey]
        conv => whnf
        refine ⟨rfl, ?_⟩
        exact h _ (hfi.trans (fun a j z9 => by unfold FXa at z9; rw [up_n (by omega), up_n (by omega)])) (cTk_end hs (by omega) (by rw [up_i (by decide), up_i (by decide)]; exact ey) up_s (by rw [up_i (by decide), up_s]))
    · simp only [sx_cc, Classical.not_not] at g
      conv => whnf
      refine ⟨(by first | assumption | rfl), ?_⟩
      try simp (disch := omega) only [Int.cast_ofNat_Int, up_s, up_a, up_i, mp_a, mp_ge]
      try simp only [x1]
      try simp only [ey]
      conv => whnf
      refine ⟨Nat.le_of_ble_eq_true rfl, Nat.le_of_ble_eq_true rfl, (by first | assumption | rfl), ?_⟩
      refine c_Xbyte hx' (i := e) (by omega) ?_
      conv => whnf
      refine ⟨fun g => ?_, fun g => ?_⟩
      · simp only [sx_cc, Classical.not_not] at g
        conv => whnf
        refine ⟨(by first | assumption | rfl), ?_⟩
        try simp (disch := omega) only [Int.cast_ofNat_Int, up_s, up_a, up_i, mp_a, mp_ge]
        try simp only [x1]
        try simp only [ey]
        conv => whnf
        refine ⟨⟨by omega, by omega⟩, ?_⟩
        conv => whnf
        refine ⟨(by first | assumption | rfl), ?_⟩
        try simp (disch := omega) only [Int.cast_ofNat_Int, up_s, up_a, up_i, mp_a, mp_ge]
        try simp only [x1]
        try simp only [ey]
        conv => whnf
        refine ⟨_, ?_, ⟨rfl, _, rfl, rfl, ?_, rfl⟩⟩
        · try rw [up_s]
          try rw [ey]
          omega
        · refine ⟨e + 1, hfi.trans (fun a j z9 => by unfold FXa at z9; rw [up_n (by omega)]), by omega, by omega, fun j y0 y1 => ?_, by rw [up_s]⟩
          by_cases e9 : j = e
          · rw [e9]; unfold pSpc; omega
          · exact hsp j y0 (by omega)
      · simp only [sx_cc, Classical.not_not] at g
        conv => whnf
        refine ⟨(by first | assumption | rfl), ?_⟩
        try simp (disch := omega) only [Int.cast_ofNat_Int, up_s, up_a, up_i, mp_a, mp_ge]
        try simp only [x1]
        try simp only [ey]
        conv => whnf
        refine ⟨Nat.le_of_ble_eq_true rfl, Nat.le_of_ble_eq_true rfl, (by first | assumption | rfl), ?_⟩
        refine c_Xbyte hx' (i := e) (by omega) ?_
        conv => whnf
        refine ⟨fun g => ?_, fun g => ?_⟩
        · simp only [sx_cc, Classical.not_not] at g
          have hs : kS tx n9 i = e := kS_of hn.2 hi.1 he0 he1 hsp (by unfold pSpc; first | omega | exact qS_n e (by omega))
          conv => whnf
          refine ⟨(by first | assumption | rfl), ?_⟩
          try simp (disch := omega) only [Int.cast_ofNat_Int, up_s, up_a, up_i, mp_a, mp_ge]
          try simp only [x1]
          try simp only [ey]
          conv => whnf
          refine ⟨(by first | assumption | rfl), ?_⟩
          try simp (disch := omega) only [Int.cast_ofNat_Int, up_s, up_a, up_i, mp_a, mp_ge]
          try simp only [x1]
          try simp only [ey]
          conv => whnf
          refine ⟨(by first | assumption | rfl), ?_⟩
          try simp (disch := omega) only [Int.cast_ofNat_Int, up_s, up_a, up_i, mp_a, mp_ge]
          try simp only [x1]
          try simp only [ey]
          conv => whnf
          refine ⟨(by first | assumption | rfl), ?_⟩
          try simp (disch := omega) only [Int.cast_ofNat_Int, up_s, up_a, up_i, mp_a, mp_ge]
          try simp only [x1]
          try simp only [ey]
          conv => whnf
          refine ⟨fun g => ?_, fun g => ?_⟩
          · simp only [sx_cc, Classical.not_not] at g
            conv => whnf
            refine ⟨(by first | assumption | rfl), ?_⟩
            try simp (disch := omega) only [Int.cast_ofNat_Int, up_s, up_a, up_i, mp_a, mp_ge]
            try simp only [x1]
            try simp only [ey]
            conv => whnf
            refine ⟨Nat.le_of_ble_eq_true rfl, Nat.le_of_ble_eq_true rfl, (by first | assumption | rfl), ?_⟩
            refine c_Xbyte (pLx_of hx' (fun a j z9 => by rw [up_n (by omega)])) (i := e) (by omega) ?_
            conv => whnf
            refine ⟨Nat.le_of_ble_eq_true rfl, Nat.le_of_ble_eq_true rfl, ?_⟩
            refine c_Xletter (fun hl => ?_) (fun hl => ?_)
            · skip
              conv => whnf
              refine ⟨fun g => ?_, fun g => ?_⟩
              · exact absurd g (by simp [sx_cc])
              · skip
                conv => whnf
                refine ⟨Nat.le_of_ble_eq_true rfl, Nat.le_of_ble_eq_true rfl, (by first | assumption | rfl), ?_⟩
                refine c_Xword hw (pLx_of hx' (fun a j z9 => by rw [up_n (by omega)])) (s := e) (by rw [up_i (by decide)]; exact ey) up_s (by omega) (fun σ3 hf3 r2 r6 r3 => ?_)
                conv => whnf
                refine ⟨rfl, ?_⟩
                first
                | exact h _ (hfi.trans (fun a j z9 => by unfold FXa at z9; rw [hf3 a j (by unfold FXw; omega), up_n (by omega)])) (cTk_let hs (by omega) hl r2 r3 ((hf3 33 4 (by decide)).trans up_s) r6)
                | exact h _ (hfi.trans (fun a j z9 => by unfold FXa at z9; rw [hf3 a j (by unfold FXn; omega), up_n (by omega)])) (cTk_dig hs (by omega) hl hd r2 r3 ((hf3 33 4 (by decide)).trans up_s) r5)
                | exact h _ (hfi.trans (fun a j z9 => by unfold FXa at z9; repeat (first | rw [up_n (by omega)] | rfl))) (cTk_sgn hs (by omega) hl hd (by rw [up_i (by decide), up_s, ek]; try omega) up_s (by rw [up_i (by decide), up_i (by decide)]; first | exact up_s | (rw [up_i (by decide)]; exact up_s)))
            · skip
              conv => whnf
              refine ⟨fun g => ?_, fun g => ?_⟩
              · skip
                conv => whnf
                refine ⟨Nat.le_of_ble_eq_true rfl, Nat.le_of_ble_eq_true rfl, ?_⟩
                refine c_Xdigit (fun hd => ?_) (fun hd => ?_)
                · skip
                  conv => whnf
                  refine ⟨fun g => ?_, fun g => ?_⟩
                  · exact absurd g (by simp [sx_cc])
                  · skip
                    conv => whnf
                    refine ⟨Nat.le_of_ble_eq_true rfl, Nat.le_of_ble_eq_true rfl, (by first | assumption | rfl), ?_⟩
                    refine c_Xnum9 (pLx_of hx' (fun a j z9 => by rw [up_n (by omega)])) (i := e) (by rw [up_i (by decide)]; exact ey) (by omega) (fun σ3 hf3 r2 r5 r3 => ?_) (fr.ptxa (hfi.trans (fun a j z9 => by unfold FXa at z9; rw [up_n (by omega)])) hT)
                    conv => whnf
                    refine ⟨rfl, ?_⟩
                    first
                    | exact h _ (hfi.trans (fun a j z9 => by unfold FXa at z9; rw [hf3 a j (by unfold FXw; omega), up_n (by omega)])) (cTk_let hs (by omega) hl r2 r3 ((hf3 33 4 (by decide)).trans up_s) r6)
                    | exact h _ (hfi.trans (fun a j z9 => by unfold FXa at z9; rw [hf3 a j (by unfold FXn; omega), up_n (by omega)])) (cTk_dig hs (by omega) hl hd r2 r3 ((hf3 33 4 (by decide)).trans up_s) r5)
                    | exact h _ (hfi.trans (fun a j z9 => by unfold FXa at z9; repeat (first | rw [up_n (by omega)] | rfl))) (cTk_sgn hs (by omega) hl hd (by rw [up_i (by decide), up_s, ek]; try omega) up_s (by rw [up_i (by decide), up_i (by decide)]; first | exact up_s | (rw [up_i (by decide)]; exact up_s)))
                · skip
                  conv => whnf
                  refine ⟨fun g => ?_, fun g => ?_⟩
                  · skip
                    conv => whnf
                    refine ⟨(by first | assumption | rfl), ?_⟩
                    try simp (disch := omega) only [Int.cast_ofNat_Int, up_s, up_a, up_i, mp_a, mp_ge]
                    try simp only [x1]
                    try simp only [ey]
                    conv => whnf
                    refine ⟨⟨by omega, by omega⟩, ?_⟩
                    conv => whnf
                    refine ⟨(by first | assumption | rfl), ?_⟩
                    try simp (disch := omega) only [Int.cast_ofNat_Int, up_s, up_a, up_i, mp_a, mp_ge]
                    try simp only [x1]
                    try simp only [ey]
                    conv => whnf
                    refine ⟨Nat.le_of_ble_eq_true rfl, Nat.le_of_ble_eq_true rfl, (by first | assumption | rfl), ?_⟩
                    refine c_Xsign (pLx_of hx' (fun a j z9 => by rw [up_n (by omega), up_n (by omega)])) (y := e + 1) up_s (by omega) (fun h2 => ?_) (fun h2 => ?_)
                    · have ek : (if fTwo (fTx tx n9 e) (fTx tx n9 (e + 1)) then e + 2 else e + 1) = e + 2 := if_pos h2
                      conv => whnf
                      refine ⟨(by first | assumption | rfl), ?_⟩
                      try simp (disch := omega) only [Int.cast_ofNat_Int, up_s, up_a, up_i, mp_a, mp_ge]
                      try simp only [x1]
                      try simp only [ey]
                      conv => whnf
                      refine ⟨rfl, ?_⟩
                      first
                      | exact h _ (hfi.trans (fun a j z9 => by unfold FXa at z9; rw [hf3 a j (by unfold FXw; omega), up_n (by omega)])) (cTk_let hs (by omega) hl r2 r3 ((hf3 33 4 (by decide)).trans up_s) r6)
                      | exact h _ (hfi.trans (fun a j z9 => by unfold FXa at z9; rw [hf3 a j (by unfold FXn; omega), up_n (by omega)])) (cTk_dig hs (by omega) hl hd r2 r3 ((hf3 33 4 (by decide)).trans up_s) r5)
                      | exact h _ (hfi.trans (fun a j z9 => by unfold FXa at z9; repeat (first | rw [up_n (by omega)] | rfl))) (cTk_sgn hs (by omega) hl hd (by rw [up_i (by decide), up_s, ek]; try omega) up_s (by rw [up_i (by decide), up_i (by decide)]; first | exact up_s | (rw [up_i (by decide)]; exact up_s)))
                    · have ek : (if fTwo (fTx tx n9 e) (fTx tx n9 (e + 1)) then e + 2 else e + 1) = e + 1 := if_neg h2
                      conv => whnf
                      refine ⟨(by first | assumption | rfl), ?_⟩
                      try simp (disch := omega) only [Int.cast_ofNat_Int, up_s, up_a, up_i, mp_a, mp_ge]
                      try simp only [x1]
                      try simp only [ey]
                      conv => whnf
                      refine ⟨rfl, ?_⟩
                      first
                      | exact h _ (hfi.trans (fun a j z9 => by unfold FXa at z9; rw [hf3 a j (by unfold FXw; omega), up_n (by omega)])) (cTk_let hs (by omega) hl r2 r3 ((hf3 33 4 (by decide)).trans up_s) r6)
                      | exact h _ (hfi.trans (fun a j z9 => by unfold FXa at z9; rw [hf3 a j (by unfold FXn; omega), up_n (by omega)])) (cTk_dig hs (by omega) hl hd r2 r3 ((hf3 33 4 (by decide)).trans up_s) r5)
                      | exact h _ (hfi.trans (fun a j z9 => by unfold FXa at z9; repeat (first | rw [up_n (by omega)] | rfl))) (cTk_sgn hs (by omega) hl hd (by rw [up_i (by decide), up_s, ek]; try omega) up_s (by rw [up_i (by decide), up_i (by decide)]; first | exact up_s | (rw [up_i (by decide)]; exact up_s)))
                  · exact absurd g (by simp [sx_cc])
              · exact absurd g (by simp [sx_cc])
          · simp only [sx_cc, Classical.not_not] at g
            conv => whnf
            refine ⟨(by first | assumption | rfl), ?_⟩
            try simp (disch := omega) only [Int.cast_ofNat_Int, up_s, up_a, up_i, mp_a, mp_ge]
            try simp only [x1]
            try simp only [ey]
            conv => whnf
            refine ⟨rfl, ?_⟩
            exact h _ (hfi.trans (fun a j z9 => by unfold FXa at z9; rw [up_n (by omega), up_n (by omega)])) (cTk_end hs (by omega) (by rw [up_i (by decide), up_i (by decide)]; exact ey) up_s (by rw [up_i (by decide), up_s]))
        · simp only [sx_cc, Classical.not_not] at g
          conv => whnf
          refine ⟨(by first | assumption | rfl), ?_⟩
          try simp (disch := omega) only [Int.cast_ofNat_Int, up_s, up_a, up_i, mp_a, mp_ge]
          try simp only [x1]
          try simp only [ey]
          conv => whnf
          refine ⟨⟨by omega, by omega⟩, ?_⟩
          conv => whnf
          refine ⟨(by first | assumption | rfl), ?_⟩
          try simp (disch := omega) only [Int.cast_ofNat_Int, up_s, up_a, up_i, mp_a, mp_ge]
          try simp only [x1]
          try simp only [ey]
          conv => whnf
          refine ⟨_, ?_, ⟨rfl, _, rfl, rfl, ?_, rfl⟩⟩
          · try rw [up_s]
            try rw [ey]
            omega
          · refine ⟨e + 1, hfi.trans (fun a j z9 => by unfold FXa at z9; rw [up_n (by omega)]), by omega, by omega, fun j y0 y1 => ?_, by rw [up_s]⟩
            by_cases e9 : j = e
            · rw [e9]; unfold pSpc; omega
            · exact hsp j y0 (by omega)
set_option maxRecDepth 20000 in
theorem c_Xbegin (hw : sx_WT X) (hT : PT σ) {n : Int} (hn : 0 ≤ n ∧ n ≤ 700) (ht : ∀ i : Int, 0 ≤ i → i < n → sx_and (σ 1 i) 255 = tx i) (h : ∀ (σ' : sx_S), fr (fun a i => a = 33) σ σ' → pLx σ' tx n → cTk σ' tx n 0 → Q none shM σ') : sx_Run X 14 [.inr (.inr 33), .inr (.inr 1), .inl n] shM σ Q := by
  refine sx_rule0 (own := 2) (cd := kX2_begin) (nL := 3) (by decide +kernel) (by decide +kernel) kX2_begin_ok (by decide +kernel) (Nat.le_of_ble_eq_true rfl) 40 ?_
  conv => whnf
  refine ⟨(by first | assumption | rfl), ?_⟩
  try simp (disch := omega) only [Int.cast_ofNat_Int, up_s, up_a, up_i, mp_a, mp_ge]
  conv => whnf
  refine ⟨(by first | assumption | rfl), ?_⟩
  try simp (disch := omega) only [Int.cast_ofNat_Int, up_s, up_a, up_i, mp_a, mp_ge]
  conv => whnf
  refine ⟨(by first | assumption | rfl), ?_⟩
  try simp (disch := omega) only [Int.cast_ofNat_Int, up_s, up_a, up_i, mp_a, mp_ge]
  conv => whnf
  refine ⟨Nat.le_of_ble_eq_true rfl, Nat.le_of_ble_eq_true rfl, (by first | assumption | rfl), ?_⟩
  refine c_Xadv hw (fr.ptxb (fun a j z9 => by rw [up_a z9, up_a z9, up_a z9]) hT) (tx := tx) (n9 := n) ⟨by rw [up_i (by decide), up_i (by decide), up_s], by rw [up_i (by decide), up_s], hn, fun i y0 y1 => by rw [up_a (by decide), up_a (by decide), up_a (by decide)]; exact ht i y0 y1⟩ (i := 0) up_s (by omega) (fun σ3 hf3 hk3 => ?_)
  conv => whnf
  refine ⟨rfl, ?_⟩
  exact h _ (fun a j z9 => by rw [hf3 a j (fun z8 => z9 z8.1), up_a z9, up_a z9, up_a z9]) ⟨(hf3 33 0 (by decide)).trans (by rw [up_i (by decide), up_i (by decide), up_s]), (hf3 33 1 (by decide)).trans (by rw [up_i (by decide), up_s]), hn, fun i y0 y1 => by rw [hf3 1 i (by unfold FXa; omega), up_a (by decide), up_a (by decide), up_a (by decide)]; exact ht i y0 y1⟩ hk3
end SXO8
