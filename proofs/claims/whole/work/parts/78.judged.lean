/-! JUDGED (by wip/whole) -/
section SXM10
variable {X : sx_X} {Q : sx_R} {s t p b c kk K : Int} {σ σ0 σ' σ1 σ2 : sx_S} {P : aP} {A B : aM} {C : aC}
def fKnw (C : aC) : Int := if C.kn = -1 then C.n else C.kn
theorem fKnw_bd (w : wC P C) : 0 ≤ fKnw C ∧ fKnw C ≤ C.n := by
  have h1 := w.n
  have h2 := w.kn
  unfold fKnw
  split <;> omega
/-- which ones are struck, the d last looked at -/
def fStk (tg : Int → Int) (n : Int) : Nat → Int → Int
  | 0 => fun _ => 0
  | d + 1 => if 0 ≤ tg (n - 1 - d) ∧ fStk tg n d (n - 1 - d) = 0 then fU (fStk tg n d) (tg (n - 1 - d)) 1 else fStk tg n d
theorem fStk_t {tg : Int → Int} {n i : Int} (h1 : i < n) (h : 0 ≤ tg i ∧ fStk tg n (n - 1 - i).toNat i = 0) : fStk tg n (n - 1 - (i - 1)).toNat = fU (fStk tg n (n - 1 - i).toNat) (tg i) 1 := by
  rw [show (n - 1 - (i - 1)).toNat = (n - 1 - i).toNat + 1 by omega]
  have e : n - 1 - (((n - 1 - i).toNat : Nat) : Int) = i := by omega
  show (if 0 ≤ tg (n - 1 - (((n - 1 - i).toNat : Nat) : Int)) ∧ fStk tg n (n - 1 - i).toNat (n - 1 - (((n - 1 - i).toNat : Nat) : Int)) = 0 then fU (fStk tg n (n - 1 - i).toNat) (tg (n - 1 - (((n - 1 - i).toNat : Nat) : Int))) 1 else _) = _
  rw [e, if_pos h]
theorem fStk_f {tg : Int → Int} {n i : Int} (h1 : i < n) (h : ¬ (0 ≤ tg i ∧ fStk tg n (n - 1 - i).toNat i = 0)) : fStk tg n (n - 1 - (i - 1)).toNat = fStk tg n (n - 1 - i).toNat := by
  rw [show (n - 1 - (i - 1)).toNat = (n - 1 - i).toNat + 1 by omega]
  have e : n - 1 - (((n - 1 - i).toNat : Nat) : Int) = i := by omega
  show (if 0 ≤ tg (n - 1 - (((n - 1 - i).toNat : Nat) : Int)) ∧ fStk tg n (n - 1 - i).toNat (n - 1 - (((n - 1 - i).toNat : Nat) : Int)) = 0 then _ else fStk tg n (n - 1 - i).toNat) = _
  rw [e, if_neg h]
theorem fStk_01 {tg : Int → Int} {n : Int} : ∀ (d : Nat) (k : Int), fStk tg n d k = 0 ∨ fStk tg n d k = 1
  | 0, _ => Or.inl rfl
  | d + 1, k => by
    have h := fStk_01 (tg := tg) (n := n) d k
    show (if 0 ≤ tg (n - 1 - d) ∧ fStk tg n d (n - 1 - d) = 0 then fU (fStk tg n d) (tg (n - 1 - d)) 1 else fStk tg n d) k = 0 ∨ (if 0 ≤ tg (n - 1 - d) ∧ fStk tg n d (n - 1 - d) = 0 then fU (fStk tg n d) (tg (n - 1 - d)) 1 else fStk tg n d) k = 1
    by_cases q : 0 ≤ tg (n - 1 - d) ∧ fStk tg n d (n - 1 - d) = 0
    · rw [if_pos q]
      by_cases e9 : k = tg (n - 1 - d)
      · rw [e9, fU_s]; exact Or.inr rfl
      · rw [fU_n e9]; exact h
    · rw [if_neg q]; exact h
abbrev pHold (A : aM) (C : aC) (k : Int) : Prop := ¬ aTop A (C.ce k) = -1 ∧ A.bl (aTop A (C.ce k)) = 0 ∧ A.lk (aTop A (C.ce k)) = C.wk k ∧ C.fm k ≤ A.bo (aTop A (C.ce k)) ∧ A.bo (aTop A (C.ce k)) ≤ C.t2 k
def fStr (C : aC) : Int → Int := fStk C.tg (fKnw C) (fKnw C).toNat
def pWrg (A : aM) (C : aC) (k : Int) : Prop := C.tg k = -1 ∧ fStr C k = 0 ∧ ¬ pHold A C k
/-- v is the first place of b below n; -1 -/
def pFst (b : Int → Prop) (n v : Int) : Prop := (v = -1 ∧ ∀ j : Int, 0 ≤ j → j < n → ¬ b j) ∨ (0 ≤ v ∧ v < n ∧ b v ∧ ∀ j : Int, 0 ≤ j → j < v → ¬ b j)
theorem pFst_u {f : Int → Prop} {n v w : Int} (h : pFst f n v) (h' : pFst f n w) : v = w := by
  rcases h with ⟨h1, h2⟩ | ⟨h1, h2, h3, h4⟩ <;> rcases h' with ⟨g1, g2⟩ | ⟨g1, g2, g3, g4⟩
  · omega
  · exact absurd g3 (h2 w g1 g2)
  · exact absurd h3 (g2 v h1 h2)
  · by_cases e : v < w
    · exact absurd h3 (g4 v h1 e)
    · by_cases e' : w < v
      · exact absurd g3 (h4 w g1 e')
      · omega
set_option maxRecDepth 20000 in
theorem c_Cknown (g0 : cC σ C) (h : Q (some (.inl (fKnw C))) shM σ) : sx_Run X 4 [.inr (.inr 110)] shM σ Q := by
  have en := g0.n
  have ek := g0.kn
  refine sx_rule0 (own := 0) (cd := kX0_knownSize) (nL := 1) (by decide +kernel) (by decide +kernel) kX0_knownSize_ok (by decide +kernel) (Nat.le_of_ble_eq_true rfl) 40 ?_
  conv => whnf
  refine ⟨(by first | assumption | rfl), ?_⟩
  try simp (disch := omega) only [Int.cast_ofNat_Int, up_s, up_a, up_i, mp_a, mp_ge]
  try simp only [en]
  try simp only [ek]
  conv => whnf
  refine ⟨fun g => ?_, fun g => ?_⟩
  · simp only [sx_cc, Classical.not_not] at g
    conv => whnf
    refine ⟨(by first | assumption | rfl), ?_⟩
    try simp (disch := omega) only [Int.cast_ofNat_Int, up_s, up_a, up_i, mp_a, mp_ge]
    try simp only [en]
    try simp only [ek]
    conv => whnf
    refine ⟨fun q9 => by first | (simp at q9; done) | omega, ?_⟩
    first | (rw [show fKnw C = C.n from if_pos (by omega)] at h; exact h) | (rw [show fKnw C = C.kn from if_neg (by omega)] at h; exact h)
  · simp only [sx_cc, Classical.not_not] at g
    conv => whnf
    refine ⟨(by first | assumption | rfl), ?_⟩
    try simp (disch := omega) only [Int.cast_ofNat_Int, up_s, up_a, up_i, mp_a, mp_ge]
    try simp only [en]
    try simp only [ek]
    conv => whnf
    refine ⟨fun q9 => by first | (simp at q9; done) | omega, ?_⟩
    first | (rw [show fKnw C = C.n from if_pos (by omega)] at h; exact h) | (rw [show fKnw C = C.kn from if_neg (by omega)] at h; exact h)
set_option maxRecDepth 20000 in
theorem c_Rknown (w : wC P C) (g0 : rC σ C) (h : Q (some (.inl (fKnw C))) shM σ) : sx_Run X 260 [.inr (.inr 124)] shM σ Q := by
  have en := g0.n
  have ek := g0.kn
  have wk := w.kn
  refine sx_rule0 (own := 12) (cd := kX12_knownBy) (nL := 1) (by decide +kernel) (by decide +kernel) kX12_knownBy_ok (by decide +kernel) (Nat.le_of_ble_eq_true rfl) 40 ?_
  conv => whnf
  refine ⟨(by first | assumption | rfl), ?_⟩
  try simp (disch := omega) only [Int.cast_ofNat_Int, up_s, up_a, up_i, mp_a, mp_ge]
  try simp only [en]
  try simp only [ek]
  conv => whnf
  refine ⟨fun g => ?_, fun g => ?_⟩
  · simp only [sx_cc, Classical.not_not] at g
    conv => whnf
    refine ⟨(by first | assumption | rfl), ?_⟩
    try simp (disch := omega) only [Int.cast_ofNat_Int, up_s, up_a, up_i, mp_a, mp_ge]
    try simp only [en]
    try simp only [ek]
    conv => whnf
    refine ⟨fun q9 => by first | (simp at q9; done) | omega, ?_⟩
    first | (rw [show fKnw C = C.n from if_pos (by omega)] at h; exact h) | (rw [show fKnw C = C.kn from if_neg (by omega)] at h; exact h)
  · simp only [sx_cc, Classical.not_not] at g
    conv => whnf
    refine ⟨(by first | assumption | rfl), ?_⟩
    try simp (disch := omega) only [Int.cast_ofNat_Int, up_s, up_a, up_i, mp_a, mp_ge]
    try simp only [en]
    try simp only [ek]
    conv => whnf
    refine ⟨fun q9 => by first | (simp at q9; done) | omega, ?_⟩
    first | (rw [show fKnw C = C.n from if_pos (by omega)] at h; exact h) | (rw [show fKnw C = C.kn from if_neg (by omega)] at h; exact h)
set_option maxRecDepth 20000 in
theorem c_Cstruck (hT : PT σ) (w : wC P C) (g0 : cC σ C) (h : ∀ σ', (∀ a i : Int, ¬ a = 116 → σ' a i = σ a i) → (∀ j : Int, 0 ≤ j → j < 24 → σ' 116 j = fStr C j) → Q none shM σ') : sx_Run X 5 [.inr (.inr 110), .inl (fKnw C)] shM σ Q := by
  have a7 := pt_110_7 hT
  have hkb := fKnw_bd w
  have wn := w.n
  refine sx_rule2 (own := 0) (cd := kX0_findStruck) (nL := 4) (by decide +kernel) (by decide +kernel) kX0_findStruck_ok (by decide +kernel) (Nat.le_of_ble_eq_true rfl) [12] 40 (fun n t L st _ σ' => (t = 12 ∧ ∃ i : Int, ∃ w3 : Option sx_V, st = [] ∧ L = [some (.inr (.inr (110))), some (.inl (fKnw C)), some (.inl (i)), w3] ∧ ((∀ a i : Int, ¬ a = 116 → σ' a i = σ a i) ∧ (∀ j : Int, 0 ≤ j → j < 24 → σ' 116 j = fStk C.tg (fKnw C) (fKnw C - 1 - i).toNat j) ∧ -1 ≤ i ∧ i ≤ fKnw C - 1) ∧ n = (i + 1).toNat)) ?_ ?_
  · skip
    conv => whnf
    refine ⟨(by first | assumption | rfl), ?_⟩
    try simp (disch := omega) only [Int.cast_ofNat_Int, up_s, up_a, up_i, mp_a, mp_ge]
    try simp only [a7]
    try simp only [a6]
    try simp only [et]
    try simp only [e16]
    conv => whnf
    refine ⟨Nat.le_of_ble_eq_true rfl, Nat.le_of_ble_eq_true rfl, ?_⟩
    refine c_fill (a := 116) (m := 24) rfl (by decide) ?_
    conv => whnf
    refine ⟨⟨by omega, by omega⟩, ?_⟩
    conv => whnf
    refine ⟨_, ⟨rfl, _, _, rfl, rfl, ?_, rfl⟩⟩
    exact ⟨fun a i z9 => fil_a z9, fun j y0 y1 => by rw [fil_in y0 (show j < ((24 : Nat) : Int) from y1), show (fKnw C - 1 - (fKnw C - 1)).toNat = 0 by omega]; rfl, by omega, by omega⟩
  · intro n t L st σ' hk
    obtain ⟨rfl, i, w3, rfl, rfl, hc, rfl⟩ := hk
    obtain ⟨xc, hs, hi0, hi1⟩ := hc
    have Fc : fr FCl σ σ' := fun a i z9 => xc a i (by unfold FCl at z9; omega)
    have a7 := pt_110_7 (Fc.ptcl hT)
    have a6 := pt_110_6 (Fc.ptcl hT)
    conv => whnf
    refine ⟨fun g => ?_, fun g => ?_⟩
    · simp only [sx_cc, Classical.not_not] at g
      conv => whnf
      refine ⟨rfl, ?_⟩
      have ei : i = -1 := by omega
      subst ei
      refine h _ xc (fun j y0 y1 => ?_)
      rw [hs j y0 y1, show (fKnw C - 1 - -1).toNat = (fKnw C).toNat by omega]
      rfl
    · simp only [sx_cc, Classical.not_not] at g
      have et := (xc 115 i (by decide)).trans (g0.tg i (by omega) (by omega))
      have wt := w.tg i (by omega) (by omega)
      have e16 := hs i (by omega) (by omega)
      have h01 := fStk_01 (tg := C.tg) (n := fKnw C) (fKnw C - 1 - i).toNat i
      conv => whnf
      refine ⟨(by first | assumption | rfl), ?_⟩
      try simp (disch := omega) only [Int.cast_ofNat_Int, up_s, up_a, up_i, mp_a, mp_ge]
      try simp only [a7]
      try simp only [a6]
      try simp only [et]
      try simp only [e16]
      conv => whnf
      refine ⟨sx_ixI (by first | assumption | rfl) (by omega) (by omega), ?_⟩
      try simp (disch := omega) only [Int.cast_ofNat_Int, up_s, up_a, up_i, mp_a, mp_ge]
      try simp only [a7]
      try simp only [a6]
      try simp only [et]
      try simp only [e16]
      conv => whnf
      refine ⟨fun g => ?_, fun g => ?_⟩
      · simp only [sx_cc, Classical.not_not] at g
        conv => whnf
        refine ⟨⟨by omega, by omega⟩, ?_⟩
        conv => whnf
        refine ⟨_, ?_, ⟨rfl, _, _, rfl, rfl, ?_, rfl⟩⟩
        · omega
        · first | exact ⟨fun a i z9 => by rw [up_a z9]; exact xc a i z9, fun j y0 y1 => by
            rw [show i + -1 = i - 1 by omega, fStk_t (by omega) ⟨by omega, by omega⟩]
            by_cases e9 : j = C.tg i
            · rw [e9, up_s, fU_s]
            · rw [up_i e9, fU_n e9]; exact hs j y0 y1, by omega, by omega⟩ | exact ⟨xc, fun j y0 y1 => by rw [show i + -1 = i - 1 by omega, fStk_f (by omega) (by omega)]; exact hs j y0 y1, by omega, by omega⟩
      · simp only [sx_cc, Classical.not_not] at g
        conv => whnf
        refine ⟨fun g => ?_, fun g => ?_⟩
        · simp only [sx_cc, Classical.not_not] at g
          conv => whnf
          refine ⟨⟨by omega, by omega⟩, ?_⟩
          conv => whnf
          refine ⟨_, ?_, ⟨rfl, _, _, rfl, rfl, ?_, rfl⟩⟩
          · omega
          · first | exact ⟨fun a i z9 => by rw [up_a z9]; exact xc a i z9, fun j y0 y1 => by
              rw [show i + -1 = i - 1 by omega, fStk_t (by omega) ⟨by omega, by omega⟩]
              by_cases e9 : j = C.tg i
              · rw [e9, up_s, fU_s]
              · rw [up_i e9, fU_n e9]; exact hs j y0 y1, by omega, by omega⟩ | exact ⟨xc, fun j y0 y1 => by rw [show i + -1 = i - 1 by omega, fStk_f (by omega) (by omega)]; exact hs j y0 y1, by omega, by omega⟩
        · simp only [sx_cc, Classical.not_not] at g
          conv => whnf
          refine ⟨(by first | assumption | rfl), ?_⟩
          try simp (disch := omega) only [Int.cast_ofNat_Int, up_s, up_a, up_i, mp_a, mp_ge]
          try simp only [a7]
          try simp only [a6]
          try simp only [et]
          try simp only [e16]
          conv => whnf
          refine ⟨sx_ixI (by first | assumption | rfl) (by omega) (by omega), ?_⟩
          try simp (disch := omega) only [Int.cast_ofNat_Int, up_s, up_a, up_i, mp_a, mp_ge]
          try simp only [a7]
          try simp only [a6]
          try simp only [et]
          try simp only [e16]
          conv => whnf
          refine ⟨fun g => ?_, fun g => ?_⟩
          · simp only [sx_cc, Classical.not_not] at g
            conv => whnf
            refine ⟨⟨by omega, by omega⟩, ?_⟩
            conv => whnf
            refine ⟨_, ?_, ⟨rfl, _, _, rfl, rfl, ?_, rfl⟩⟩
            · omega
            · first | exact ⟨fun a i z9 => by rw [up_a z9]; exact xc a i z9, fun j y0 y1 => by
                rw [show i + -1 = i - 1 by omega, fStk_t (by omega) ⟨by omega, by omega⟩]
                by_cases e9 : j = C.tg i
                · rw [e9, up_s, fU_s]
                · rw [up_i e9, fU_n e9]; exact hs j y0 y1, by omega, by omega⟩ | exact ⟨xc, fun j y0 y1 => by rw [show i + -1 = i - 1 by omega, fStk_f (by omega) (by omega)]; exact hs j y0 y1, by omega, by omega⟩
          · simp only [sx_cc, Classical.not_not] at g
            conv => whnf
            refine ⟨(by first | assumption | rfl), ?_⟩
            try simp (disch := omega) only [Int.cast_ofNat_Int, up_s, up_a, up_i, mp_a, mp_ge]
            try simp only [a7]
            try simp only [a6]
            try simp only [et]
            try simp only [e16]
            conv => whnf
            refine ⟨sx_ixI (by first | assumption | rfl) (by omega) (by omega), ?_⟩
            conv => whnf
            refine ⟨⟨by omega, by omega⟩, ?_⟩
            conv => whnf
            refine ⟨_, ?_, ⟨rfl, _, _, rfl, rfl, ?_, rfl⟩⟩
            · omega
            · first | exact ⟨fun a i z9 => by rw [up_a z9]; exact xc a i z9, fun j y0 y1 => by
                rw [show i + -1 = i - 1 by omega, fStk_t (by omega) ⟨by omega, by omega⟩]
                by_cases e9 : j = C.tg i
                · rw [e9, up_s, fU_s]
                · rw [up_i e9, fU_n e9]; exact hs j y0 y1, by omega, by omega⟩ | exact ⟨xc, fun j y0 y1 => by rw [show i + -1 = i - 1 by omega, fStk_f (by omega) (by omega)]; exact hs j y0 y1, by omega, by omega⟩
set_option maxRecDepth 20000 in
theorem c_Cholds (wp : wP P) (wm : wM P A c) (g : GC 40 p P A σ) (w : wC P C) (g0 : cC σ C) {k : Int} (hk : 0 ≤ k ∧ k < C.n) (ht : C.tg k = -1) (h1 : pHold A C k → Q (some (.inl 1)) shM σ) (h0 : ¬ pHold A C k → Q (some (.inl 0)) shM σ) : sx_Run X 7 [.inr (.inr 110), .inl k, .inr (.inr 40)] shM σ Q := by
  have hs : isS 40 := Or.inl rfl
  have k0 := lkS0 hs
  have k4 := lkS4 hs
  have k5 := lkS5 hs
  have k8 := lkS8 hs
  have k12 := lkS12 hs
  have s5 := ptS_5 g.pt hs
  have m8 := ptM_8 g.pt hs
  have m1 := ptM_1 g.pt hs
  have m4 := ptM_4 g.pt hs
  have a2 := pt_110_2 g.pt
  have a3 := pt_110_3 g.pt
  have a4 := pt_110_4 g.pt
  have a5 := pt_110_5 g.pt
  have ece := g0.ce k hk.1 hk.2 ht
  have ewk := g0.wk k hk.1 hk.2 ht
  have efm := g0.fm k hk.1 hk.2 ht
  have et2 := g0.t2 k hk.1 hk.2 ht
  have wn := w.n
  have wn2 := wm.n
  have htb := aTop_bd wm (C.ce k)
  have gg := g
  refine sx_rule0 (own := 0) (cd := kX0_holds) (nL := 5) (by decide +kernel) (by decide +kernel) kX0_holds_ok (by decide +kernel) (Nat.le_of_ble_eq_true rfl) 40 ?_
  conv => whnf
  refine ⟨(by first | assumption | rfl), ?_⟩
  try simp (disch := omega) only [Int.cast_ofNat_Int, up_s, up_a, up_i, mp_a, mp_ge]
  try simp only [s5]
  try simp only [m8]
  try simp only [m1]
  try simp only [m4]
  try simp only [a2]
  try simp only [a3]
  try simp only [a4]
  try simp only [a5]
  try simp only [ece]
  try simp only [ewk]
  try simp only [efm]
  try simp only [et2]
  try simp only [ebl]
  try simp only [elk]
  try simp only [ebo]
  conv => whnf
  refine ⟨(by first | assumption | rfl), ?_⟩
  try simp (disch := omega) only [Int.cast_ofNat_Int, up_s, up_a, up_i, mp_a, mp_ge]
  try simp only [s5]
  try simp only [m8]
  try simp only [m1]
  try simp only [m4]
  try simp only [a2]
  try simp only [a3]
  try simp only [a4]
  try simp only [a5]
  try simp only [ece]
  try simp only [ewk]
  try simp only [efm]
  try simp only [et2]
  try simp only [ebl]
  try simp only [elk]
  try simp only [ebo]
  conv => whnf
  refine ⟨sx_ixI (by first | assumption | rfl) (by omega) (by omega), ?_⟩
  try simp (disch := omega) only [Int.cast_ofNat_Int, up_s, up_a, up_i, mp_a, mp_ge]
  try simp only [s5]
  try simp only [m8]
  try simp only [m1]
  try simp only [m4]
  try simp only [a2]
  try simp only [a3]
  try simp only [a4]
  try simp only [a5]
  try simp only [ece]
  try simp only [ewk]
  try simp only [efm]
  try simp only [et2]
  try simp only [ebl]
  try simp only [elk]
  try simp only [ebo]
  conv => whnf
  refine ⟨Nat.le_of_ble_eq_true rfl, Nat.le_of_ble_eq_true rfl, (by first | assumption | rfl), ?_⟩
  refine c_MreadIn gg.pt hs (by rw [gg.cs.n]; exact wm.n) ?_
  rw [cTop gg.cs]
  conv => whnf
  refine ⟨fun g7 => ?_, fun g7 => ?_⟩
  · simp only [sx_cc, Classical.not_not] at g7
    conv => whnf
    refine ⟨fun q9 => by first | (simp at q9; done) | omega, ?_⟩
    first | exact h1 ⟨by omega, by omega, by omega, by omega, by omega⟩ | exact h0 (fun z9 => by omega)
  · simp only [sx_cc, Classical.not_not] at g7
    have ebl := gg.cs.bl (aTop A (C.ce k)) (by omega) (by omega)
    have elk := gg.cs.lk (aTop A (C.ce k)) (by omega) (by omega)
    have ebo := gg.cs.bo (aTop A (C.ce k)) (by omega) (by omega)
    conv => whnf
    refine ⟨(by first | assumption | rfl), ?_⟩
    try simp (disch := omega) only [Int.cast_ofNat_Int, up_s, up_a, up_i, mp_a, mp_ge]
    try simp only [s5]
    try simp only [m8]
    try simp only [m1]
    try simp only [m4]
    try simp only [a2]
    try simp only [a3]
    try simp only [a4]
    try simp only [a5]
    try simp only [ece]
    try simp only [ewk]
    try simp only [efm]
    try simp only [et2]
    try simp only [ebl]
    try simp only [elk]
    try simp only [ebo]
    conv => whnf
    refine ⟨sx_ixI (by first | assumption | rfl) (by omega) (by omega), ?_⟩
    try simp (disch := omega) only [Int.cast_ofNat_Int, up_s, up_a, up_i, mp_a, mp_ge]
    try simp only [s5]
    try simp only [m8]
    try simp only [m1]
    try simp only [m4]
    try simp only [a2]
    try simp only [a3]
    try simp only [a4]
    try simp only [a5]
    try simp only [ece]
    try simp only [ewk]
    try simp only [efm]
    try simp only [et2]
    try simp only [ebl]
    try simp only [elk]
    try simp only [ebo]
    conv => whnf
    refine ⟨fun g7 => ?_, fun g7 => ?_⟩
    · simp only [sx_cc, Classical.not_not] at g7
      conv => whnf
      refine ⟨fun q9 => by first | (simp at q9; done) | omega, ?_⟩
      first | exact h1 ⟨by omega, by omega, by omega, by omega, by omega⟩ | exact h0 (fun z9 => by omega)
    · simp only [sx_cc, Classical.not_not] at g7
      conv => whnf
      refine ⟨(by first | assumption | rfl), ?_⟩
      try simp (disch := omega) only [Int.cast_ofNat_Int, up_s, up_a, up_i, mp_a, mp_ge]
      try simp only [s5]
      try simp only [m8]
      try simp only [m1]
      try simp only [m4]
      try simp only [a2]
      try simp only [a3]
      try simp only [a4]
      try simp only [a5]
      try simp only [ece]
      try simp only [ewk]
      try simp only [efm]
      try simp only [et2]
      try simp only [ebl]
      try simp only [elk]
      try simp only [ebo]
      conv => whnf
      refine ⟨sx_ixI (by first | assumption | rfl) (by omega) (by omega), ?_⟩
      try simp (disch := omega) only [Int.cast_ofNat_Int, up_s, up_a, up_i, mp_a, mp_ge]
      try simp only [s5]
      try simp only [m8]
      try simp only [m1]
      try simp only [m4]
      try simp only [a2]
      try simp only [a3]
      try simp only [a4]
      try simp only [a5]
      try simp only [ece]
      try simp only [ewk]
      try simp only [efm]
      try simp only [et2]
      try simp only [ebl]
      try simp only [elk]
      try simp only [ebo]
      conv => whnf
      refine ⟨(by first | assumption | rfl), ?_⟩
      try simp (disch := omega) only [Int.cast_ofNat_Int, up_s, up_a, up_i, mp_a, mp_ge]
      try simp only [s5]
      try simp only [m8]
      try simp only [m1]
      try simp only [m4]
      try simp only [a2]
      try simp only [a3]
      try simp only [a4]
      try simp only [a5]
      try simp only [ece]
      try simp only [ewk]
      try simp only [efm]
      try simp only [et2]
      try simp only [ebl]
      try simp only [elk]
      try simp only [ebo]
      conv => whnf
      refine ⟨sx_ixI (by first | assumption | rfl) (by omega) (by omega), ?_⟩
      try simp (disch := omega) only [Int.cast_ofNat_Int, up_s, up_a, up_i, mp_a, mp_ge]
      try simp only [s5]
      try simp only [m8]
      try simp only [m1]
      try simp only [m4]
      try simp only [a2]
      try simp only [a3]
      try simp only [a4]
      try simp only [a5]
      try simp only [ece]
      try simp only [ewk]
      try simp only [efm]
      try simp only [et2]
      try simp only [ebl]
      try simp only [elk]
      try simp only [ebo]
      conv => whnf
      refine ⟨fun g7 => ?_, fun g7 => ?_⟩
      · simp only [sx_cc, Classical.not_not] at g7
        conv => whnf
        refine ⟨fun q9 => by first | (simp at q9; done) | omega, ?_⟩
        first | exact h1 ⟨by omega, by omega, by omega, by omega, by omega⟩ | exact h0 (fun z9 => by omega)
      · simp only [sx_cc, Classical.not_not] at g7
        conv => whnf
        refine ⟨(by first | assumption | rfl), ?_⟩
        try simp (disch := omega) only [Int.cast_ofNat_Int, up_s, up_a, up_i, mp_a, mp_ge]
        try simp only [s5]
        try simp only [m8]
        try simp only [m1]
        try simp only [m4]
        try simp only [a2]
        try simp only [a3]
        try simp only [a4]
        try simp only [a5]
        try simp only [ece]
        try simp only [ewk]
        try simp only [efm]
        try simp only [et2]
        try simp only [ebl]
        try simp only [elk]
        try simp only [ebo]
        conv => whnf
        refine ⟨sx_ixI (by first | assumption | rfl) (by omega) (by omega), ?_⟩
        try simp (disch := omega) only [Int.cast_ofNat_Int, up_s, up_a, up_i, mp_a, mp_ge]
        try simp only [s5]
        try simp only [m8]
        try simp only [m1]
        try simp only [m4]
        try simp only [a2]
        try simp only [a3]
        try simp only [a4]
        try simp only [a5]
        try simp only [ece]
        try simp only [ewk]
        try simp only [efm]
        try simp only [et2]
        try simp only [ebl]
        try simp only [elk]
        try simp only [ebo]
        conv => whnf
        refine ⟨(by first | assumption | rfl), ?_⟩
        try simp (disch := omega) only [Int.cast_ofNat_Int, up_s, up_a, up_i, mp_a, mp_ge]
        try simp only [s5]
        try simp only [m8]
        try simp only [m1]
        try simp only [m4]
        try simp only [a2]
        try simp only [a3]
        try simp only [a4]
        try simp only [a5]
        try simp only [ece]
        try simp only [ewk]
        try simp only [efm]
        try simp only [et2]
        try simp only [ebl]
        try simp only [elk]
        try simp only [ebo]
        conv => whnf
        refine ⟨sx_ixI (by first | assumption | rfl) (by omega) (by omega), ?_⟩
        try simp (disch := omega) only [Int.cast_ofNat_Int, up_s, up_a, up_i, mp_a, mp_ge]
        try simp only [s5]
        try simp only [m8]
        try simp only [m1]
        try simp only [m4]
        try simp only [a2]
        try simp only [a3]
        try simp only [a4]
        try simp only [a5]
        try simp only [ece]
        try simp only [ewk]
        try simp only [efm]
        try simp only [et2]
        try simp only [ebl]
        try simp only [elk]
        try simp only [ebo]
        conv => whnf
        refine ⟨fun g7 => ?_, fun g7 => ?_⟩
        · simp only [sx_cc, Classical.not_not] at g7
          conv => whnf
          refine ⟨fun q9 => by first | (simp at q9; done) | omega, ?_⟩
          first | exact h1 ⟨by omega, by omega, by omega, by omega, by omega⟩ | exact h0 (fun z9 => by omega)
        · simp only [sx_cc, Classical.not_not] at g7
          conv => whnf
          refine ⟨(by first | assumption | rfl), ?_⟩
          try simp (disch := omega) only [Int.cast_ofNat_Int, up_s, up_a, up_i, mp_a, mp_ge]
          try simp only [s5]
          try simp only [m8]
          try simp only [m1]
          try simp only [m4]
          try simp only [a2]
          try simp only [a3]
          try simp only [a4]
          try simp only [a5]
          try simp only [ece]
          try simp only [ewk]
          try simp only [efm]
          try simp only [et2]
          try simp only [ebl]
          try simp only [elk]
          try simp only [ebo]
          conv => whnf
          refine ⟨sx_ixI (by first | assumption | rfl) (by omega) (by omega), ?_⟩
          try simp (disch := omega) only [Int.cast_ofNat_Int, up_s, up_a, up_i, mp_a, mp_ge]
          try simp only [s5]
          try simp only [m8]
          try simp only [m1]
          try simp only [m4]
          try simp only [a2]
          try simp only [a3]
          try simp only [a4]
          try simp only [a5]
          try simp only [ece]
          try simp only [ewk]
          try simp only [efm]
          try simp only [et2]
          try simp only [ebl]
          try simp only [elk]
          try simp only [ebo]
          conv => whnf
          refine ⟨(by first | assumption | rfl), ?_⟩
          try simp (disch := omega) only [Int.cast_ofNat_Int, up_s, up_a, up_i, mp_a, mp_ge]
          try simp only [s5]
          try simp only [m8]
          try simp only [m1]
          try simp only [m4]
          try simp only [a2]
          try simp only [a3]
          try simp only [a4]
          try simp only [a5]
          try simp only [ece]
          try simp only [ewk]
          try simp only [efm]
          try simp only [et2]
          try simp only [ebl]
          try simp only [elk]
          try simp only [ebo]
          conv => whnf
          refine ⟨sx_ixI (by first | assumption | rfl) (by omega) (by omega), ?_⟩
          try simp (disch := omega) only [Int.cast_ofNat_Int, up_s, up_a, up_i, mp_a, mp_ge]
          try simp only [s5]
          try simp only [m8]
          try simp only [m1]
          try simp only [m4]
          try simp only [a2]
          try simp only [a3]
          try simp only [a4]
          try simp only [a5]
          try simp only [ece]
          try simp only [ewk]
          try simp only [efm]
          try simp only [et2]
          try simp only [ebl]
          try simp only [elk]
          try simp only [ebo]
          conv => whnf
          refine ⟨fun g7 => ?_, fun g7 => ?_⟩
          · simp only [sx_cc, Classical.not_not] at g7
            conv => whnf
            refine ⟨fun q9 => by first | (simp at q9; done) | omega, ?_⟩
            first | exact h1 ⟨by omega, by omega, by omega, by omega, by omega⟩ | exact h0 (fun z9 => by omega)
          · simp only [sx_cc, Classical.not_not] at g7
            conv => whnf
            refine ⟨fun q9 => by first | (simp at q9; done) | omega, ?_⟩
            first | exact h1 ⟨by omega, by omega, by omega, by omega, by omega⟩ | exact h0 (fun z9 => by omega)
set_option maxRecDepth 20000 in
theorem c_Cfirst (hp : isP p) (wp : wP P) (wm : wM P A c) (gg : GC 40 p P A σ) (w : wC P C) (g0 : cC σ C) (h : ∀ σ' v, (∀ a i : Int, ¬ a = 116 → σ' a i = σ a i) → pFst (pWrg A C) (fKnw C) v → Q (some (.inl v)) shM σ') : sx_Run X 6 [.inr (.inr 110), .inr (.inr 40)] shM σ Q := by
  have hkb := fKnw_bd w
  have wn := w.n
  refine sx_rule2 (own := 0) (cd := kX0_firstWrong) (nL := 4) (by decide +kernel) (by decide +kernel) kX0_firstWrong_ok (by decide +kernel) (Nat.le_of_ble_eq_true rfl) [12] 40 (fun n t L st _ σ' => (t = 12 ∧ ∃ i : Int, st = [] ∧ L = [some (.inr (.inr (110))), some (.inr (.inr (40))), some (.inl (fKnw C)), some (.inl (i))] ∧ ((∀ a i : Int, ¬ a = 116 → σ' a i = σ a i) ∧ (∀ j : Int, 0 ≤ j → j < 24 → σ' 116 j = fStr C j) ∧ (∀ j : Int, 0 ≤ j → j < i → ¬ pWrg A C j) ∧ 0 ≤ i ∧ i ≤ fKnw C) ∧ n = (fKnw C - i).toNat)) ?_ ?_
  · skip
    conv => whnf
    refine ⟨Nat.le_of_ble_eq_true rfl, Nat.le_of_ble_eq_true rfl, (by first | assumption | rfl), ?_⟩
    refine c_Cknown g0 ?_
    conv => whnf
    refine ⟨Nat.le_of_ble_eq_true rfl, Nat.le_of_ble_eq_true rfl, (by first | assumption | rfl), ?_⟩
    refine c_Cstruck gg.pt w g0 ?_
    intro σ1 xc1 hs1
    conv => whnf
    refine ⟨_, ⟨rfl, _, rfl, rfl, ?_, rfl⟩⟩
    exact ⟨xc1, hs1, fun j y0 y1 => by omega, by omega, by omega⟩
  · intro n t L st σ' hk
    obtain ⟨rfl, i, rfl, rfl, hc, rfl⟩ := hk
    obtain ⟨xc, hs, hno, hi0, hi1⟩ := hc
    have Fc : fr FCl σ σ' := fun a i z9 => xc a i (by unfold FCl at z9; omega)
    have Tc := Fc.ptcl gg.pt
    have a7 := pt_110_7 Tc
    have a6 := pt_110_6 Tc
    have gc : cC σ' C := g0.of (fun a i z9 => xc a i (by omega))
    have gi : GC 40 p P A σ' := gg.of (Or.inl rfl) hp Tc (fun a i z1 z2 => xc a i (by omega))
    conv => whnf
    refine ⟨fun g => ?_, fun g => ?_⟩
    · simp only [sx_cc, Classical.not_not] at g
      conv => whnf
      refine ⟨fun q9 => by first | (simp at q9; done) | omega, ?_⟩
      refine h _ _ xc (Or.inl ⟨rfl, fun j y0 y1 => hno j y0 (by omega)⟩)
    · simp only [sx_cc, Classical.not_not] at g
      have et := gc.tg i hi0 (by omega)
      have e16 := hs i (by omega) (by omega)
      conv => whnf
      refine ⟨(by first | assumption | rfl), ?_⟩
      try simp (disch := omega) only [Int.cast_ofNat_Int, up_s, up_a, up_i, mp_a, mp_ge]
      try simp only [a7]
      try simp only [a6]
      try simp only [et]
      try simp only [e16]
      conv => whnf
      refine ⟨sx_ixI (by first | assumption | rfl) (by omega) (by omega), ?_⟩
      try simp (disch := omega) only [Int.cast_ofNat_Int, up_s, up_a, up_i, mp_a, mp_ge]
      try simp only [a7]
      try simp only [a6]
      try simp only [et]
      try simp only [e16]
      conv => whnf
      refine ⟨fun g => ?_, fun g => ?_⟩
      · simp only [sx_cc, Classical.not_not] at g
        conv => whnf
        refine ⟨⟨by omega, by omega⟩, ?_⟩
        conv => whnf
        refine ⟨_, ?_, ⟨rfl, _, rfl, rfl, ?_, rfl⟩⟩
        · omega
        · refine ⟨xc, hs, fun j y0 y1 => ?_, by omega, by omega⟩
          by_cases e9 : j = i
          · subst e9; intro z9; first | exact absurd z9.1 (by omega) | exact absurd z9.2.1 (by omega) | exact absurd hh z9.2.2
          · exact hno j y0 (by omega)
      · simp only [sx_cc, Classical.not_not] at g
        conv => whnf
        refine ⟨(by first | assumption | rfl), ?_⟩
        try simp (disch := omega) only [Int.cast_ofNat_Int, up_s, up_a, up_i, mp_a, mp_ge]
        try simp only [a7]
        try simp only [a6]
        try simp only [et]
        try simp only [e16]
        conv => whnf
        refine ⟨sx_ixI (by first | assumption | rfl) (by omega) (by omega), ?_⟩
        try simp (disch := omega) only [Int.cast_ofNat_Int, up_s, up_a, up_i, mp_a, mp_ge]
        try simp only [a7]
        try simp only [a6]
        try simp only [et]
        try simp only [e16]
        conv => whnf
        refine ⟨fun g => ?_, fun g => ?_⟩
        · simp only [sx_cc, Classical.not_not] at g
          conv => whnf
          refine ⟨⟨by omega, by omega⟩, ?_⟩
          conv => whnf
          refine ⟨_, ?_, ⟨rfl, _, rfl, rfl, ?_, rfl⟩⟩
          · omega
          · refine ⟨xc, hs, fun j y0 y1 => ?_, by omega, by omega⟩
            by_cases e9 : j = i
            · subst e9; intro z9; first | exact absurd z9.1 (by omega) | exact absurd z9.2.1 (by omega) | exact absurd hh z9.2.2
            · exact hno j y0 (by omega)
        · simp only [sx_cc, Classical.not_not] at g
          conv => whnf
          refine ⟨Nat.le_of_ble_eq_true rfl, Nat.le_of_ble_eq_true rfl, (by first | assumption | rfl), ?_⟩
          refine c_Cholds wp wm gi w gc ⟨hi0, by omega⟩ (by omega) (fun hh => ?_) (fun hh => ?_)
          · skip
            conv => whnf
            refine ⟨fun g => ?_, fun g => ?_⟩
            · skip
              conv => whnf
              refine ⟨⟨by omega, by omega⟩, ?_⟩
              conv => whnf
              refine ⟨_, ?_, ⟨rfl, _, rfl, rfl, ?_, rfl⟩⟩
              · omega
              · refine ⟨xc, hs, fun j y0 y1 => ?_, by omega, by omega⟩
                by_cases e9 : j = i
                · subst e9; intro z9; first | exact absurd z9.1 (by omega) | exact absurd z9.2.1 (by omega) | exact absurd hh z9.2.2
                · exact hno j y0 (by omega)
            · exact absurd g (by simp [sx_cc])
          · skip
            conv => whnf
            refine ⟨fun g => ?_, fun g => ?_⟩
            · exact absurd g (by simp [sx_cc])
            · skip
              conv => whnf
              refine ⟨fun q9 => by first | (simp at q9; done) | omega, ?_⟩
              refine h _ _ xc (Or.inr ⟨hi0, by omega, ⟨by omega, by omega, hh⟩, hno⟩)
set_option maxRecDepth 20000 in
theorem c_judged (hp : isP p) (wp : wP P) (wm : wM P A c) (gg : GC 40 p P A σ) (w : wC P C) (g0 : cC σ C) (h : ∀ σ' v, (∀ a i : Int, ¬ a = 116 → σ' a i = σ a i) → pFst (pWrg A C) (fKnw C) v → Q (some (.inl v)) shM σ') : sx_Run X 146 [.inr (.inr 0)] shM σ Q := by
  have a11 := pt_0_11 gg.pt
  have a6 := pt_0_6 gg.pt
  refine sx_rule0 (own := 11) (cd := kX11_judged) (nL := 1) (by decide +kernel) (by decide +kernel) kX11_judged_ok (by decide +kernel) (Nat.le_of_ble_eq_true rfl) 40 ?_
  conv => whnf
  refine ⟨(by first | assumption | rfl), ?_⟩
  try simp (disch := omega) only [Int.cast_ofNat_Int, up_s, up_a, up_i, mp_a, mp_ge]
  try simp only [a11]
  try simp only [a6]
  conv => whnf
  refine ⟨(by first | assumption | rfl), ?_⟩
  try simp (disch := omega) only [Int.cast_ofNat_Int, up_s, up_a, up_i, mp_a, mp_ge]
  try simp only [a11]
  try simp only [a6]
  conv => whnf
  refine ⟨Nat.le_of_ble_eq_true rfl, Nat.le_of_ble_eq_true rfl, (by first | assumption | rfl), ?_⟩
  refine c_Cfirst hp wp wm gg w g0 ?_
  intro σ2 v2 xc2 hv2
  conv => whnf
  refine ⟨fun q9 => by first | (simp at q9; done) | omega, ?_⟩
  exact h _ _ xc2 hv2
set_option maxRecDepth 20000 in
theorem r_judged (e0 : σ0 = sx_up σ 124 2 0) (wp : wP P) (wm : wM P A c) (gg : GR 0 P A σ0) (w : wC P C) (g0 : rC σ0 C) (h : ∀ σ' v, (∀ a i : Int, ¬ a = 162 → σ' a i = σ0 a i) → pFst (pWrg A C) (fKnw C) v → Q (some (.inl v)) shM σ') : sx_Run X 261 [.inr (.inr 124)] shM σ Q := by
  have hkb := fKnw_bd w
  have wn := w.n
  have wn2 := wm.n
  refine sx_rule2 (own := 12) (cd := kX12_judged) (nL := 4) (by decide +kernel) (by decide +kernel) kX12_judged_ok (by decide +kernel) (Nat.le_of_ble_eq_true rfl) [7, 35, 85] 40 (fun n t L st _ σ' => (t = 7 ∧ ∃ i : Int, ∃ w2 : Option sx_V, ∃ w3 : Option sx_V, st = [] ∧ L = [some (.inr (.inr (124))), some (.inl (i)), w2, w3] ∧ ((∀ a i : Int, ¬ a = 162 → σ' a i = σ0 a i) ∧ (∀ j : Int, 0 ≤ j → j < i → σ' 162 j = 1) ∧ 0 ≤ i ∧ i ≤ fKnw C) ∧ n = (1000 + (fKnw C - i)).toNat) ∨ (t = 35 ∧ ∃ i : Int, ∃ w2 : Option sx_V, ∃ w3 : Option sx_V, st = [] ∧ L = [some (.inr (.inr (124))), some (.inl (i)), w2, w3] ∧ ((∀ a i : Int, ¬ a = 162 → σ' a i = σ0 a i) ∧ (∀ j : Int, 0 ≤ j → j < fKnw C → σ' 162 j = 1 - fStk C.tg (fKnw C) (fKnw C - 1 - i).toNat j) ∧ -1 ≤ i ∧ i ≤ fKnw C - 1) ∧ n = (500 + i).toNat) ∨ (t = 85 ∧ ∃ i : Int, ∃ w2 : Option sx_V, ∃ w3 : Option sx_V, st = [] ∧ L = [some (.inr (.inr (124))), some (.inl (i)), w2, w3] ∧ ((∀ a i : Int, ¬ a = 162 → σ' a i = σ0 a i) ∧ (∀ j : Int, 0 ≤ j → j < fKnw C → σ' 162 j = 1 - fStr C j) ∧ (∀ j : Int, 0 ≤ j → j < i → ¬ pWrg A C j) ∧ 0 ≤ i ∧ i ≤ fKnw C) ∧ n = (fKnw C - i).toNat)) ?_ ?_
  · skip
    conv => whnf
    refine ⟨(by first | assumption | rfl), ?_⟩
    try simp (disch := omega) only [Int.cast_ofNat_Int, up_s, up_a, up_i, mp_a, mp_ge]
    try simp only [r77]
    try simp only [r76]
    try simp only [r64]
    try simp only [r57]
    try simp only [r60]
    try simp only [e62]
    try simp only [etg]
    try simp only [ece]
    try simp only [ewk]
    try simp only [efm]
    try simp only [et2]
    try simp only [ebl]
    try simp only [elk]
    try simp only [ebo]
    rw [← e0]
    conv => whnf
    refine ⟨_, Or.inl ⟨rfl, _, _, _, rfl, rfl, ?_, rfl⟩⟩
    exact ⟨fun a i z9 => rfl, fun j y0 y1 => by omega, by omega, by omega⟩
  · intro n t L st σ' hk
    rcases hk with hk | hk | hk
    · obtain ⟨rfl, i, w2, w3, rfl, rfl, hc, rfl⟩ := hk
      obtain ⟨xc, hs, hi0, hi1⟩ := hc
      have Fc : fr FClR σ0 σ' := fun a i z9 => xc a i (by unfold FClR at z9; omega)
      have Tc := Fc.ptclr gg.pt
      have r77 := pt_124_77 Tc
      have r76 := pt_124_76 Tc
      have r64 := pt_124_64 Tc
      have r57 := pt_124_57 Tc
      have r60 := pt_124_60 Tc
      have gc : rC σ' C := g0.of (fun a i z9 => xc a i (by omega))
      have gi : GR 0 P A σ' := gg.of Tc (fun a i z1 z2 => xc a i (by omega)) (fun i z9 => xc _ _ (by decide))
      conv => whnf
      refine ⟨Nat.le_of_ble_eq_true rfl, Nat.le_of_ble_eq_true rfl, (by first | assumption | rfl), ?_⟩
      refine c_Rknown w gc ?_
      conv => whnf
      refine ⟨fun g => ?_, fun g => ?_⟩
      · simp only [sx_cc, Classical.not_not] at g
        conv => whnf
        refine ⟨Nat.le_of_ble_eq_true rfl, Nat.le_of_ble_eq_true rfl, (by first | assumption | rfl), ?_⟩
        refine c_Rknown w gc ?_
        conv => whnf
        refine ⟨⟨by omega, by omega⟩, ?_⟩
        conv => whnf
        refine ⟨_, ?_, Or.inr (Or.inl ⟨rfl, _, _, _, rfl, rfl, ?_, rfl⟩)⟩
        · omega
        · refine ⟨xc, fun j y0 y1 => ?_, by omega, by omega⟩
          rw [hs j y0 (by omega), show (fKnw C - 1 - (fKnw C - 1)).toNat = 0 by omega]; rfl
      · simp only [sx_cc, Classical.not_not] at g
        conv => whnf
        refine ⟨(by first | assumption | rfl), ?_⟩
        try simp (disch := omega) only [Int.cast_ofNat_Int, up_s, up_a, up_i, mp_a, mp_ge]
        try simp only [r77]
        try simp only [r76]
        try simp only [r64]
        try simp only [r57]
        try simp only [r60]
        try simp only [e62]
        try simp only [etg]
        try simp only [ece]
        try simp only [ewk]
        try simp only [efm]
        try simp only [et2]
        try simp only [ebl]
        try simp only [elk]
        try simp only [ebo]
        conv => whnf
        refine ⟨sx_ixI (by first | assumption | rfl) (by omega) (by omega), by omega, ?_⟩
        conv => whnf
        refine ⟨⟨by omega, by omega⟩, ?_⟩
        conv => whnf
        refine ⟨_, ?_, Or.inl ⟨rfl, _, _, _, rfl, rfl, ?_, rfl⟩⟩
        · omega
        · refine ⟨fun a i z9 => by rw [up_a z9]; exact xc a i z9, fun j y0 y1 => ?_, by omega, by omega⟩
          by_cases e9 : j = i
          · rw [e9, up_s]
          · rw [up_i e9]; exact hs j y0 (by omega)
    · obtain ⟨rfl, i, w2, w3, rfl, rfl, hc, rfl⟩ := hk
      obtain ⟨xc, hs, hi0, hi1⟩ := hc
      have Fc : fr FClR σ0 σ' := fun a i z9 => xc a i (by unfold FClR at z9; omega)
      have Tc := Fc.ptclr gg.pt
      have r77 := pt_124_77 Tc
      have r76 := pt_124_76 Tc
      have r64 := pt_124_64 Tc
      have r57 := pt_124_57 Tc
      have r60 := pt_124_60 Tc
      have gc : rC σ' C := g0.of (fun a i z9 => xc a i (by omega))
      have gi : GR 0 P A σ' := gg.of Tc (fun a i z1 z2 => xc a i (by omega)) (fun i z9 => xc _ _ (by decide))
      conv => whnf
      refine ⟨fun g => ?_, fun g => ?_⟩
      · simp only [sx_cc, Classical.not_not] at g
        conv => whnf
        refine ⟨_, ?_, Or.inr (Or.inr (⟨rfl, _, _, _, rfl, rfl, ?_, rfl⟩))⟩
        · omega
        · have ei : i = -1 := by omega
          subst ei
          refine ⟨xc, fun j y0 y1 => ?_, fun j y0 y1 => by omega, by omega, by omega⟩
          rw [hs j y0 y1, show (fKnw C - 1 - -1).toNat = (fKnw C).toNat by omega]; rfl
      · simp only [sx_cc, Classical.not_not] at g
        have e62 := hs i (by omega) (by omega)
        have h01 := fStk_01 (tg := C.tg) (n := fKnw C) (fKnw C - 1 - i).toNat i
        have wt := w.tg i (by omega) (by omega)
        have wk9 : C.tg i = -1 → 0 ≤ σ' 161 (4 * i + 1) := fun z9 => by rw [gc.wk i (by omega) (by omega) z9]; exact (w.wk i (by omega) (by omega) z9).1
        conv => whnf
        refine ⟨(by first | assumption | rfl), ?_⟩
        try simp (disch := omega) only [Int.cast_ofNat_Int, up_s, up_a, up_i, mp_a, mp_ge]
        try simp only [r77]
        try simp only [r76]
        try simp only [r64]
        try simp only [r57]
        try simp only [r60]
        try simp only [e62]
        try simp only [etg]
        try simp only [ece]
        try simp only [ewk]
        try simp only [efm]
        try simp only [et2]
        try simp only [ebl]
        try simp only [elk]
        try simp only [ebo]
        conv => whnf
        refine ⟨by decide, ?_⟩
        conv => whnf
        refine ⟨sx_ixI (by first | assumption | rfl) (by omega) (by omega), ?_⟩
        try simp (disch := omega) only [Int.cast_ofNat_Int, up_s, up_a, up_i, mp_a, mp_ge]
        try simp only [r77]
        try simp only [r76]
        try simp only [r64]
        try simp only [r57]
        try simp only [r60]
        try simp only [e62]
        try simp only [etg]
        try simp only [ece]
        try simp only [ewk]
        try simp only [efm]
        try simp only [et2]
        try simp only [ebl]
        try simp only [elk]
        try simp only [ebo]
        conv => whnf
        refine ⟨fun g => ?_, fun g => ?_⟩
        · simp only [sx_cc, Classical.not_not] at g
          conv => whnf
          refine ⟨⟨by omega, by omega⟩, ?_⟩
          conv => whnf
          refine ⟨_, ?_, Or.inr (Or.inl ⟨rfl, _, _, _, rfl, rfl, ?_, rfl⟩)⟩
          · omega
          · first | exact ⟨fun a i z9 => by rw [up_a z9]; exact xc a i z9, fun j y0 y1 => by
              rw [show i + -1 = i - 1 by omega, fStk_t (by omega) ⟨by omega, by omega⟩]
              by_cases e9 : j = C.tg i
              · rw [e9, up_s, fU_s]; rfl
              · rw [up_i e9, fU_n e9]; exact hs j y0 y1, by omega, by omega⟩ | exact ⟨xc, fun j y0 y1 => by rw [show i + -1 = i - 1 by omega, fStk_f (by omega) (by omega)]; exact hs j y0 y1, by omega, by omega⟩
        · simp only [sx_cc, Classical.not_not] at g
          conv => whnf
          refine ⟨(by first | assumption | rfl), ?_⟩
          try simp (disch := omega) only [Int.cast_ofNat_Int, up_s, up_a, up_i, mp_a, mp_ge]
          try simp only [r77]
          try simp only [r76]
          try simp only [r64]
          try simp only [r57]
          try simp only [r60]
          try simp only [e62]
          try simp only [etg]
          try simp only [ece]
          try simp only [ewk]
          try simp only [efm]
          try simp only [et2]
          try simp only [ebl]
          try simp only [elk]
          try simp only [ebo]
          conv => whnf
          refine ⟨⟨by omega, by omega⟩, ?_⟩
          conv => whnf
          refine ⟨⟨by omega, by omega⟩, ?_⟩
          conv => whnf
          refine ⟨sx_ixI (by first | assumption | rfl) (by omega) (by omega), ?_⟩
          try simp (disch := omega) only [Int.cast_ofNat_Int, up_s, up_a, up_i, mp_a, mp_ge]
          try simp only [r77]
          try simp only [r76]
          try simp only [r64]
          try simp only [r57]
          try simp only [r60]
          try simp only [e62]
          try simp only [etg]
          try simp only [ece]
          try simp only [ewk]
          try simp only [efm]
          try simp only [et2]
          try simp only [ebl]
          try simp only [elk]
          try simp only [ebo]
          conv => whnf
          refine ⟨fun g => ?_, fun g => ?_⟩
          · simp only [sx_cc, Classical.not_not] at g
            have ht : C.tg i = -1 := Decidable.byContradiction (fun z9 => by have h9 := gc.ng i (by omega) (by omega) z9; omega)
            conv => whnf
            refine ⟨⟨by omega, by omega⟩, ?_⟩
            conv => whnf
            refine ⟨_, ?_, Or.inr (Or.inl ⟨rfl, _, _, _, rfl, rfl, ?_, rfl⟩)⟩
            · omega
            · first | exact ⟨fun a i z9 => by rw [up_a z9]; exact xc a i z9, fun j y0 y1 => by
                rw [show i + -1 = i - 1 by omega, fStk_t (by omega) ⟨by omega, by omega⟩]
                by_cases e9 : j = C.tg i
                · rw [e9, up_s, fU_s]; rfl
                · rw [up_i e9, fU_n e9]; exact hs j y0 y1, by omega, by omega⟩ | exact ⟨xc, fun j y0 y1 => by rw [show i + -1 = i - 1 by omega, fStk_f (by omega) (by omega)]; exact hs j y0 y1, by omega, by omega⟩
          · simp only [sx_cc, Classical.not_not] at g
            have ht : ¬ C.tg i = -1 := fun z9 => by have := wk9 z9; omega
            have etg := gc.tg i (by omega) (by omega) ht
            conv => whnf
            refine ⟨(by first | assumption | rfl), ?_⟩
            try simp (disch := omega) only [Int.cast_ofNat_Int, up_s, up_a, up_i, mp_a, mp_ge]
            try simp only [r77]
            try simp only [r76]
            try simp only [r64]
            try simp only [r57]
            try simp only [r60]
            try simp only [e62]
            try simp only [etg]
            try simp only [ece]
            try simp only [ewk]
            try simp only [efm]
            try simp only [et2]
            try simp only [ebl]
            try simp only [elk]
            try simp only [ebo]
            conv => whnf
            refine ⟨(by first | assumption | rfl), ?_⟩
            try simp (disch := omega) only [Int.cast_ofNat_Int, up_s, up_a, up_i, mp_a, mp_ge]
            try simp only [r77]
            try simp only [r76]
            try simp only [r64]
            try simp only [r57]
            try simp only [r60]
            try simp only [e62]
            try simp only [etg]
            try simp only [ece]
            try simp only [ewk]
            try simp only [efm]
            try simp only [et2]
            try simp only [ebl]
            try simp only [elk]
            try simp only [ebo]
            conv => whnf
            refine ⟨⟨by omega, by omega⟩, ?_⟩
            conv => whnf
            refine ⟨⟨by omega, by omega⟩, ?_⟩
            conv => whnf
            refine ⟨sx_ixI (by first | assumption | rfl) (by omega) (by omega), ?_⟩
            try simp (disch := omega) only [Int.cast_ofNat_Int, up_s, up_a, up_i, mp_a, mp_ge]
            try simp only [r77]
            try simp only [r76]
            try simp only [r64]
            try simp only [r57]
            try simp only [r60]
            try simp only [e62]
            try simp only [etg]
            try simp only [ece]
            try simp only [ewk]
            try simp only [efm]
            try simp only [et2]
            try simp only [ebl]
            try simp only [elk]
            try simp only [ebo]
            conv => whnf
            refine ⟨sx_ixI (by first | assumption | rfl) (by omega) (by omega), by omega, ?_⟩
            conv => whnf
            refine ⟨⟨by omega, by omega⟩, ?_⟩
            conv => whnf
            refine ⟨_, ?_, Or.inr (Or.inl ⟨rfl, _, _, _, rfl, rfl, ?_, rfl⟩)⟩
            · omega
            · first | exact ⟨fun a i z9 => by rw [up_a z9]; exact xc a i z9, fun j y0 y1 => by
                rw [show i + -1 = i - 1 by omega, fStk_t (by omega) ⟨by omega, by omega⟩]
                by_cases e9 : j = C.tg i
                · rw [e9, up_s, fU_s]; rfl
                · rw [up_i e9, fU_n e9]; exact hs j y0 y1, by omega, by omega⟩ | exact ⟨xc, fun j y0 y1 => by rw [show i + -1 = i - 1 by omega, fStk_f (by omega) (by omega)]; exact hs j y0 y1, by omega, by omega⟩
    · obtain ⟨rfl, i, w2, w3, rfl, rfl, hc, rfl⟩ := hk
      obtain ⟨xc, hs, hno, hi0, hi1⟩ := hc
      have Fc : fr FClR σ0 σ' := fun a i z9 => xc a i (by unfold FClR at z9; omega)
      have Tc := Fc.ptclr gg.pt
      have r77 := pt_124_77 Tc
      have r76 := pt_124_76 Tc
      have r64 := pt_124_64 Tc
      have r57 := pt_124_57 Tc
      have r60 := pt_124_60 Tc
      have gc : rC σ' C := g0.of (fun a i z9 => xc a i (by omega))
      have gi : GR 0 P A σ' := gg.of Tc (fun a i z1 z2 => xc a i (by omega)) (fun i z9 => xc _ _ (by decide))
      conv => whnf
      refine ⟨Nat.le_of_ble_eq_true rfl, Nat.le_of_ble_eq_true rfl, (by first | assumption | rfl), ?_⟩
      refine c_Rknown w gc ?_
      conv => whnf
      refine ⟨fun g => ?_, fun g => ?_⟩
      · simp only [sx_cc, Classical.not_not] at g
        conv => whnf
        refine ⟨fun q9 => by first | (simp at q9; done) | omega, ?_⟩
        refine h _ _ xc (Or.inl ⟨rfl, fun j y0 y1 => hno j y0 (by omega)⟩)
      · simp only [sx_cc, Classical.not_not] at g
        have e62 := hs i (by omega) (by omega)
        have h01 := fStk_01 (tg := C.tg) (n := fKnw C) (fKnw C).toNat i
        have es9 : fStr C i = fStk C.tg (fKnw C) (fKnw C).toNat i := rfl
        conv => whnf
        refine ⟨(by first | assumption | rfl), ?_⟩
        try simp (disch := omega) only [Int.cast_ofNat_Int, up_s, up_a, up_i, mp_a, mp_ge]
        try simp only [r77]
        try simp only [r76]
        try simp only [r64]
        try simp only [r57]
        try simp only [r60]
        try simp only [e62]
        try simp only [etg]
        try simp only [ece]
        try simp only [ewk]
        try simp only [efm]
        try simp only [et2]
        try simp only [ebl]
        try simp only [elk]
        try simp only [ebo]
        conv => whnf
        refine ⟨by decide, ?_⟩
        conv => whnf
        refine ⟨sx_ixI (by first | assumption | rfl) (by omega) (by omega), ?_⟩
        try simp (disch := omega) only [Int.cast_ofNat_Int, up_s, up_a, up_i, mp_a, mp_ge]
        try simp only [r77]
        try simp only [r76]
        try simp only [r64]
        try simp only [r57]
        try simp only [r60]
        try simp only [e62]
        try simp only [etg]
        try simp only [ece]
        try simp only [ewk]
        try simp only [efm]
        try simp only [et2]
        try simp only [ebl]
        try simp only [elk]
        try simp only [ebo]
        conv => whnf
        refine ⟨fun g => ?_, fun g => ?_⟩
        · simp only [sx_cc, Classical.not_not] at g
          conv => whnf
          refine ⟨⟨by omega, by omega⟩, ?_⟩
          conv => whnf
          refine ⟨_, ?_, Or.inr (Or.inr (⟨rfl, _, _, _, rfl, rfl, ?_, rfl⟩))⟩
          · omega
          · refine ⟨xc, hs, fun j y0 y1 => ?_, by omega, by omega⟩
            by_cases e9 : j = i
            · subst e9; intro z9; first | exact absurd z9.1 ht | exact absurd z9.2.1 (by omega) | exact absurd (show pHold A C j from ⟨by omega, by omega, by omega, by omega, by omega⟩) z9.2.2
            · exact hno j y0 (by omega)
        · simp only [sx_cc, Classical.not_not] at g
          conv => whnf
          refine ⟨(by first | assumption | rfl), ?_⟩
          try simp (disch := omega) only [Int.cast_ofNat_Int, up_s, up_a, up_i, mp_a, mp_ge]
          try simp only [r77]
          try simp only [r76]
          try simp only [r64]
          try simp only [r57]
          try simp only [r60]
          try simp only [e62]
          try simp only [etg]
          try simp only [ece]
          try simp only [ewk]
          try simp only [efm]
          try simp only [et2]
          try simp only [ebl]
          try simp only [elk]
          try simp only [ebo]
          conv => whnf
          refine ⟨⟨by omega, by omega⟩, ?_⟩
          conv => whnf
          refine ⟨⟨by omega, by omega⟩, ?_⟩
          conv => whnf
          refine ⟨sx_ixI (by first | assumption | rfl) (by omega) (by omega), ?_⟩
          try simp (disch := omega) only [Int.cast_ofNat_Int, up_s, up_a, up_i, mp_a, mp_ge]
          try simp only [r77]
          try simp only [r76]
          try simp only [r64]
          try simp only [r57]
          try simp only [r60]
          try simp only [e62]
          try simp only [etg]
          try simp only [ece]
          try simp only [ewk]
          try simp only [efm]
          try simp only [et2]
          try simp only [ebl]
          try simp only [elk]
          try simp only [ebo]
          conv => whnf
          refine ⟨fun g => ?_, fun g => ?_⟩
          · simp only [sx_cc, Classical.not_not] at g
            have ht : C.tg i = -1 := Decidable.byContradiction (fun z9 => by have h9 := gc.ng i (by omega) (by omega) z9; omega)
            have ece := gc.ce i (by omega) (by omega) ht
            have ewk := gc.wk i (by omega) (by omega) ht
            have efm := gc.fm i (by omega) (by omega) ht
            have et2 := gc.t2 i (by omega) (by omega) ht
            have htb := aTop_bd wm (C.ce i)
            conv => whnf
            refine ⟨(by first | assumption | rfl), ?_⟩
            try simp (disch := omega) only [Int.cast_ofNat_Int, up_s, up_a, up_i, mp_a, mp_ge]
            try simp only [r77]
            try simp only [r76]
            try simp only [r64]
            try simp only [r57]
            try simp only [r60]
            try simp only [e62]
            try simp only [etg]
            try simp only [ece]
            try simp only [ewk]
            try simp only [efm]
            try simp only [et2]
            try simp only [ebl]
            try simp only [elk]
            try simp only [ebo]
            conv => whnf
            refine ⟨⟨by omega, by omega⟩, ?_⟩
            conv => whnf
            refine ⟨sx_ixI (by first | assumption | rfl) (by omega) (by omega), ?_⟩
            try simp (disch := omega) only [Int.cast_ofNat_Int, up_s, up_a, up_i, mp_a, mp_ge]
            try simp only [r77]
            try simp only [r76]
            try simp only [r64]
            try simp only [r57]
            try simp only [r60]
            try simp only [e62]
            try simp only [etg]
            try simp only [ece]
            try simp only [ewk]
            try simp only [efm]
            try simp only [et2]
            try simp only [ebl]
            try simp only [elk]
            try simp only [ebo]
            conv => whnf
            refine ⟨Nat.le_of_ble_eq_true rfl, Nat.le_of_ble_eq_true rfl, (by first | assumption | rfl), ?_⟩
            refine a_Rread (Or.inl rfl) wm gi ?_
            conv => whnf
            refine ⟨fun g => ?_, fun g => ?_⟩
            · simp only [sx_cc, Classical.not_not] at g
              conv => whnf
              refine ⟨fun g => ?_, fun g => ?_⟩
              · exact absurd g (by simp [sx_cc])
              · skip
                conv => whnf
                refine ⟨fun q9 => by first | (simp at q9; done) | omega, ?_⟩
                refine h _ _ xc (Or.inr ⟨hi0, by omega, ⟨ht, by omega, fun z9 => by omega⟩, hno⟩)
            · simp only [sx_cc, Classical.not_not] at g
              have ebl := gi.rs.bl (aTop A (C.ce i)) (by omega) (by omega)
              have elk := gi.rs.lk (aTop A (C.ce i)) (by omega) (by omega)
              have ebo := gi.rs.bo (aTop A (C.ce i)) (by omega) (by omega)
              rw [z90] at ebl elk ebo
              conv => whnf
              refine ⟨(by first | assumption | rfl), ?_⟩
              try simp (disch := omega) only [Int.cast_ofNat_Int, up_s, up_a, up_i, mp_a, mp_ge]
              try simp only [r77]
              try simp only [r76]
              try simp only [r64]
              try simp only [r57]
              try simp only [r60]
              try simp only [e62]
              try simp only [etg]
              try simp only [ece]
              try simp only [ewk]
              try simp only [efm]
              try simp only [et2]
              try simp only [ebl]
              try simp only [elk]
              try simp only [ebo]
              conv => whnf
              refine ⟨by decide, ?_⟩
              conv => whnf
              refine ⟨sx_ixI (by first | assumption | rfl) (by omega) (by omega), ?_⟩
              try simp (disch := omega) only [Int.cast_ofNat_Int, up_s, up_a, up_i, mp_a, mp_ge]
              try simp only [r77]
              try simp only [r76]
              try simp only [r64]
              try simp only [r57]
              try simp only [r60]
              try simp only [e62]
              try simp only [etg]
              try simp only [ece]
              try simp only [ewk]
              try simp only [efm]
              try simp only [et2]
              try simp only [ebl]
              try simp only [elk]
              try simp only [ebo]
              conv => whnf
              refine ⟨fun g => ?_, fun g => ?_⟩
              · simp only [sx_cc, Classical.not_not] at g
                conv => whnf
                refine ⟨fun g => ?_, fun g => ?_⟩
                · exact absurd g (by simp [sx_cc])
                · skip
                  conv => whnf
                  refine ⟨fun q9 => by first | (simp at q9; done) | omega, ?_⟩
                  refine h _ _ xc (Or.inr ⟨hi0, by omega, ⟨ht, by omega, fun z9 => by omega⟩, hno⟩)
              · simp only [sx_cc, Classical.not_not] at g
                conv => whnf
                refine ⟨(by first | assumption | rfl), ?_⟩
                try simp (disch := omega) only [Int.cast_ofNat_Int, up_s, up_a, up_i, mp_a, mp_ge]
                try simp only [r77]
                try simp only [r76]
                try simp only [r64]
                try simp only [r57]
                try simp only [r60]
                try simp only [e62]
                try simp only [etg]
                try simp only [ece]
                try simp only [ewk]
                try simp only [efm]
                try simp only [et2]
                try simp only [ebl]
                try simp only [elk]
                try simp only [ebo]
                conv => whnf
                refine ⟨sx_ixI (by first | assumption | rfl) (by omega) (by omega), ?_⟩
                try simp (disch := omega) only [Int.cast_ofNat_Int, up_s, up_a, up_i, mp_a, mp_ge]
                try simp only [r77]
                try simp only [r76]
                try simp only [r64]
                try simp only [r57]
                try simp only [r60]
                try simp only [e62]
                try simp only [etg]
                try simp only [ece]
                try simp only [ewk]
                try simp only [efm]
                try simp only [et2]
                try simp only [ebl]
                try simp only [elk]
                try simp only [ebo]
                conv => whnf
                refine ⟨(by first | assumption | rfl), ?_⟩
                try simp (disch := omega) only [Int.cast_ofNat_Int, up_s, up_a, up_i, mp_a, mp_ge]
                try simp only [r77]
                try simp only [r76]
                try simp only [r64]
                try simp only [r57]
                try simp only [r60]
                try simp only [e62]
                try simp only [etg]
                try simp only [ece]
                try simp only [ewk]
                try simp only [efm]
                try simp only [et2]
                try simp only [ebl]
                try simp only [elk]
                try simp only [ebo]
                conv => whnf
                refine ⟨⟨by omega, by omega⟩, ?_⟩
                conv => whnf
                refine ⟨⟨by omega, by omega⟩, ?_⟩
                conv => whnf
                refine ⟨sx_ixI (by first | assumption | rfl) (by omega) (by omega), ?_⟩
                try simp (disch := omega) only [Int.cast_ofNat_Int, up_s, up_a, up_i, mp_a, mp_ge]
                try simp only [r77]
                try simp only [r76]
                try simp only [r64]
                try simp only [r57]
                try simp only [r60]
                try simp only [e62]
                try simp only [etg]
                try simp only [ece]
                try simp only [ewk]
                try simp only [efm]
                try simp only [et2]
                try simp only [ebl]
                try simp only [elk]
                try simp only [ebo]
                conv => whnf
                refine ⟨fun g => ?_, fun g => ?_⟩
                · simp only [sx_cc, Classical.not_not] at g
                  conv => whnf
                  refine ⟨fun g => ?_, fun g => ?_⟩
                  · exact absurd g (by simp [sx_cc])
                  · skip
                    conv => whnf
                    refine ⟨fun q9 => by first | (simp at q9; done) | omega, ?_⟩
                    refine h _ _ xc (Or.inr ⟨hi0, by omega, ⟨ht, by omega, fun z9 => by omega⟩, hno⟩)
                · simp only [sx_cc, Classical.not_not] at g
                  conv => whnf
                  refine ⟨(by first | assumption | rfl), ?_⟩
                  try simp (disch := omega) only [Int.cast_ofNat_Int, up_s, up_a, up_i, mp_a, mp_ge]
                  try simp only [r77]
                  try simp only [r76]
                  try simp only [r64]
                  try simp only [r57]
                  try simp only [r60]
                  try simp only [e62]
                  try simp only [etg]
                  try simp only [ece]
                  try simp only [ewk]
                  try simp only [efm]
                  try simp only [et2]
                  try simp only [ebl]
                  try simp only [elk]
                  try simp only [ebo]
                  conv => whnf
                  refine ⟨sx_ixI (by first | assumption | rfl) (by omega) (by omega), ?_⟩
                  try simp (disch := omega) only [Int.cast_ofNat_Int, up_s, up_a, up_i, mp_a, mp_ge]
                  try simp only [r77]
                  try simp only [r76]
                  try simp only [r64]
                  try simp only [r57]
                  try simp only [r60]
                  try simp only [e62]
                  try simp only [etg]
                  try simp only [ece]
                  try simp only [ewk]
                  try simp only [efm]
                  try simp only [et2]
                  try simp only [ebl]
                  try simp only [elk]
                  try simp only [ebo]
                  conv => whnf
                  refine ⟨(by first | assumption | rfl), ?_⟩
                  try simp (disch := omega) only [Int.cast_ofNat_Int, up_s, up_a, up_i, mp_a, mp_ge]
                  try simp only [r77]
                  try simp only [r76]
                  try simp only [r64]
                  try simp only [r57]
                  try simp only [r60]
                  try simp only [e62]
                  try simp only [etg]
                  try simp only [ece]
                  try simp only [ewk]
                  try simp only [efm]
                  try simp only [et2]
                  try simp only [ebl]
                  try simp only [elk]
                  try simp only [ebo]
                  conv => whnf
                  refine ⟨⟨by omega, by omega⟩, ?_⟩
                  conv => whnf
                  refine ⟨⟨by omega, by omega⟩, ?_⟩
                  conv => whnf
                  refine ⟨sx_ixI (by first | assumption | rfl) (by omega) (by omega), ?_⟩
                  try simp (disch := omega) only [Int.cast_ofNat_Int, up_s, up_a, up_i, mp_a, mp_ge]
                  try simp only [r77]
                  try simp only [r76]
                  try simp only [r64]
                  try simp only [r57]
                  try simp only [r60]
                  try simp only [e62]
                  try simp only [etg]
                  try simp only [ece]
                  try simp only [ewk]
                  try simp only [efm]
                  try simp only [et2]
                  try simp only [ebl]
                  try simp only [elk]
                  try simp only [ebo]
                  conv => whnf
                  refine ⟨(by first | assumption | rfl), ?_⟩
                  try simp (disch := omega) only [Int.cast_ofNat_Int, up_s, up_a, up_i, mp_a, mp_ge]
                  try simp only [r77]
                  try simp only [r76]
                  try simp only [r64]
                  try simp only [r57]
                  try simp only [r60]
                  try simp only [e62]
                  try simp only [etg]
                  try simp only [ece]
                  try simp only [ewk]
                  try simp only [efm]
                  try simp only [et2]
                  try simp only [ebl]
                  try simp only [elk]
                  try simp only [ebo]
                  conv => whnf
                  refine ⟨⟨by omega, by omega⟩, ?_⟩
                  conv => whnf
                  refine ⟨⟨by omega, by omega⟩, ?_⟩
                  conv => whnf
                  refine ⟨sx_ixI (by first | assumption | rfl) (by omega) (by omega), ?_⟩
                  try simp (disch := omega) only [Int.cast_ofNat_Int, up_s, up_a, up_i, mp_a, mp_ge]
                  try simp only [r77]
                  try simp only [r76]
                  try simp only [r64]
                  try simp only [r57]
                  try simp only [r60]
                  try simp only [e62]
                  try simp only [etg]
                  try simp only [ece]
                  try simp only [ewk]
                  try simp only [efm]
                  try simp only [et2]
                  try simp only [ebl]
                  try simp only [elk]
                  try simp only [ebo]
                  conv => whnf
                  refine ⟨Nat.le_of_ble_eq_true rfl, Nat.le_of_ble_eq_true rfl, ?_⟩
                  refine c_Rin (fun y7 y8 => ?_) (fun y0 => ?_)
                  · skip
                    conv => whnf
                    refine ⟨fun g => ?_, fun g => ?_⟩
                    · exact absurd g (by simp [sx_cc])
                    · skip
                      conv => whnf
                      refine ⟨fun g => ?_, fun g => ?_⟩
                      · skip
                        conv => whnf
                        refine ⟨⟨by omega, by omega⟩, ?_⟩
                        conv => whnf
                        refine ⟨_, ?_, Or.inr (Or.inr (⟨rfl, _, _, _, rfl, rfl, ?_, rfl⟩))⟩
                        · omega
                        · refine ⟨xc, hs, fun j y0 y1 => ?_, by omega, by omega⟩
                          by_cases e9 : j = i
                          · subst e9; intro z9; first | exact absurd z9.1 ht | exact absurd z9.2.1 (by omega) | exact absurd (show pHold A C j from ⟨by omega, by omega, by omega, by omega, by omega⟩) z9.2.2
                          · exact hno j y0 (by omega)
                      · exact absurd g (by simp [sx_cc])
                  · skip
                    conv => whnf
                    refine ⟨fun g => ?_, fun g => ?_⟩
                    · skip
                      conv => whnf
                      refine ⟨fun g => ?_, fun g => ?_⟩
                      · exact absurd g (by simp [sx_cc])
                      · skip
                        conv => whnf
                        refine ⟨fun q9 => by first | (simp at q9; done) | omega, ?_⟩
                        refine h _ _ xc (Or.inr ⟨hi0, by omega, ⟨ht, by omega, fun z9 => by omega⟩, hno⟩)
                    · exact absurd g (by simp [sx_cc])
          · simp only [sx_cc, Classical.not_not] at g
            have ht : ¬ C.tg i = -1 := fun z9 => (by have h9 := gc.wk i (by omega) (by omega) z9; have h8 := (w.wk i (by omega) (by omega) z9).1; omega)
            conv => whnf
            refine ⟨⟨by omega, by omega⟩, ?_⟩
            conv => whnf
            refine ⟨_, ?_, Or.inr (Or.inr (⟨rfl, _, _, _, rfl, rfl, ?_, rfl⟩))⟩
            · omega
            · refine ⟨xc, hs, fun j y0 y1 => ?_, by omega, by omega⟩
              by_cases e9 : j = i
              · subst e9; intro z9; first | exact absurd z9.1 ht | exact absurd z9.2.1 (by omega) | exact absurd (show pHold A C j from ⟨by omega, by omega, by omega, by omega, by omega⟩) z9.2.2
              · exact hno j y0 (by omega)
end SXM10
