/-! SCORE, AHEAD, WINTER over the abstract snow (by wip/whole) -/
section SXL6
variable {X : sx_X} {Q : sx_R} {s p b c kk : Int} {σ σ0 σ' : sx_S} {P : aP} {A : aM} {W : aW}
def aScore (P : aP) (A : aM) (W : aW) (f q : Int) : Int := if 0 ≤ f ∧ f < P.fa then (if q = 0 then fSco P A f else if q = 1 then W.db f else -1) else -1
/-- the first farm with the most, of the first n, and how much -/
def fAh (v : Int → Int) : Nat → Int × Int
  | 0 => (-1, 0)
  | n + 1 => if (fAh v n).1 = -1 ∨ (fAh v n).2 < v (n : Int) then ((n : Int), v (n : Int)) else fAh v n
theorem fAh_s {v : Int → Int} {i : Int} (h : 0 ≤ i) : fAh v (i + 1).toNat = if (fAh v i.toNat).1 = -1 ∨ (fAh v i.toNat).2 < v i then (i, v i) else fAh v i.toNat := by
  rw [toNat_s h]
  show (if (fAh v i.toNat).1 = -1 ∨ (fAh v i.toNat).2 < v (i.toNat : Int) then ((i.toNat : Int), v (i.toNat : Int)) else _) = _
  rw [Int.toNat_of_nonneg h]
theorem fAh_lo (v : Int → Int) : ∀ n : Nat, -1 ≤ (fAh v n).1
  | 0 => by show -1 ≤ (-1 : Int); decide
  | n + 1 => by
    have h1 := fAh_lo v n
    show -1 ≤ (if _ then ((n : Int), v (n : Int)) else fAh v n).1
    split
    · show -1 ≤ (n : Int); omega
    · exact h1
def aAhead (P : aP) (A : aM) (W : aW) : Int := (fAh (fun f => W.db f + fSco P A f) P.fa.toNat).1
def fWinA (A : aM) : aM := aM.mk 0 A.hr 0 A.la A.lk A.ce A.wy A.bo A.dp A.cv A.ow A.bl
def fWinW (P : aP) (A : aM) (W : aW) : aW := aW.mk P.ho (fun _ => 0) (fun w => w) (fun f => if f < P.fa then W.db f + fSco P A f else W.db f) (W.wi + 1)
theorem wM.win (wm : wM P A c) : wM P (fWinA A) c := wM.mk (show 0 ≤ (0 : Int) ∧ (0 : Int) ≤ 90 by decide) wm.hr (show 0 ≤ (0 : Int) ∧ (0 : Int) ≤ 9999 by decide) wm.la (fun m h0 h1 => by have h9 : m < 0 := h1; omega) (fun m h0 h1 => by have h9 : m < 0 := h1; omega) (fun m h0 h1 => by have h9 : m < 0 := h1; omega) (fun m h0 h1 => by have h9 : m < 0 := h1; omega) (fun m h0 h1 => by have h9 : m < 0 := h1; omega) (fun m h0 h1 => by have h9 : m < 0 := h1; omega) (fun m h0 h1 => by have h9 : m < 0 := h1; omega) (fun m h0 h1 => by have h9 : m < 0 := h1; omega)
theorem wW.win (wp : wP P) (ww : wW P W kk) : wW P (fWinW P A W) (kk + 1) := wW.mk wp.ho (fun w h0 h1 => by have := ww.st w h0 h1; show 0 ≤ (0 : Int) ∧ (0 : Int) ≤ kk + 1; omega) (fun w h0 h1 => ⟨h0, h1⟩) (fun f h0 h1 => by
    have h2 := ww.db f h0 h1
    have h3 := fSco_bd (A := A) wp f
    show 0 ≤ (if f < P.fa then W.db f + fSco P A f else W.db f) ∧ (if f < P.fa then W.db f + fSco P A f else W.db f) ≤ 4752 * (kk + 1)
    split <;> omega) (by have := ww.wi; show 0 ≤ W.wi + 1 ∧ W.wi + 1 ≤ kk + 1; omega)
theorem fr.cW (hs : isS s) (hf : fr (FC s) σ σ') (h : cW P s σ W) : cW P s σ' W := by
  have := hs.ge
  exact h.of (fun a i z => hf a i (by unfold FC; omega))
theorem eqR.rW (hf : eqR σ σ') (h : rW P σ W) : rW P σ' W := h.of (fun a i z => hf a i (by omega) (by omega) (by omega))
set_option maxRecDepth 20000 in
theorem c_score (hp : isP p) (e2 : σ 0 2 = p) (wp : wP P) (wm : wM P A c) (gi : GC 40 p P A σ) (hW : cW P 40 σ W) {f q : Int} (h : ∀ σ', fr (FC 40) σ σ' → GC 40 p P A σ' → Q (some (.inl (aScore P A W f q))) shM σ') : sx_Run X 141 [.inr (.inr 0), .inl f, .inl q] shM σ Q := by
  have a2 := e2
  have a6 := pt_0_6 gi.pt
  have hs : isS 40 := Or.inl rfl
  have s6 := ptS_6 gi.pt hs
  have k0 := lkS0 hs
  have k13 := lkS13 hs
  have q0 := lkP0 hp
  have wn := wm.n
  have v3 := wp.fa
  refine sx_rule0 (own := 11) (cd := kX11_score) (nL := 3) (by decide +kernel) (by decide +kernel) kX11_score_ok (by decide +kernel) (Nat.le_of_ble_eq_true rfl) 40 ?_
  conv => whnf
  refine ⟨(by first | assumption | rfl), ?_⟩
  try simp (disch := omega) only [Int.cast_ofNat_Int, up_s, up_a, up_i, a2, a6, s6]
  try simp only [ed]
  conv => whnf
  refine ⟨Nat.le_of_ble_eq_true rfl, Nat.le_of_ble_eq_true rfl, (by first | assumption | rfl), ?_⟩
  refine c_Phasfarm hp (fun y1 y2 => ?_) (fun y0 => ?_)
  · rw [gi.cp.fa] at y2
    have ed := hW.db f y1 (by omega)
    conv => whnf
    refine ⟨fun g => ?_, fun g => ?_⟩
    · skip
      conv => whnf
      refine ⟨fun g => ?_, fun g => ?_⟩
      · skip
        conv => whnf
        refine ⟨(by first | assumption | rfl), ?_⟩
        try simp (disch := omega) only [Int.cast_ofNat_Int, up_s, up_a, up_i, a2, a6, s6]
        try simp only [ed]
        conv => whnf
        refine ⟨Nat.le_of_ble_eq_true rfl, Nat.le_of_ble_eq_true rfl, (by first | assumption | rfl), ?_⟩
        refine a_Sscore (f := f) hs hp wp wm gi ?_
        intro σ2 hf2 g2
        conv => whnf
        refine ⟨fun q9 => by first | (simp at q9; done) | omega, ?_⟩
        first | (have h9 := h _ hf2 g2; rw [show aScore P A W f q = fSco P A f from by unfold aScore; rw [if_pos ⟨by omega, by omega⟩, if_pos (by omega)]] at h9; exact h9) | (have h9 := h _ fr.rfl gi; rw [show aScore P A W f q = W.db f from by unfold aScore; rw [if_pos ⟨by omega, by omega⟩, if_neg (by omega), if_pos (by omega)]] at h9; exact h9) | (have h9 := h _ fr.rfl gi; rw [show aScore P A W f q = -1 from by unfold aScore; rw [if_pos ⟨by omega, by omega⟩, if_neg (by omega), if_neg (by omega)]] at h9; exact h9) | (have h9 := h _ fr.rfl gi; rw [show aScore P A W f q = -1 from by unfold aScore; rw [if_neg (by omega)]] at h9; exact h9)
      conv => whnf
      refine ⟨fun g => ?_, fun g => ?_⟩
      · skip
        conv => whnf
        refine ⟨(by first | assumption | rfl), ?_⟩
        try simp (disch := omega) only [Int.cast_ofNat_Int, up_s, up_a, up_i, a2, a6, s6]
        try simp only [ed]
        conv => whnf
        refine ⟨(by first | assumption | rfl), ?_⟩
        try simp (disch := omega) only [Int.cast_ofNat_Int, up_s, up_a, up_i, a2, a6, s6]
        try simp only [ed]
        conv => whnf
        refine ⟨sx_ixI (by first | assumption | rfl) (by omega) (by omega), ?_⟩
        try simp (disch := omega) only [Int.cast_ofNat_Int, up_s, up_a, up_i, a2, a6, s6]
        try simp only [ed]
        conv => whnf
        refine ⟨fun q9 => by first | (simp at q9; done) | omega, ?_⟩
        first | (have h9 := h _ hf2 g2; rw [show aScore P A W f q = fSco P A f from by unfold aScore; rw [if_pos ⟨by omega, by omega⟩, if_pos (by omega)]] at h9; exact h9) | (have h9 := h _ fr.rfl gi; rw [show aScore P A W f q = W.db f from by unfold aScore; rw [if_pos ⟨by omega, by omega⟩, if_neg (by omega), if_pos (by omega)]] at h9; exact h9) | (have h9 := h _ fr.rfl gi; rw [show aScore P A W f q = -1 from by unfold aScore; rw [if_pos ⟨by omega, by omega⟩, if_neg (by omega), if_neg (by omega)]] at h9; exact h9) | (have h9 := h _ fr.rfl gi; rw [show aScore P A W f q = -1 from by unfold aScore; rw [if_neg (by omega)]] at h9; exact h9)
      conv => whnf
      refine ⟨fun q9 => by first | (simp at q9; done) | omega, ?_⟩
      first | (have h9 := h _ hf2 g2; rw [show aScore P A W f q = fSco P A f from by unfold aScore; rw [if_pos ⟨by omega, by omega⟩, if_pos (by omega)]] at h9; exact h9) | (have h9 := h _ fr.rfl gi; rw [show aScore P A W f q = W.db f from by unfold aScore; rw [if_pos ⟨by omega, by omega⟩, if_neg (by omega), if_pos (by omega)]] at h9; exact h9) | (have h9 := h _ fr.rfl gi; rw [show aScore P A W f q = -1 from by unfold aScore; rw [if_pos ⟨by omega, by omega⟩, if_neg (by omega), if_neg (by omega)]] at h9; exact h9) | (have h9 := h _ fr.rfl gi; rw [show aScore P A W f q = -1 from by unfold aScore; rw [if_neg (by omega)]] at h9; exact h9)
    · exact absurd g (by simp [sx_cc])
  · rw [gi.cp.fa] at y0
    conv => whnf
    refine ⟨fun g => ?_, fun g => ?_⟩
    · exact absurd g (by simp [sx_cc])
    · skip
      conv => whnf
      refine ⟨fun q9 => by first | (simp at q9; done) | omega, ?_⟩
      first | (have h9 := h _ hf2 g2; rw [show aScore P A W f q = fSco P A f from by unfold aScore; rw [if_pos ⟨by omega, by omega⟩, if_pos (by omega)]] at h9; exact h9) | (have h9 := h _ fr.rfl gi; rw [show aScore P A W f q = W.db f from by unfold aScore; rw [if_pos ⟨by omega, by omega⟩, if_neg (by omega), if_pos (by omega)]] at h9; exact h9) | (have h9 := h _ fr.rfl gi; rw [show aScore P A W f q = -1 from by unfold aScore; rw [if_pos ⟨by omega, by omega⟩, if_neg (by omega), if_neg (by omega)]] at h9; exact h9) | (have h9 := h _ fr.rfl gi; rw [show aScore P A W f q = -1 from by unfold aScore; rw [if_neg (by omega)]] at h9; exact h9)
set_option maxRecDepth 20000 in
theorem r_score (e0 : σ0 = sx_up σ 124 2 0) (wp : wP P) (wm : wM P A c) (gi : GR 0 P A σ0) (hW : rW P σ0 W) {f q : Int} (h : ∀ σ', eqR σ0 σ' → GR 0 P A σ' → Q (some (.inl (aScore P A W f q))) shM σ') : sx_Run X 254 [.inr (.inr 124), .inl f, .inl q] shM σ Q := by
  have r71 := pt_124_71 gi.pt
  have v3 := wp.fa
  have hb : (0 : Int) = 0 ∨ (0 : Int) = 1 := Or.inl rfl
  refine sx_rule0 (own := 12) (cd := kX12_score) (nL := 3) (by decide +kernel) (by decide +kernel) kX12_score_ok (by decide +kernel) (Nat.le_of_ble_eq_true rfl) 40 ?_
  conv => whnf
  refine ⟨(by first | assumption | rfl), ?_⟩
  try simp (disch := omega) only [Int.cast_ofNat_Int, up_s, up_a, up_i, r71]
  try simp only [ed]
  rw [← e0]
  conv => whnf
  refine ⟨Nat.le_of_ble_eq_true rfl, Nat.le_of_ble_eq_true rfl, (by first | assumption | rfl), ?_⟩
  refine c_Risfarm (fun y1 y2 => ?_) (fun y0 => ?_)
  · rw [gi.rp.fa] at y2
    have ed := hW.db f y1 (by omega)
    conv => whnf
    refine ⟨fun g => ?_, fun g => ?_⟩
    · exact absurd g (by simp [sx_cc])
    · skip
      conv => whnf
      refine ⟨Nat.le_of_ble_eq_true rfl, Nat.le_of_ble_eq_true rfl, ?_⟩
      refine c_Rin (fun y3 y4 => ?_) (fun y0 => ?_)
      · skip
        conv => whnf
        refine ⟨fun g => ?_, fun g => ?_⟩
        · skip
          conv => whnf
          refine ⟨fun g => ?_, fun g => ?_⟩
          · simp only [sx_cc, Classical.not_not] at g
            conv => whnf
            refine ⟨(by first | assumption | rfl), ?_⟩
            try simp (disch := omega) only [Int.cast_ofNat_Int, up_s, up_a, up_i, r71]
            try simp only [ed]
            conv => whnf
            refine ⟨sx_ixI (by first | assumption | rfl) (by omega) (by omega), ?_⟩
            try simp (disch := omega) only [Int.cast_ofNat_Int, up_s, up_a, up_i, r71]
            try simp only [ed]
            conv => whnf
            refine ⟨fun q9 => by first | (simp at q9; done) | omega, ?_⟩
            first | (have h9 := h _ hf2 g2; rw [show aScore P A W f q = fSco P A f from by unfold aScore; rw [if_pos ⟨by omega, by omega⟩, if_pos (by omega)]] at h9; exact h9) | (have h9 := h _ (eqR_rfl σ0) gi; rw [show aScore P A W f q = W.db f from by unfold aScore; rw [if_pos ⟨by omega, by omega⟩, if_neg (by omega), if_pos (by omega)]] at h9; exact h9) | (have h9 := h _ (eqR_rfl σ0) gi; rw [show aScore P A W f q = -1 from by unfold aScore; rw [if_pos ⟨by omega, by omega⟩, if_neg (by omega), if_neg (by omega)]] at h9; exact h9) | (have h9 := h _ (eqR_rfl σ0) gi; rw [show aScore P A W f q = -1 from by unfold aScore; rw [if_neg (by omega)]] at h9; exact h9)
          · simp only [sx_cc, Classical.not_not] at g
            conv => whnf
            refine ⟨Nat.le_of_ble_eq_true rfl, Nat.le_of_ble_eq_true rfl, (by first | assumption | rfl), ?_⟩
            refine a_Rscore (f := f) hb wp wm gi ?_
            intro σ2 hf2 g2
            conv => whnf
            refine ⟨fun q9 => by first | (simp at q9; done) | omega, ?_⟩
            first | (have h9 := h _ hf2 g2; rw [show aScore P A W f q = fSco P A f from by unfold aScore; rw [if_pos ⟨by omega, by omega⟩, if_pos (by omega)]] at h9; exact h9) | (have h9 := h _ (eqR_rfl σ0) gi; rw [show aScore P A W f q = W.db f from by unfold aScore; rw [if_pos ⟨by omega, by omega⟩, if_neg (by omega), if_pos (by omega)]] at h9; exact h9) | (have h9 := h _ (eqR_rfl σ0) gi; rw [show aScore P A W f q = -1 from by unfold aScore; rw [if_pos ⟨by omega, by omega⟩, if_neg (by omega), if_neg (by omega)]] at h9; exact h9) | (have h9 := h _ (eqR_rfl σ0) gi; rw [show aScore P A W f q = -1 from by unfold aScore; rw [if_neg (by omega)]] at h9; exact h9)
        · exact absurd g (by simp [sx_cc])
      · skip
        conv => whnf
        refine ⟨fun g => ?_, fun g => ?_⟩
        · exact absurd g (by simp [sx_cc])
        · skip
          conv => whnf
          refine ⟨fun q9 => by first | (simp at q9; done) | omega, ?_⟩
          first | (have h9 := h _ hf2 g2; rw [show aScore P A W f q = fSco P A f from by unfold aScore; rw [if_pos ⟨by omega, by omega⟩, if_pos (by omega)]] at h9; exact h9) | (have h9 := h _ (eqR_rfl σ0) gi; rw [show aScore P A W f q = W.db f from by unfold aScore; rw [if_pos ⟨by omega, by omega⟩, if_neg (by omega), if_pos (by omega)]] at h9; exact h9) | (have h9 := h _ (eqR_rfl σ0) gi; rw [show aScore P A W f q = -1 from by unfold aScore; rw [if_pos ⟨by omega, by omega⟩, if_neg (by omega), if_neg (by omega)]] at h9; exact h9) | (have h9 := h _ (eqR_rfl σ0) gi; rw [show aScore P A W f q = -1 from by unfold aScore; rw [if_neg (by omega)]] at h9; exact h9)
  · rw [gi.rp.fa] at y0
    conv => whnf
    refine ⟨fun g => ?_, fun g => ?_⟩
    · skip
      conv => whnf
      refine ⟨fun q9 => by first | (simp at q9; done) | omega, ?_⟩
      first | (have h9 := h _ hf2 g2; rw [show aScore P A W f q = fSco P A f from by unfold aScore; rw [if_pos ⟨by omega, by omega⟩, if_pos (by omega)]] at h9; exact h9) | (have h9 := h _ (eqR_rfl σ0) gi; rw [show aScore P A W f q = W.db f from by unfold aScore; rw [if_pos ⟨by omega, by omega⟩, if_neg (by omega), if_pos (by omega)]] at h9; exact h9) | (have h9 := h _ (eqR_rfl σ0) gi; rw [show aScore P A W f q = -1 from by unfold aScore; rw [if_pos ⟨by omega, by omega⟩, if_neg (by omega), if_neg (by omega)]] at h9; exact h9) | (have h9 := h _ (eqR_rfl σ0) gi; rw [show aScore P A W f q = -1 from by unfold aScore; rw [if_neg (by omega)]] at h9; exact h9)
    · exact absurd g (by simp [sx_cc])
set_option maxRecDepth 20000 in
theorem c_ahead (hp : isP p) (e2 : σ 0 2 = p) (wp : wP P) (wm : wM P A c) (g0 : GC 40 p P A σ) (hW : cW P 40 σ W) (ww : wW P W kk) (hk : kk ≤ 1000) (h : ∀ σ', fr (FC 40) σ σ' → GC 40 p P A σ' → Q (some (.inl (aAhead P A W))) shM σ') : sx_Run X 142 [.inr (.inr 0)] shM σ Q := by
  have q0 := lkP0 hp
  have v3 := wp.fa
  have k0 := lkS0 (Or.inl rfl)
  have k13 := lkS13 (Or.inl rfl)
  refine sx_rule2 (own := 11) (cd := kX11_ahead) (nL := 5) (by decide +kernel) (by decide +kernel) kX11_ahead_ok (by decide +kernel) (Nat.le_of_ble_eq_true rfl) [6] 40 (fun n t L st _ σ' => (t = 6 ∧ ∃ x y i : Int, ∃ w4 : Option sx_V, st = [] ∧ L = [some (.inr (.inr (0))), some (.inl (x)), some (.inl (y)), some (.inl (i)), w4] ∧ (fr (FC 40) σ σ' ∧ GC 40 p P A σ' ∧ cW P 40 σ' W ∧ σ' 0 2 = p ∧ 0 ≤ i ∧ i ≤ P.fa ∧ x = (fAh (fun f => W.db f + fSco P A f) i.toNat).1 ∧ y = (fAh (fun f => W.db f + fSco P A f) i.toNat).2) ∧ n = (P.fa - i).toNat)) ?_ ?_
  · skip
    conv => whnf
    refine ⟨_, ⟨rfl, _, _, _, _, rfl, rfl, ?_, rfl⟩⟩
    exact ⟨fr.rfl, g0, hW, e2, by omega, by omega, rfl, rfl⟩
  · intro n t L st σ' hk
    obtain ⟨rfl, x, y, i, w4, rfl, rfl, hc, rfl⟩ := hk
    obtain ⟨hfi, gi, hwi, ez, hi0, hi1, hv, hm⟩ := hc
    have hs : isS 40 := Or.inl rfl
    have a6 := pt_0_6 gi.pt
    have s6 := ptS_6 gi.pt hs
    have efa := gi.cp.fa
    have hlo := fAh_lo (fun f => W.db f + fSco P A f) i.toNat
    conv => whnf
    refine ⟨(by first | assumption | rfl), ?_⟩
    try simp (disch := omega) only [Int.cast_ofNat_Int, up_s, up_a, up_i, mp_a, mp_ge]
    try simp only [ez]
    try simp only [a6]
    try simp only [s6]
    try simp only [efa]
    try simp only [ed]
    conv => whnf
    refine ⟨(by first | assumption | rfl), ?_⟩
    try simp (disch := omega) only [Int.cast_ofNat_Int, up_s, up_a, up_i, mp_a, mp_ge]
    try simp only [ez]
    try simp only [a6]
    try simp only [s6]
    try simp only [efa]
    try simp only [ed]
    conv => whnf
    refine ⟨fun g => ?_, fun g => ?_⟩
    · simp only [sx_cc, Classical.not_not] at g
      conv => whnf
      refine ⟨fun q9 => by first | (simp at q9; done) | omega, ?_⟩
      rw [show aAhead P A W = x from by rw [hv, show i = P.fa by omega]; rfl] at h
      exact h _ hfi gi
    · simp only [sx_cc, Classical.not_not] at g
      have ed := hwi.db i hi0 (by omega)
      have edb := ww.db i hi0 (by omega)
      conv => whnf
      refine ⟨(by first | assumption | rfl), ?_⟩
      try simp (disch := omega) only [Int.cast_ofNat_Int, up_s, up_a, up_i, mp_a, mp_ge]
      try simp only [ez]
      try simp only [a6]
      try simp only [s6]
      try simp only [efa]
      try simp only [ed]
      conv => whnf
      refine ⟨(by first | assumption | rfl), ?_⟩
      try simp (disch := omega) only [Int.cast_ofNat_Int, up_s, up_a, up_i, mp_a, mp_ge]
      try simp only [ez]
      try simp only [a6]
      try simp only [s6]
      try simp only [efa]
      try simp only [ed]
      conv => whnf
      refine ⟨sx_ixI (by first | assumption | rfl) (by omega) (by omega), ?_⟩
      try simp (disch := omega) only [Int.cast_ofNat_Int, up_s, up_a, up_i, mp_a, mp_ge]
      try simp only [ez]
      try simp only [a6]
      try simp only [s6]
      try simp only [efa]
      try simp only [ed]
      conv => whnf
      refine ⟨(by first | assumption | rfl), ?_⟩
      try simp (disch := omega) only [Int.cast_ofNat_Int, up_s, up_a, up_i, mp_a, mp_ge]
      try simp only [ez]
      try simp only [a6]
      try simp only [s6]
      try simp only [efa]
      try simp only [ed]
      conv => whnf
      refine ⟨Nat.le_of_ble_eq_true rfl, Nat.le_of_ble_eq_true rfl, (by first | assumption | rfl), ?_⟩
      refine a_Sscore (f := i) hs hp wp wm gi ?_
      intro σ2 hf2 g2
      have hsb := fSco_bd (A := A) wp i
      conv => whnf
      refine ⟨⟨by omega, by omega⟩, ?_⟩
      conv => whnf
      refine ⟨fun g => ?_, fun g => ?_⟩
      · simp only [sx_cc, Classical.not_not] at g
        conv => whnf
        refine ⟨⟨by omega, by omega⟩, ?_⟩
        conv => whnf
        refine ⟨_, ?_, ⟨rfl, _, _, _, _, rfl, rfl, ?_, rfl⟩⟩
        · omega
        · first | (have e9 : fAh (fun f => W.db f + fSco P A f) (i + 1).toNat = (i, W.db i + fSco P A i) := (by rw [fAh_s hi0, if_pos (by rw [← hv, ← hm]; show x = -1 ∨ y < W.db i + fSco P A i; omega)]); exact ⟨hfi.trans hf2, g2, fr.cW hs hf2 hwi, (hf2 0 2 (by decide)).trans ez, by omega, by omega, by rw [e9], by rw [e9]⟩) | (have e9 : fAh (fun f => W.db f + fSco P A f) (i + 1).toNat = fAh (fun f => W.db f + fSco P A f) i.toNat := (by rw [fAh_s hi0, if_neg (by rw [← hv, ← hm]; show ¬ (x = -1 ∨ y < W.db i + fSco P A i); omega)]); exact ⟨hfi.trans hf2, g2, fr.cW hs hf2 hwi, (hf2 0 2 (by decide)).trans ez, by omega, by omega, by rw [e9]; exact hv, by rw [e9]; exact hm⟩)
      · simp only [sx_cc, Classical.not_not] at g
        conv => whnf
        refine ⟨fun g => ?_, fun g => ?_⟩
        · simp only [sx_cc, Classical.not_not] at g
          conv => whnf
          refine ⟨⟨by omega, by omega⟩, ?_⟩
          conv => whnf
          refine ⟨_, ?_, ⟨rfl, _, _, _, _, rfl, rfl, ?_, rfl⟩⟩
          · omega
          · first | (have e9 : fAh (fun f => W.db f + fSco P A f) (i + 1).toNat = (i, W.db i + fSco P A i) := (by rw [fAh_s hi0, if_pos (by rw [← hv, ← hm]; show x = -1 ∨ y < W.db i + fSco P A i; omega)]); exact ⟨hfi.trans hf2, g2, fr.cW hs hf2 hwi, (hf2 0 2 (by decide)).trans ez, by omega, by omega, by rw [e9], by rw [e9]⟩) | (have e9 : fAh (fun f => W.db f + fSco P A f) (i + 1).toNat = fAh (fun f => W.db f + fSco P A f) i.toNat := (by rw [fAh_s hi0, if_neg (by rw [← hv, ← hm]; show ¬ (x = -1 ∨ y < W.db i + fSco P A i); omega)]); exact ⟨hfi.trans hf2, g2, fr.cW hs hf2 hwi, (hf2 0 2 (by decide)).trans ez, by omega, by omega, by rw [e9]; exact hv, by rw [e9]; exact hm⟩)
        · simp only [sx_cc, Classical.not_not] at g
          conv => whnf
          refine ⟨⟨by omega, by omega⟩, ?_⟩
          conv => whnf
          refine ⟨_, ?_, ⟨rfl, _, _, _, _, rfl, rfl, ?_, rfl⟩⟩
          · omega
          · first | (have e9 : fAh (fun f => W.db f + fSco P A f) (i + 1).toNat = (i, W.db i + fSco P A i) := (by rw [fAh_s hi0, if_pos (by rw [← hv, ← hm]; show x = -1 ∨ y < W.db i + fSco P A i; omega)]); exact ⟨hfi.trans hf2, g2, fr.cW hs hf2 hwi, (hf2 0 2 (by decide)).trans ez, by omega, by omega, by rw [e9], by rw [e9]⟩) | (have e9 : fAh (fun f => W.db f + fSco P A f) (i + 1).toNat = fAh (fun f => W.db f + fSco P A f) i.toNat := (by rw [fAh_s hi0, if_neg (by rw [← hv, ← hm]; show ¬ (x = -1 ∨ y < W.db i + fSco P A i); omega)]); exact ⟨hfi.trans hf2, g2, fr.cW hs hf2 hwi, (hf2 0 2 (by decide)).trans ez, by omega, by omega, by rw [e9]; exact hv, by rw [e9]; exact hm⟩)
set_option maxRecDepth 20000 in
theorem r_ahead (e0 : σ0 = sx_up σ 124 2 0) (wp : wP P) (wm : wM P A c) (g0 : GR 0 P A σ0) (hW : rW P σ0 W) (ww : wW P W kk) (hk : kk ≤ 1000) (h : ∀ σ', eqR σ0 σ' → GR 0 P A σ' → Q (some (.inl (aAhead P A W))) shM σ') : sx_Run X 255 [.inr (.inr 124)] shM σ Q := by
  have v3 := wp.fa
  have hb : (0 : Int) = 0 ∨ (0 : Int) = 1 := Or.inl rfl
  refine sx_rule2 (own := 12) (cd := kX12_ahead) (nL := 5) (by decide +kernel) (by decide +kernel) kX12_ahead_ok (by decide +kernel) (Nat.le_of_ble_eq_true rfl) [11] 40 (fun n t L st _ σ' => (t = 11 ∧ ∃ x y i : Int, ∃ w4 : Option sx_V, st = [] ∧ L = [some (.inr (.inr (124))), some (.inl (x)), some (.inl (y)), some (.inl (i)), w4] ∧ (eqR σ0 σ' ∧ GR 0 P A σ' ∧ rW P σ' W ∧ 0 ≤ i ∧ i ≤ P.fa ∧ x = (fAh (fun f => W.db f + fSco P A f) i.toNat).1 ∧ y = (fAh (fun f => W.db f + fSco P A f) i.toNat).2) ∧ n = (P.fa - i).toNat)) ?_ ?_
  · skip
    conv => whnf
    refine ⟨(by first | assumption | rfl), ?_⟩
    try simp (disch := omega) only [Int.cast_ofNat_Int, up_s, up_a, up_i, mp_a, mp_ge]
    try simp only [r71]
    try simp only [efa]
    try simp only [ed]
    rw [← e0]
    conv => whnf
    refine ⟨_, ⟨rfl, _, _, _, _, rfl, rfl, ?_, rfl⟩⟩
    exact ⟨eqR_rfl σ0, g0, hW, by omega, by omega, rfl, rfl⟩
  · intro n t L st σ' hk
    obtain ⟨rfl, x, y, i, w4, rfl, rfl, hc, rfl⟩ := hk
    obtain ⟨hfi, gi, hwi, hi0, hi1, hv, hm⟩ := hc
    have r71 := pt_124_71 gi.pt
    have efa := gi.rp.fa
    have hlo := fAh_lo (fun f => W.db f + fSco P A f) i.toNat
    conv => whnf
    refine ⟨(by first | assumption | rfl), ?_⟩
    try simp (disch := omega) only [Int.cast_ofNat_Int, up_s, up_a, up_i, mp_a, mp_ge]
    try simp only [r71]
    try simp only [efa]
    try simp only [ed]
    conv => whnf
    refine ⟨fun g => ?_, fun g => ?_⟩
    · simp only [sx_cc, Classical.not_not] at g
      conv => whnf
      refine ⟨fun q9 => by first | (simp at q9; done) | omega, ?_⟩
      rw [show aAhead P A W = x from by rw [hv, show i = P.fa by omega]; rfl] at h
      exact h _ hfi gi
    · simp only [sx_cc, Classical.not_not] at g
      have ed := hwi.db i hi0 (by omega)
      have edb := ww.db i hi0 (by omega)
      conv => whnf
      refine ⟨(by first | assumption | rfl), ?_⟩
      try simp (disch := omega) only [Int.cast_ofNat_Int, up_s, up_a, up_i, mp_a, mp_ge]
      try simp only [r71]
      try simp only [efa]
      try simp only [ed]
      conv => whnf
      refine ⟨sx_ixI (by first | assumption | rfl) (by omega) (by omega), ?_⟩
      try simp (disch := omega) only [Int.cast_ofNat_Int, up_s, up_a, up_i, mp_a, mp_ge]
      try simp only [r71]
      try simp only [efa]
      try simp only [ed]
      conv => whnf
      refine ⟨Nat.le_of_ble_eq_true rfl, Nat.le_of_ble_eq_true rfl, (by first | assumption | rfl), ?_⟩
      refine a_Rscore (f := i) hb wp wm gi ?_
      intro σ2 hf2 g2
      have hsb := fSco_bd (A := A) wp i
      conv => whnf
      refine ⟨⟨by omega, by omega⟩, ?_⟩
      conv => whnf
      refine ⟨fun g => ?_, fun g => ?_⟩
      · simp only [sx_cc, Classical.not_not] at g
        conv => whnf
        refine ⟨⟨by omega, by omega⟩, ?_⟩
        conv => whnf
        refine ⟨_, ?_, ⟨rfl, _, _, _, _, rfl, rfl, ?_, rfl⟩⟩
        · omega
        · first | (have e9 : fAh (fun f => W.db f + fSco P A f) (i + 1).toNat = (i, W.db i + fSco P A i) := (by rw [fAh_s hi0, if_pos (by rw [← hv, ← hm]; show x = -1 ∨ y < W.db i + fSco P A i; omega)]); exact ⟨hfi.trans hf2, g2, eqR.rW hf2 hwi, by omega, by omega, by rw [e9], by rw [e9]⟩) | (have e9 : fAh (fun f => W.db f + fSco P A f) (i + 1).toNat = fAh (fun f => W.db f + fSco P A f) i.toNat := (by rw [fAh_s hi0, if_neg (by rw [← hv, ← hm]; show ¬ (x = -1 ∨ y < W.db i + fSco P A i); omega)]); exact ⟨hfi.trans hf2, g2, eqR.rW hf2 hwi, by omega, by omega, by rw [e9]; exact hv, by rw [e9]; exact hm⟩)
      · simp only [sx_cc, Classical.not_not] at g
        conv => whnf
        refine ⟨fun g => ?_, fun g => ?_⟩
        · simp only [sx_cc, Classical.not_not] at g
          conv => whnf
          refine ⟨⟨by omega, by omega⟩, ?_⟩
          conv => whnf
          refine ⟨_, ?_, ⟨rfl, _, _, _, _, rfl, rfl, ?_, rfl⟩⟩
          · omega
          · first | (have e9 : fAh (fun f => W.db f + fSco P A f) (i + 1).toNat = (i, W.db i + fSco P A i) := (by rw [fAh_s hi0, if_pos (by rw [← hv, ← hm]; show x = -1 ∨ y < W.db i + fSco P A i; omega)]); exact ⟨hfi.trans hf2, g2, eqR.rW hf2 hwi, by omega, by omega, by rw [e9], by rw [e9]⟩) | (have e9 : fAh (fun f => W.db f + fSco P A f) (i + 1).toNat = fAh (fun f => W.db f + fSco P A f) i.toNat := (by rw [fAh_s hi0, if_neg (by rw [← hv, ← hm]; show ¬ (x = -1 ∨ y < W.db i + fSco P A i); omega)]); exact ⟨hfi.trans hf2, g2, eqR.rW hf2 hwi, by omega, by omega, by rw [e9]; exact hv, by rw [e9]; exact hm⟩)
        · simp only [sx_cc, Classical.not_not] at g
          conv => whnf
          refine ⟨⟨by omega, by omega⟩, ?_⟩
          conv => whnf
          refine ⟨_, ?_, ⟨rfl, _, _, _, _, rfl, rfl, ?_, rfl⟩⟩
          · omega
          · first | (have e9 : fAh (fun f => W.db f + fSco P A f) (i + 1).toNat = (i, W.db i + fSco P A i) := (by rw [fAh_s hi0, if_pos (by rw [← hv, ← hm]; show x = -1 ∨ y < W.db i + fSco P A i; omega)]); exact ⟨hfi.trans hf2, g2, eqR.rW hf2 hwi, by omega, by omega, by rw [e9], by rw [e9]⟩) | (have e9 : fAh (fun f => W.db f + fSco P A f) (i + 1).toNat = fAh (fun f => W.db f + fSco P A f) i.toNat := (by rw [fAh_s hi0, if_neg (by rw [← hv, ← hm]; show ¬ (x = -1 ∨ y < W.db i + fSco P A i); omega)]); exact ⟨hfi.trans hf2, g2, eqR.rW hf2 hwi, by omega, by omega, by rw [e9]; exact hv, by rw [e9]; exact hm⟩)
end SXL6
