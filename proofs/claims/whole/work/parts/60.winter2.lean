/-! WINTER over the abstract snow (by wip/whole) -/
section SXL7
variable {X : sx_X} {Q : sx_R} {s p b c kk : Int} {σ σ0 σ' : sx_S} {P : aP} {A : aM} {W : aW}
abbrev FW (s a i : Int) : Prop := a = 38 ∨ a = 39 ∨ (a = 37 ∧ i = 2) ∨ (a = s ∧ (i = 7 ∨ i = 8 ∨ i = 9 ∨ i = 10)) ∨ (a = s + 4 ∧ i = 0) ∨ (s + 1 ≤ a ∧ a ≤ s + 3) ∨ a = s + 9 ∨ a = s + 10 ∨ a = s + 13 ∨ a = s + 14
abbrev FV (a i : Int) : Prop := a = 144 ∨ a = 145 ∨ (a = 124 ∧ (i = 56 ∨ i = 72 ∨ i = 83)) ∨ (a = 154 ∧ i = 0) ∨ (a = 155 ∧ i = 0) ∨ (157 ≤ a ∧ a ≤ 160)
theorem FW_pts : ([40, 55, 70] : List Int).all (fun s => ptL.all (fun q => decide (¬ FW s q.1 q.2.1))) = true := by decide +kernel
theorem FV_pts : ptL.all (fun q => decide (¬ FV q.1 q.2.1)) = true := by decide +kernel
theorem fr.ptw {s : Int} {σ σ' : sx_S} (h : fr (FW s) σ σ') (hs : isS s) (hT : PT σ) : PT σ' := hT.fr (fun q hq => h _ _ (by
  have h1 := List.all_eq_true.mp FW_pts s (by rcases hs with e | e | e <;> subst e <;> decide)
  exact of_decide_eq_true (List.all_eq_true.mp h1 q hq)))
theorem fr.ptv {σ σ' : sx_S} (h : fr FV σ σ') (hT : PT σ) : PT σ' := hT.fr (fun q hq => h _ _ (of_decide_eq_true (List.all_eq_true.mp FV_pts q hq)))
theorem fr.cw (h : fr (FC s) σ σ') : fr (FW s) σ σ' := h.mono (fun a i z => by unfold FC at z; unfold FW; omega)
theorem eqR_fv (h : eqR σ σ') : fr FV σ σ' := fun a i z => h a i (fun e => z (by unfold FV; omega)) (fun e => z (by unfold FV; omega)) (fun e => z (by unfold FV; omega))
theorem GC.up13 (g : GC s p P A σ) (hs : isS s) (hp : isP p) {i v : Int} : GC s p P A (sx_up σ (s + 13) i v) := by
  have h1 := hs.ge
  have h2 : p + 20 < 38 := by rcases hp with h9 | h9 <;> omega
  exact GC.mk (PT_up g.pt (lkS13 hs) (by decide)) ((up_a (by omega)).trans g.ep) (g.cp.of (fun a i z1 z2 => up_a (by omega))) (g.cs.of (fun a i z1 z2 => up_a (by omega))) (g.sc.of (fun a i z1 z2 => up_a (by omega)))
theorem GR.up160 (g : GR b P A σ) {i v : Int} : GR b P A (sx_up σ 160 i v) :=
  g.of (PT_up g.pt (show sx_lk shM 160 = _ from rfl) (by decide)) (fun a i z1 z2 => up_a (by omega)) (fun i z => up_a (by decide))
theorem cS.empty (g : cS s σ A) (hs : isS s) (hf : ∀ a i : Int, (a = s ∧ (i = 7 ∨ i = 10)) → σ' a i = σ a i) (e1 : σ' (s + 4) 0 = 0) (e2 : σ' s 8 = 0) : cS s σ' (fWinA A) :=
  cS.mk e1 ((hf _ _ (by omega)).trans g.hr) e2 ((hf _ _ (by omega)).trans g.la) (fun m h0 h1 => by have h9 : m < 0 := h1; omega) (fun m h0 h1 => by have h9 : m < 0 := h1; omega) (fun m h0 h1 => by have h9 : m < 0 := h1; omega) (fun m h0 h1 => by have h9 : m < 0 := h1; omega) (fun m h0 h1 => by have h9 : m < 0 := h1; omega) (fun m h0 h1 => by have h9 : m < 0 := h1; omega) (fun m h0 h1 => by have h9 : m < 0 := h1; omega) (fun m h0 h1 => by have h9 : m < 0 := h1; omega)
theorem rS.empty (g : rS b σ A) (e1 : σ' 154 b = 0) (e2 : σ' 155 b = 0) (e3 : σ' 156 b = σ 156 b) (e4 : σ' 124 73 = σ 124 73) : rS b σ' (fWinA A) :=
  rS.mk e1 (e3.trans g.hr) e2 (e4.trans g.la) (fun m h0 h1 => by have h9 : m < 0 := h1; omega) (fun m h0 h1 => by have h9 : m < 0 := h1; omega) (fun m h0 h1 => by have h9 : m < 0 := h1; omega) (fun m h0 h1 => by have h9 : m < 0 := h1; omega) (fun m h0 h1 => by have h9 : m < 0 := h1; omega) (fun m h0 h1 => by have h9 : m < 0 := h1; omega) (fun m h0 h1 => by have h9 : m < 0 := h1; omega) (fun m h0 h1 => by have h9 : m < 0 := h1; omega)
theorem m3_o {A B D n a i : Int} {f : Int → Int} (h1 : ¬ a = A) (h2 : ¬ a = B) (h3 : ¬ a = D) : sx_m3 σ A B D n f a i = σ a i := by
  unfold sx_m3; rw [mp_a h3, mp_a h2, mp_a h1]
theorem m3_1 {A B D n i : Int} {f : Int → Int} (h1 : ¬ A = B) (h2 : ¬ A = D) (h0 : 0 ≤ i) (hi : i < n) : sx_m3 σ A B D n f A i = f i := by
  unfold sx_m3; rw [mp_a h2, mp_a h1, mp_in h0 hi]
theorem m3_2 {A B D n i : Int} {f : Int → Int} (h2 : ¬ B = D) (h0 : 0 ≤ i) (hi : i < n) : sx_m3 σ A B D n f B i = 0 := by
  unfold sx_m3; rw [mp_a h2, mp_in h0 hi]
theorem m3_3 {A B D n i : Int} {f : Int → Int} (h0 : 0 ≤ i) (hi : i < n) : sx_m3 σ A B D n f D i = i := by
  unfold sx_m3; rw [mp_in h0 hi]
/-- the field cleared: from the state ahead of it, its winters and debts -/
theorem clearC (hs : isS s) (hp : isP p) (wp : wP P) (g : GC s p P A σ) {w : Int} {db : Int → Int} (hw : σ s 9 = w) (hdb : ∀ f : Int, 0 ≤ f → f < 3 → σ (s + 13) f = db f) (e : σ' = sx_m3 (sx_up (sx_up σ (s + 4) 0 0) s 8 0) (s + 1) (s + 2) (s + 3) 5 (fun j => if j < σ p 6 then σ (p + 8) j else 0)) : fr (FW s) σ σ' ∧ GC s p P (fWinA A) σ' ∧ cW P s σ' (aW.mk P.ho (fun _ => 0) (fun w => w) db w) := by
  have h1 := hs.ge
  have h2 : p + 20 < 38 := by rcases hp with h9 | h9 <;> omega
  have v5 := wp.wa
  have hf : fr (FW s) σ σ' := fun a i z => by
    unfold FW at z
    rw [e, m3_o (by omega) (by omega) (by omega)]
    unfold sx_up
    rw [if_neg (by omega), if_neg (by omega)]
  refine ⟨hf, GC.mk (hf.ptw hs g.pt) ((hf _ _ (by unfold FW; omega)).trans g.ep) (g.cp.of (fun a i z1 z2 => hf _ _ (by unfold FW; omega))) (g.cs.empty hs (fun a i z => by rw [e, m3_o (by omega) (by omega) (by omega), up_i (by omega), up_a (by omega)]) (by rw [e, m3_o (by omega) (by omega) (by omega), up_a (by omega), up_s]) (by rw [e, m3_o (by omega) (by omega) (by omega), up_s])) (g.sc.of (fun a i z1 z2 => by rw [e, m3_o (by omega) (by omega) (by omega), up_a (by omega), up_a (by omega)])), ?_⟩
  refine cW.mk (fun w h0 h3 => ?_) (fun w h0 h3 => ?_) (fun w h0 h3 => ?_) (fun f h0 h3 => ?_) ?_
  · rw [e, m3_1 (by omega) (by omega) h0 (by omega), g.cp.wa, if_pos h3, g.cp.ho w h0 h3]; rfl
  · rw [e, m3_2 (by omega) h0 (by omega)]; rfl
  · rw [e, m3_3 h0 (by omega)]; rfl
  · rw [e, m3_o (by omega) (by omega) (by omega), up_a (by omega), up_a (by omega), hdb f h0 h3]; rfl
  · rw [e, m3_o (by omega) (by omega) (by omega), up_i (by decide), up_a (by omega), hw]; rfl
theorem clearR (wp : wP P) (g : GR 0 P A σ) {w : Int} {db : Int → Int} (hw : σ 124 72 = w) (hdb : ∀ f : Int, 0 ≤ f → f < 3 → σ 160 f = db f) (e : σ' = sx_m3 (sx_up (sx_up σ 154 0 0) 155 0 0) 157 158 159 5 (σ 134)) : fr FV σ σ' ∧ GR 0 P (fWinA A) σ' ∧ rW P σ' (aW.mk P.ho (fun _ => 0) (fun w => w) db w) := by
  have v5 := wp.wa
  have hf : fr FV σ σ' := fun a i z => by
    unfold FV at z
    rw [e, m3_o (by omega) (by omega) (by omega)]
    unfold sx_up
    rw [if_neg (by omega), if_neg (by omega)]
  refine ⟨hf, GR.mk (hf.ptv g.pt) (g.rp.of (fun a i z1 z2 => hf _ _ (by unfold FV; omega)) (fun i z1 z2 => hf _ _ (by unfold FV; omega))) (g.rs.empty (by rw [e, m3_o (by decide) (by decide) (by decide), up_a (by decide), up_s]) (by rw [e, m3_o (by decide) (by decide) (by decide), up_s]) (by rw [e, m3_o (by decide) (by decide) (by decide), up_a (by decide), up_a (by decide)]) (by rw [e, m3_o (by decide) (by decide) (by decide), up_a (by decide), up_a (by decide)])) (g.sc.of (fun i => by rw [e, m3_o (by decide) (by decide) (by decide), up_a (by decide), up_a (by decide)]) (by rw [e, m3_o (by decide) (by decide) (by decide), up_a (by decide), up_a (by decide)])), ?_⟩
  refine rW.mk (fun w h0 h3 => ?_) (fun w h0 h3 => ?_) (fun w h0 h3 => ?_) (fun f h0 h3 => ?_) ?_
  · rw [e, m3_1 (by decide) (by decide) h0 (by omega), g.rp.ho w h0 h3]; rfl
  · rw [e, m3_2 (by decide) h0 (by omega)]; rfl
  · rw [e, m3_3 h0 (by omega)]; rfl
  · rw [e, m3_o (by decide) (by decide) (by decide), up_a (by decide), up_a (by decide), hdb f h0 h3]; rfl
  · rw [e, m3_o (by decide) (by decide) (by decide), up_a (by decide), up_a (by decide), hw]; rfl
theorem GC.up9 (g : GC s p P A σ) (hs : isS s) (hp : isP p) {v : Int} : GC s p P A (sx_up σ s 9 v) := by
  have h1 := hs.ge
  have h2 : p + 20 < 38 := by rcases hp with h9 | h9 <;> omega
  refine GC.mk (PT_fd (k := 9) g.pt (lkS0 hs) (by decide)) ((up_i (by decide)).trans g.ep) (g.cp.of (fun a i z1 z2 => up_a (by omega))) ?_ (g.sc.of (fun a i z1 z2 => up_a (by omega)))
  have r : ∀ a : Int, ¬ a = s → sx_up σ s 9 v a = σ a := fun a z => funext fun i => up_a z
  unfold cS
  rw [r (s + 4) (by omega), r (s + 5) (by omega), r (s + 6) (by omega), r (s + 7) (by omega), r (s + 8) (by omega), r (s + 9) (by omega), r (s + 10) (by omega), r (s + 11) (by omega), r (s + 12) (by omega), up_i (by decide), up_i (by decide), up_i (by decide)]
  exact g.cs
set_option maxRecDepth 20000 in
theorem a_Swinter (hs : isS s) (hp : isP p) (wp : wP P) (wm : wM P A c) (g0 : GC s p P A σ) (hW : cW P s σ W) (ww : wW P W kk) (hk : kk ≤ 1000) (h : ∀ σ', fr (FW s) σ σ' → GC s p P (fWinA A) σ' → cW P s σ' (fWinW P A W) → Q none shM σ') : sx_Run X 91 [.inr (.inr s)] shM σ Q := by
  have q0 := lkP0 hp
  have v3 := wp.fa
  have k0 := lkS0 hs
  have k13 := lkS13 hs
  have hsz := hs.ge
  have hwb := ww.wi
  refine sx_rule2 (own := 9) (cd := kX9_endWinter) (nL := 2) (by decide +kernel) (by decide +kernel) kX9_endWinter_ok (by decide +kernel) (Nat.le_of_ble_eq_true rfl) [2] 40 (fun n t L st _ σ' => (t = 2 ∧ ∃ i : Int, st = [] ∧ L = [some (.inr (.inr (s))), some (.inl (i))] ∧ (fr (FW s) σ σ' ∧ GC s p P A σ' ∧ (∀ f : Int, 0 ≤ f → f < 3 → σ' (s + 13) f = (if f < i then W.db f + fSco P A f else W.db f)) ∧ σ' s 9 = W.wi ∧ 0 ≤ i ∧ i ≤ P.fa) ∧ n = (P.fa - i).toNat)) ?_ ?_
  · skip
    conv => whnf
    refine ⟨_, ⟨rfl, _, rfl, rfl, ?_, rfl⟩⟩
    exact ⟨fr.rfl, g0, fun f y0 y1 => by rw [if_neg (by omega), hW.db f y0 y1], hW.wi, by omega, by omega⟩
  · intro n t L st σ' hk
    obtain ⟨rfl, i, rfl, rfl, hc, rfl⟩ := hk
    obtain ⟨hfi, gi, hd, hwi, hi0, hi1⟩ := hc
    have ez := gi.ep
    have s6 := ptS_6 gi.pt hs
    have efa := gi.cp.fa
    conv => whnf
    refine ⟨(by first | assumption | rfl), ?_⟩
    try simp (disch := omega) only [Int.cast_ofNat_Int, up_s, up_a, up_i, mp_a, mp_ge]
    try simp only [ez]
    try simp only [s6]
    try simp only [efa]
    try simp only [ed]
    conv => whnf
    refine ⟨(by first | assumption | rfl), ?_⟩
    try simp (disch := omega) only [Int.cast_ofNat_Int, up_s, up_a, up_i, mp_a, mp_ge]
    try simp only [ez]
    try simp only [s6]
    try simp only [efa]
    try simp only [ed]
    conv => whnf
    refine ⟨fun g => ?_, fun g => ?_⟩
    · simp only [sx_cc, Classical.not_not] at g
      conv => whnf
      refine ⟨(by first | assumption | rfl), ?_⟩
      try simp (disch := omega) only [Int.cast_ofNat_Int, up_s, up_a, up_i, mp_a, mp_ge]
      try simp only [ez]
      try simp only [s6]
      try simp only [efa]
      try simp only [ed]
      conv => whnf
      refine ⟨⟨by omega, by omega⟩, ?_⟩
      conv => whnf
      refine ⟨(by first | assumption | rfl), ?_⟩
      try simp (disch := omega) only [Int.cast_ofNat_Int, up_s, up_a, up_i, mp_a, mp_ge]
      try simp only [ez]
      try simp only [s6]
      try simp only [efa]
      try simp only [ed]
      conv => whnf
      refine ⟨Nat.le_of_ble_eq_true rfl, Nat.le_of_ble_eq_true rfl, (by first | assumption | rfl), ?_⟩
      generalize e1 : sx_up σ' s 9 _ = σ1
      have g1 : GC s p P A σ1 := by rw [← e1]; exact gi.up9 hs hp
      have w1 : σ1 s 9 = W.wi + 1 := by rw [← e1, up_s, hwi]
      have d1 : ∀ f : Int, 0 ≤ f → f < 3 → σ1 (s + 13) f = (if f < P.fa then W.db f + fSco P A f else W.db f) := fun f y0 y1 => by rw [← e1, up_a (by omega), hd f y0 y1, show i = P.fa by omega]
      refine c_Sclear g1.pt hs hp g1.ep ?_
      generalize e2 : sx_m3 _ _ _ _ _ _ = σ3
      have hcl := clearC hs hp wp g1 w1 d1 e2.symm
      conv => whnf
      refine ⟨rfl, ?_⟩
      exact h _ (hfi.trans (fr.trans (fun a i z => by rw [← e1]; unfold sx_up; rw [if_neg (by unfold FW at z; omega)]) hcl.1)) hcl.2.1 hcl.2.2
    · simp only [sx_cc, Classical.not_not] at g
      have ed := hd i hi0 (by omega)
      rw [if_neg (by omega)] at ed
      have edb := ww.db i hi0 (by omega)
      conv => whnf
      refine ⟨(by first | assumption | rfl), ?_⟩
      try simp (disch := omega) only [Int.cast_ofNat_Int, up_s, up_a, up_i, mp_a, mp_ge]
      try simp only [ez]
      try simp only [s6]
      try simp only [efa]
      try simp only [ed]
      conv => whnf
      refine ⟨sx_ixI (by first | assumption | rfl) (by omega) (by omega), ?_⟩
      try simp (disch := omega) only [Int.cast_ofNat_Int, up_s, up_a, up_i, mp_a, mp_ge]
      try simp only [ez]
      try simp only [s6]
      try simp only [efa]
      try simp only [ed]
      conv => whnf
      refine ⟨Nat.le_of_ble_eq_true rfl, Nat.le_of_ble_eq_true rfl, (by first | assumption | rfl), ?_⟩
      refine a_Sscore (f := i) hs hp wp wm gi ?_
      intro σ2 hf2 g2
      have hsb := fSco_bd (A := A) wp i
      conv => whnf
      refine ⟨⟨by omega, by omega⟩, ?_⟩
      conv => whnf
      refine ⟨sx_ixI (by first | assumption | rfl) (by omega) (by omega), ?_⟩
      conv => whnf
      refine ⟨⟨by omega, by omega⟩, ?_⟩
      conv => whnf
      refine ⟨_, ?_, ⟨rfl, _, rfl, rfl, ?_, rfl⟩⟩
      · omega
      · refine ⟨(hfi.trans hf2.cw).trans (fun a j z => up_a (by unfold FW at z; omega)), g2.up13 hs hp, fun f y0 y1 => ?_, ?_, by omega, by omega⟩
        · by_cases e9 : f = i
          · subst e9; rw [up_s, if_pos (by omega)]
          · rw [up_i e9, hf2 _ _ (by unfold FC; omega), hd f y0 y1]; by_cases e8 : f < i
            · rw [if_pos e8, if_pos (by omega)]
            · rw [if_neg e8, if_neg (by omega)]
        · rw [up_a (by omega), hf2 _ _ (by unfold FC; omega)]; exact hwi
set_option maxRecDepth 20000 in
theorem c_winter (hp : isP p) (wp : wP P) (wm : wM P A c) (g0 : GC 40 p P A σ) (hW : cW P 40 σ W) (ww : wW P W kk) (hk : kk ≤ 1000) (h : ∀ σ', fr (FW 40) σ σ' → GC 40 p P (fWinA A) σ' → cW P 40 σ' (fWinW P A W) → Q (some (.inl (W.wi + 1))) shM (sx_up σ' 85 0 0)) : sx_Run X 139 [.inr (.inr 0)] shM σ Q := by
  have hs : isS 40 := Or.inl rfl
  have a6 := pt_0_6 g0.pt
  refine sx_rule0 (own := 11) (cd := kX11_winter) (nL := 1) (by decide +kernel) (by decide +kernel) kX11_winter_ok (by decide +kernel) (Nat.le_of_ble_eq_true rfl) 40 ?_
  conv => whnf
  refine ⟨(by first | assumption | rfl), ?_⟩
  try simp (disch := omega) only [Int.cast_ofNat_Int, up_s, up_a, up_i, mp_a, mp_ge]
  try simp only [a6]
  try simp only [a10]
  try simp only [ew]
  conv => whnf
  refine ⟨Nat.le_of_ble_eq_true rfl, Nat.le_of_ble_eq_true rfl, (by first | assumption | rfl), ?_⟩
  refine a_Swinter hs hp wp wm g0 hW ww hk ?_
  intro σ2 hf2 g2 w2
  have a6 := pt_0_6 g2.pt
  have a10 := pt_0_10 g2.pt
  have ew := w2.wi
  conv => whnf
  refine ⟨(by first | assumption | rfl), ?_⟩
  try simp (disch := omega) only [Int.cast_ofNat_Int, up_s, up_a, up_i, mp_a, mp_ge]
  try simp only [a6]
  try simp only [a10]
  try simp only [ew]
  conv => whnf
  refine ⟨(by first | assumption | rfl), ?_⟩
  try simp (disch := omega) only [Int.cast_ofNat_Int, up_s, up_a, up_i, mp_a, mp_ge]
  try simp only [a6]
  try simp only [a10]
  try simp only [ew]
  conv => whnf
  refine ⟨(by first | assumption | rfl), ?_⟩
  try simp (disch := omega) only [Int.cast_ofNat_Int, up_s, up_a, up_i, mp_a, mp_ge]
  try simp only [a6]
  try simp only [a10]
  try simp only [ew]
  conv => whnf
  refine ⟨(by first | assumption | rfl), ?_⟩
  try simp (disch := omega) only [Int.cast_ofNat_Int, up_s, up_a, up_i, mp_a, mp_ge]
  try simp only [a6]
  try simp only [a10]
  try simp only [ew]
  conv => whnf
  refine ⟨fun q9 => by first | (simp at q9; done) | omega, ?_⟩
  exact h _ hf2 g2 w2
set_option maxRecDepth 20000 in
theorem r_winter (e0 : σ0 = sx_up σ 124 2 0) (wp : wP P) (wm : wM P A c) (g0 : GR 0 P A σ0) (hW : rW P σ0 W) (ww : wW P W kk) (hk : kk ≤ 1000) (h : ∀ σ', fr FV σ0 σ' → GR 0 P (fWinA A) σ' → rW P σ' (fWinW P A W) → σ' 124 83 = 0 → Q (some (.inl (W.wi + 1))) shM σ') : sx_Run X 252 [.inr (.inr 124)] shM σ Q := by
  have v3 := wp.fa
  have hb : (0 : Int) = 0 ∨ (0 : Int) = 1 := Or.inl rfl
  have hwb := ww.wi
  refine sx_rule2 (own := 12) (cd := kX12_winter) (nL := 2) (by decide +kernel) (by decide +kernel) kX12_winter_ok (by decide +kernel) (Nat.le_of_ble_eq_true rfl) [7] 40 (fun n t L st _ σ' => (t = 7 ∧ ∃ i : Int, st = [] ∧ L = [some (.inr (.inr (124))), some (.inl (i))] ∧ (fr FV σ0 σ' ∧ GR 0 P A σ' ∧ (∀ f : Int, 0 ≤ f → f < 3 → σ' 160 f = (if f < i then W.db f + fSco P A f else W.db f)) ∧ σ' 124 72 = W.wi ∧ 0 ≤ i ∧ i ≤ P.fa) ∧ n = (P.fa - i).toNat)) ?_ ?_
  · skip
    conv => whnf
    refine ⟨(by first | assumption | rfl), ?_⟩
    try simp (disch := omega) only [Int.cast_ofNat_Int, up_s, up_a, up_i, mp_a, mp_ge]
    try simp only [r71]
    try simp only [efa]
    try simp only [ed]
    rw [← e0]
    conv => whnf
    refine ⟨_, ⟨rfl, _, rfl, rfl, ?_, rfl⟩⟩
    exact ⟨fr.rfl, g0, fun f y0 y1 => by rw [if_neg (by omega), hW.db f y0 y1], hW.wi, by omega, by omega⟩
  · intro n t L st σ' hk
    obtain ⟨rfl, i, rfl, rfl, hc, rfl⟩ := hk
    obtain ⟨hfi, gi, hd, hwi, hi0, hi1⟩ := hc
    have r71 := pt_124_71 gi.pt
    have efa := gi.rp.fa
    conv => whnf
    refine ⟨(by first | assumption | rfl), ?_⟩
    try simp (disch := omega) only [Int.cast_ofNat_Int, up_s, up_a, up_i, mp_a, mp_ge]
    try simp only [r71]
    try simp only [efa]
    try simp only [ed]
    conv => whnf
    refine ⟨fun g => ?_, fun g => ?_⟩
    · simp only [sx_cc, Classical.not_not] at g
      conv => whnf
      refine ⟨Nat.le_of_ble_eq_true rfl, Nat.le_of_ble_eq_true rfl, (by first | assumption | rfl), ?_⟩
      refine c_Rgohome gi.pt ?_
      generalize e2 : sx_m3 _ _ _ _ _ _ = σ3
      have d1 : ∀ f : Int, 0 ≤ f → f < 3 → σ' 160 f = (if f < P.fa then W.db f + fSco P A f else W.db f) := fun f y0 y1 => by rw [hd f y0 y1, show i = P.fa by omega]
      have hcl := clearR wp gi hwi d1 e2.symm
      have hw3 : σ3 124 72 = W.wi := hcl.2.2.wi
      conv => whnf
      refine ⟨(by first | assumption | rfl), ?_⟩
      try simp (disch := omega) only [Int.cast_ofNat_Int, up_s, up_a, up_i, mp_a, mp_ge]
      try simp only [r71]
      try simp only [efa]
      try simp only [ed]
      conv => whnf
      refine ⟨(by first | assumption | rfl), ?_⟩
      try simp (disch := omega) only [Int.cast_ofNat_Int, up_s, up_a, up_i, mp_a, mp_ge]
      try simp only [r71]
      try simp only [efa]
      try simp only [ed]
      conv => whnf
      refine ⟨⟨by omega, by omega⟩, ?_⟩
      conv => whnf
      refine ⟨(by first | assumption | rfl), ?_⟩
      try simp (disch := omega) only [Int.cast_ofNat_Int, up_s, up_a, up_i, mp_a, mp_ge]
      try simp only [r71]
      try simp only [efa]
      try simp only [ed]
      conv => whnf
      refine ⟨(by first | assumption | rfl), ?_⟩
      try simp (disch := omega) only [Int.cast_ofNat_Int, up_s, up_a, up_i, mp_a, mp_ge]
      try simp only [r71]
      try simp only [efa]
      try simp only [ed]
      conv => whnf
      refine ⟨fun q9 => by first | (simp at q9; done) | omega, ?_⟩
      try rw [hw3]
      generalize e5 : sx_up (sx_up σ3 124 83 0) 124 72 _ = σ5
      have hf5 : fr FV σ3 σ5 := fun a i z => by rw [← e5]; unfold sx_up; unfold FV at z; rw [if_neg (by omega), if_neg (by omega)]
      exact h σ5 ((hfi.trans hcl.1).trans hf5) (hcl.2.1.of (hf5.ptv hcl.2.1.pt) (fun a i z1 z2 => by rw [← e5, up_a (by omega), up_a (by omega)]) (fun i z => by rw [← e5, up_i (by omega), up_i (by omega)])) (rW.mk (fun w y0 y1 => by rw [← e5, up_a (by decide), up_a (by decide)]; exact hcl.2.2.at1 w y0 y1) (fun w y0 y1 => by rw [← e5, up_a (by decide), up_a (by decide)]; exact hcl.2.2.st w y0 y1) (fun w y0 y1 => by rw [← e5, up_a (by decide), up_a (by decide)]; exact hcl.2.2.bt w y0 y1) (fun w y0 y1 => by rw [← e5, up_a (by decide), up_a (by decide)]; exact hcl.2.2.db w y0 y1) (by rw [← e5, up_s]; rfl)) (by rw [← e5, up_i (by decide), up_s])
    · simp only [sx_cc, Classical.not_not] at g
      have ed := hd i hi0 (by omega)
      rw [if_neg (by omega)] at ed
      have edb := ww.db i hi0 (by omega)
      conv => whnf
      refine ⟨(by first | assumption | rfl), ?_⟩
      try simp (disch := omega) only [Int.cast_ofNat_Int, up_s, up_a, up_i, mp_a, mp_ge]
      try simp only [r71]
      try simp only [efa]
      try simp only [ed]
      conv => whnf
      refine ⟨sx_ixI (by first | assumption | rfl) (by omega) (by omega), ?_⟩
      try simp (disch := omega) only [Int.cast_ofNat_Int, up_s, up_a, up_i, mp_a, mp_ge]
      try simp only [r71]
      try simp only [efa]
      try simp only [ed]
      conv => whnf
      refine ⟨Nat.le_of_ble_eq_true rfl, Nat.le_of_ble_eq_true rfl, (by first | assumption | rfl), ?_⟩
      refine a_Rscore (f := i) hb wp wm gi ?_
      intro σ2 hf2 g2
      have hsb := fSco_bd (A := A) wp i
      conv => whnf
      refine ⟨⟨by omega, by omega⟩, ?_⟩
      conv => whnf
      refine ⟨sx_ixI (by first | assumption | rfl) (by omega) (by omega), ?_⟩
      conv => whnf
      refine ⟨⟨by omega, by omega⟩, ?_⟩
      conv => whnf
      refine ⟨_, ?_, ⟨rfl, _, rfl, rfl, ?_, rfl⟩⟩
      · omega
      · refine ⟨(hfi.trans (eqR_fv hf2)).trans (fun a j z => up_a (by unfold FV at z; omega)), g2.up160, fun f y0 y1 => ?_, ?_, by omega, by omega⟩
        · by_cases e9 : f = i
          · subst e9; rw [up_s, if_pos (by omega)]
          · rw [up_i e9, hf2.row (by decide) (by decide) (by decide), hd f y0 y1]; by_cases e8 : f < i
            · rw [if_pos e8, if_pos (by omega)]
            · rw [if_neg e8, if_neg (by omega)]
        · rw [up_a (by decide), hf2 _ _ (by decide) (by decide) (by decide)]; exact hwi
end SXL7
