/-! UNDO (by wip/whole) -/
section SXM8
variable {X : sx_X} {Q : sx_R} {s t p b c kk K : Int} {σ σ0 σ' σ1 σ2 : sx_S} {P : aP} {A B : aM} {W V : aW} {Y : aU}
def wuA (A : aM) (Y : aU) : aM := aM.mk Y.n A.hr A.sn A.la A.lk A.ce A.wy A.bo A.dp A.cv A.ow Y.bl
def wuW (W : aW) (Y : aU) : aW := aW.mk Y.at1 Y.st Y.bt W.db W.wi
def uOf (A : aM) (W : aW) : aU := aU.mk W.at1 W.st W.bt A.n A.bl
theorem wM.wu (wm : wM P A c) (hn : Y.n ≤ A.n) (hu : wU P Y K) : wM P (wuA A Y) c := by
  have wn := wm.n
  exact wM.mk hu.2.1 wm.hr wm.sn wm.la (fun m y0 y1 => wm.lk m y0 (Int.lt_of_lt_of_le y1 hn)) (fun m y0 y1 => wm.ce m y0 (Int.lt_of_lt_of_le y1 hn)) (fun m y0 y1 => wm.wy m y0 (Int.lt_of_lt_of_le y1 hn)) (fun m y0 y1 => wm.bo m y0 (Int.lt_of_lt_of_le y1 hn)) (fun m y0 y1 => wm.dp m y0 (Int.lt_of_lt_of_le y1 hn)) (fun m y0 y1 => wm.cv m y0 (Int.lt_of_lt_of_le y1 hn)) (fun m y0 y1 => wm.ow m y0 (Int.lt_of_lt_of_le y1 hn)) (fun m y0 y1 => hu.2.2 m y0 y1)
theorem wW.wu (ww : wW P W kk) (hu : wU P Y kk) : wW P (wuW W Y) kk := wW.mk (fun w y0 y1 => (hu.1 w y0 y1).1) (fun w y0 y1 => (hu.1 w y0 y1).2.1) (fun w y0 y1 => (hu.1 w y0 y1).2.2) ww.db ww.wi
abbrev FTB (a i : Int) : Prop := (41 ≤ a ∧ a ≤ 43) ∨ (a = 44 ∧ i = 0) ∨ a = 52 ∨ (a = 85 ∧ (i = 0 ∨ i = 1))
theorem FTB_pts : ptL.all (fun q => decide (¬ FTB q.1 q.2.1)) = true := by decide +kernel
theorem fr.pttb {σ σ' : sx_S} (h : fr FTB σ σ') (hT : PT σ) : PT σ' := hT.fr (fun q hq => h _ _ (of_decide_eq_true (List.all_eq_true.mp FTB_pts q hq)))
/-- back on both rows, of the walkers' cells and the marks' -/
theorem GC.wu (g : GC 40 p P A σ) (hp : isP p) (hf : fr FTB σ σ') (hn : Y.n ≤ A.n) (e1 : σ' (40 + 4) 0 = Y.n) (e2 : ∀ m : Int, 0 ≤ m → m < Y.n → σ' (40 + 12) m = Y.bl m) : GC 40 p P (wuA A Y) σ' := by
  have h2 : p + 20 < 38 := by rcases hp with h9 | h9 <;> omega
  exact GC.mk (hf.pttb g.pt) ((hf _ _ (by decide)).trans g.ep) (g.cp.of (fun a i z1 z2 => hf _ _ (by unfold FTB; omega))) (cS.mk e1 ((hf _ _ (by decide)).trans g.cs.hr) ((hf _ _ (by decide)).trans g.cs.sn) ((hf _ _ (by decide)).trans g.cs.la) (fun m y0 y1 => (hf _ _ (by unfold FTB; omega)).trans (g.cs.lk m y0 (Int.lt_of_lt_of_le y1 hn))) (fun m y0 y1 => (hf _ _ (by unfold FTB; omega)).trans (g.cs.ce m y0 (Int.lt_of_lt_of_le y1 hn))) (fun m y0 y1 => (hf _ _ (by unfold FTB; omega)).trans (g.cs.wy m y0 (Int.lt_of_lt_of_le y1 hn))) (fun m y0 y1 => (hf _ _ (by unfold FTB; omega)).trans (g.cs.bo m y0 (Int.lt_of_lt_of_le y1 hn))) (fun m y0 y1 => (hf _ _ (by unfold FTB; omega)).trans (g.cs.dp m y0 (Int.lt_of_lt_of_le y1 hn))) (fun m y0 y1 => (hf _ _ (by unfold FTB; omega)).trans (g.cs.cv m y0 (Int.lt_of_lt_of_le y1 hn))) (fun m y0 y1 => (hf _ _ (by unfold FTB; omega)).trans (g.cs.ow m y0 (Int.lt_of_lt_of_le y1 hn))) e2) (g.sc.of (fun a i z1 z2 => hf _ _ (by unfold FTB; omega)))
theorem cW_wu (h : cW P 40 σ W) (hf : fr FTB σ σ') (e1 : ∀ w : Int, 0 ≤ w → w < P.wa → σ' (40 + 1) w = Y.at1 w) (e2 : ∀ w : Int, 0 ≤ w → w < P.wa → σ' (40 + 2) w = Y.st w) (e3 : ∀ w : Int, 0 ≤ w → w < P.wa → σ' (40 + 3) w = Y.bt w) : cW P 40 σ' (wuW W Y) :=
  cW.mk e1 e2 e3 (fun f y0 y1 => (hf _ _ (by unfold FTB; omega)).trans (h.db f y0 y1)) ((hf _ _ (by decide)).trans h.wi)
theorem fBk_n (hk : pOk P σ b) : (fBk σ b Y).n ≤ Y.n := by
  have h := hk.1
  unfold fBk
  by_cases k2 : σ 86 b = 2
  · rw [if_pos k2]; exact Int.le_refl _
  · rw [if_neg k2]
    by_cases k3 : σ 86 b = 3
    · rw [if_pos k3]; exact Int.le_refl _
    · rw [if_neg k3]; show Y.n - σ 86 b ≤ Y.n; omega
theorem fBk_2 (h : σ 86 b = 2) : fBk σ b Y = aU.mk Y.at1 Y.st (fU Y.bt (σ 87 b) (σ 88 b)) Y.n Y.bl := if_pos h
theorem fBk_3 (h : σ 86 b = 3) : fBk σ b Y = aU.mk Y.at1 Y.st Y.bt Y.n (fFx (σ (90 + b)) (σ 88 b).toNat Y.bl) := (if_neg (by omega)).trans (if_pos h)
theorem fBk_1 (h : σ 86 b = 0 ∨ σ 86 b = 1) : fBk σ b Y = aU.mk (fU Y.at1 (σ 87 b) (σ 88 b)) (fun w => if w = σ 87 b then Y.st w - 1 else Y.st w) Y.bt (Y.n - σ 86 b) Y.bl := (if_neg (by omega)).trans (if_neg (by omega))
theorem fFx_t {row f : Int → Int} {i m : Int} (h : 0 ≤ i) : fFx row (i + 1).toNat f m = if m = row i then 0 else fFx row i.toNat f m := by
  rw [toNat_s h]
  show (if m = row (i.toNat : Int) then 0 else fFx row i.toNat f m) = _
  rw [Int.toNat_of_nonneg h]
set_option maxRecDepth 20000 in
theorem c_Ltake (hp : isP p) (wp : wP P) (wm : wM P A c) (g0 : GC 40 p P A σ) (hW : cW P 40 σ W) {z nx : Int} (ez : σ 85 0 = z) (ex : σ 85 1 = nx) (hz : 1 ≤ z ∧ z ≤ 20) (hx : 0 ≤ nx ∧ nx < 20) (hst0 : ∀ w : Int, 0 ≤ w → w < P.wa → 0 ≤ W.st w ∧ W.st w ≤ 1000000) (hk : pOk P σ (fPv nx)) (hu : wU P (fBk σ (fPv nx) (uOf A W)) K) (h : ∀ σ', fr FTB σ σ' → GC 40 p P (wuA A (fBk σ (fPv nx) (uOf A W))) σ' → cW P 40 σ' (wuW W (fBk σ (fPv nx) (uOf A W))) → σ' 85 0 = z - 1 → σ' 85 1 = fPv nx → Q none shM σ') : sx_Run X 30 [.inr (.inr 85), .inr (.inr 40)] shM σ Q := by
  have hs : isS 40 := Or.inl rfl
  have k0 := lkS0 hs
  have k1 := lkS1 hs
  have k2 := lkS2 hs
  have k3 := lkS3 hs
  have k4 := lkS4 hs
  have k12 := lkS12 hs
  have a2 := pt_85_2 g0.pt
  have a3 := pt_85_3 g0.pt
  have a4 := pt_85_4 g0.pt
  have a5 := pt_85_5 g0.pt
  have s2 := ptS_2 g0.pt hs
  have s3 := ptS_3 g0.pt hs
  have s4 := ptS_4 g0.pt hs
  have s5 := ptS_5 g0.pt hs
  have m8 := ptM_8 g0.pt hs
  have hq := fPv_bd hx
  have v5 := wp.wa
  have wn := wm.n
  have en := g0.cs.n
  obtain ⟨q, eq⟩ : ∃ q, q = fPv nx := ⟨_, rfl⟩
  rw [← eq] at hq hk hu h
  have h01 := hk.1
  have e89 := pt89 g0.pt hq
  have lkr := lk90 hq
  refine sx_rule2 (own := 3) (cd := kX3_takeBack) (nL := 5) (by decide +kernel) (by decide +kernel) kX3_takeBack_ok (by decide +kernel) (Nat.le_of_ble_eq_true rfl) [154] 40 (fun n t L st _ σ' => (t = 154 ∧ ∃ i : Int, st = [] ∧ L = [some (.inr (.inr (85))), some (.inr (.inr (40))), some (.inl (σ 88 q)), some (.inl (σ 87 q)), some (.inl (i))] ∧ (σ 86 q = 3 ∧ (∀ a i : Int, ¬ a = 52 → ¬ (a = 85 ∧ (i = 0 ∨ i = 1)) → σ' a i = σ a i) ∧ σ' 85 0 = z - 1 ∧ σ' 85 1 = q ∧ (∀ m : Int, 0 ≤ m → m < A.n → σ' (40 + 12) m = fFx (σ (90 + q)) i.toNat A.bl m) ∧ 0 ≤ i ∧ i ≤ σ 88 q) ∧ n = (σ 88 q - i).toNat)) ?_ ?_
  · skip
    conv => whnf
    refine ⟨(by first | assumption | rfl), ?_⟩
    try simp (disch := omega) only [Int.cast_ofNat_Int, up_s, up_a, up_i, mp_a, mp_ge]
    try simp only [ez]
    try simp only [ex]
    try simp only [ya0]
    try simp only [ya]
    try simp only [a2]
    try simp only [a3]
    try simp only [a4]
    try simp only [a5]
    try simp only [b0]
    try simp only [b1]
    try simp only [x86]
    try simp only [x87]
    try simp only [x88]
    try simp only [s2]
    try simp only [s3]
    try simp only [s4]
    try simp only [s5]
    try simp only [m8]
    try simp only [en]
    try simp only [est]
    try simp only [e89b]
    try simp only [x90]
    conv => whnf
    refine ⟨fun g => ?_, fun g => ?_⟩
    · simp only [sx_cc, Classical.not_not] at g
      conv => whnf
      refine ⟨(by first | assumption | rfl), ?_⟩
      try simp (disch := omega) only [Int.cast_ofNat_Int, up_s, up_a, up_i, mp_a, mp_ge]
      try simp only [ez]
      try simp only [ex]
      try simp only [ya0]
      try simp only [ya]
      try simp only [a2]
      try simp only [a3]
      try simp only [a4]
      try simp only [a5]
      try simp only [b0]
      try simp only [b1]
      try simp only [x86]
      try simp only [x87]
      try simp only [x88]
      try simp only [s2]
      try simp only [s3]
      try simp only [s4]
      try simp only [s5]
      try simp only [m8]
      try simp only [en]
      try simp only [est]
      try simp only [e89b]
      try simp only [x90]
      generalize eA : sx_up σ 85 1 _ = σa
      have ya : σa 85 1 = q := by rw [← eA, up_s, eq]; unfold fPv; first | rw [if_pos (by omega)] | rw [if_neg (by omega)]
      have xa : ∀ a i : Int, ¬ (a = 85 ∧ i = 1) → σa a i = σ a i := fun a i z9 => by rw [← eA, up_n z9]
      have ya0 : σa 85 0 = z := (xa _ _ (by decide)).trans ez
      conv => whnf
      refine ⟨(by first | assumption | rfl), ?_⟩
      try simp (disch := omega) only [Int.cast_ofNat_Int, up_s, up_a, up_i, mp_a, mp_ge]
      try simp only [ez]
      try simp only [ex]
      try simp only [ya0]
      try simp only [ya]
      try simp only [a2]
      try simp only [a3]
      try simp only [a4]
      try simp only [a5]
      try simp only [b0]
      try simp only [b1]
      try simp only [x86]
      try simp only [x87]
      try simp only [x88]
      try simp only [s2]
      try simp only [s3]
      try simp only [s4]
      try simp only [s5]
      try simp only [m8]
      try simp only [en]
      try simp only [est]
      try simp only [e89b]
      try simp only [x90]
      conv => whnf
      refine ⟨⟨by omega, by omega⟩, ?_⟩
      conv => whnf
      refine ⟨(by first | assumption | rfl), ?_⟩
      try simp (disch := omega) only [Int.cast_ofNat_Int, up_s, up_a, up_i, mp_a, mp_ge]
      try simp only [ez]
      try simp only [ex]
      try simp only [ya0]
      try simp only [ya]
      try simp only [a2]
      try simp only [a3]
      try simp only [a4]
      try simp only [a5]
      try simp only [b0]
      try simp only [b1]
      try simp only [x86]
      try simp only [x87]
      try simp only [x88]
      try simp only [s2]
      try simp only [s3]
      try simp only [s4]
      try simp only [s5]
      try simp only [m8]
      try simp only [en]
      try simp only [est]
      try simp only [e89b]
      try simp only [x90]
      generalize eB : sx_up σa 85 0 _ = σb
      have b1 : σb 85 1 = q := by rw [← eB, up_i (by decide)]; exact ya
      have b0 : σb 85 0 = z - 1 := by rw [← eB, up_s]
      have xb : ∀ a i : Int, ¬ (a = 85 ∧ (i = 0 ∨ i = 1)) → σb a i = σ a i := fun a i z9 => by rw [← eB, up_n (by omega)]; exact xa a i (by omega)
      have Fb : fr FTB σ σb := fun a i z9 => xb a i (by unfold FTB at z9; omega)
      have Tb := Fb.pttb g0.pt
      have a2 := pt_85_2 Tb
      have a3 := pt_85_3 Tb
      have a4 := pt_85_4 Tb
      have a5 := pt_85_5 Tb
      have s2 := ptS_2 Tb hs
      have s3 := ptS_3 Tb hs
      have s4 := ptS_4 Tb hs
      have s5 := ptS_5 Tb hs
      have m8 := ptM_8 Tb hs
      have x86 : σb 86 q = σ 86 q := xb _ _ (by omega)
      have x87 : σb 87 q = σ 87 q := xb _ _ (by omega)
      have x88 : σb 88 q = σ 88 q := xb _ _ (by omega)
      have en : σb (40 + 4) 0 = A.n := (xb _ _ (by omega)).trans g0.cs.n
      conv => whnf
      refine ⟨(by first | assumption | rfl), ?_⟩
      try simp (disch := omega) only [Int.cast_ofNat_Int, up_s, up_a, up_i, mp_a, mp_ge]
      try simp only [ez]
      try simp only [ex]
      try simp only [ya0]
      try simp only [ya]
      try simp only [a2]
      try simp only [a3]
      try simp only [a4]
      try simp only [a5]
      try simp only [b0]
      try simp only [b1]
      try simp only [x86]
      try simp only [x87]
      try simp only [x88]
      try simp only [s2]
      try simp only [s3]
      try simp only [s4]
      try simp only [s5]
      try simp only [m8]
      try simp only [en]
      try simp only [est]
      try simp only [e89b]
      try simp only [x90]
      conv => whnf
      refine ⟨(by first | assumption | rfl), ?_⟩
      try simp (disch := omega) only [Int.cast_ofNat_Int, up_s, up_a, up_i, mp_a, mp_ge]
      try simp only [ez]
      try simp only [ex]
      try simp only [ya0]
      try simp only [ya]
      try simp only [a2]
      try simp only [a3]
      try simp only [a4]
      try simp only [a5]
      try simp only [b0]
      try simp only [b1]
      try simp only [x86]
      try simp only [x87]
      try simp only [x88]
      try simp only [s2]
      try simp only [s3]
      try simp only [s4]
      try simp only [s5]
      try simp only [m8]
      try simp only [en]
      try simp only [est]
      try simp only [e89b]
      try simp only [x90]
      conv => whnf
      refine ⟨sx_ixI (by first | assumption | rfl) (by omega) (by omega), ?_⟩
      try simp (disch := omega) only [Int.cast_ofNat_Int, up_s, up_a, up_i, mp_a, mp_ge]
      try simp only [ez]
      try simp only [ex]
      try simp only [ya0]
      try simp only [ya]
      try simp only [a2]
      try simp only [a3]
      try simp only [a4]
      try simp only [a5]
      try simp only [b0]
      try simp only [b1]
      try simp only [x86]
      try simp only [x87]
      try simp only [x88]
      try simp only [s2]
      try simp only [s3]
      try simp only [s4]
      try simp only [s5]
      try simp only [m8]
      try simp only [en]
      try simp only [est]
      try simp only [e89b]
      try simp only [x90]
      conv => whnf
      refine ⟨(by first | assumption | rfl), ?_⟩
      try simp (disch := omega) only [Int.cast_ofNat_Int, up_s, up_a, up_i, mp_a, mp_ge]
      try simp only [ez]
      try simp only [ex]
      try simp only [ya0]
      try simp only [ya]
      try simp only [a2]
      try simp only [a3]
      try simp only [a4]
      try simp only [a5]
      try simp only [b0]
      try simp only [b1]
      try simp only [x86]
      try simp only [x87]
      try simp only [x88]
      try simp only [s2]
      try simp only [s3]
      try simp only [s4]
      try simp only [s5]
      try simp only [m8]
      try simp only [en]
      try simp only [est]
      try simp only [e89b]
      try simp only [x90]
      conv => whnf
      refine ⟨(by first | assumption | rfl), ?_⟩
      try simp (disch := omega) only [Int.cast_ofNat_Int, up_s, up_a, up_i, mp_a, mp_ge]
      try simp only [ez]
      try simp only [ex]
      try simp only [ya0]
      try simp only [ya]
      try simp only [a2]
      try simp only [a3]
      try simp only [a4]
      try simp only [a5]
      try simp only [b0]
      try simp only [b1]
      try simp only [x86]
      try simp only [x87]
      try simp only [x88]
      try simp only [s2]
      try simp only [s3]
      try simp only [s4]
      try simp only [s5]
      try simp only [m8]
      try simp only [en]
      try simp only [est]
      try simp only [e89b]
      try simp only [x90]
      conv => whnf
      refine ⟨sx_ixI (by first | assumption | rfl) (by omega) (by omega), ?_⟩
      try simp (disch := omega) only [Int.cast_ofNat_Int, up_s, up_a, up_i, mp_a, mp_ge]
      try simp only [ez]
      try simp only [ex]
      try simp only [ya0]
      try simp only [ya]
      try simp only [a2]
      try simp only [a3]
      try simp only [a4]
      try simp only [a5]
      try simp only [b0]
      try simp only [b1]
      try simp only [x86]
      try simp only [x87]
      try simp only [x88]
      try simp only [s2]
      try simp only [s3]
      try simp only [s4]
      try simp only [s5]
      try simp only [m8]
      try simp only [en]
      try simp only [est]
      try simp only [e89b]
      try simp only [x90]
      conv => whnf
      refine ⟨(by first | assumption | rfl), ?_⟩
      try simp (disch := omega) only [Int.cast_ofNat_Int, up_s, up_a, up_i, mp_a, mp_ge]
      try simp only [ez]
      try simp only [ex]
      try simp only [ya0]
      try simp only [ya]
      try simp only [a2]
      try simp only [a3]
      try simp only [a4]
      try simp only [a5]
      try simp only [b0]
      try simp only [b1]
      try simp only [x86]
      try simp only [x87]
      try simp only [x88]
      try simp only [s2]
      try simp only [s3]
      try simp only [s4]
      try simp only [s5]
      try simp only [m8]
      try simp only [en]
      try simp only [est]
      try simp only [e89b]
      try simp only [x90]
      conv => whnf
      refine ⟨(by first | assumption | rfl), ?_⟩
      try simp (disch := omega) only [Int.cast_ofNat_Int, up_s, up_a, up_i, mp_a, mp_ge]
      try simp only [ez]
      try simp only [ex]
      try simp only [ya0]
      try simp only [ya]
      try simp only [a2]
      try simp only [a3]
      try simp only [a4]
      try simp only [a5]
      try simp only [b0]
      try simp only [b1]
      try simp only [x86]
      try simp only [x87]
      try simp only [x88]
      try simp only [s2]
      try simp only [s3]
      try simp only [s4]
      try simp only [s5]
      try simp only [m8]
      try simp only [en]
      try simp only [est]
      try simp only [e89b]
      try simp only [x90]
      conv => whnf
      refine ⟨sx_ixI (by first | assumption | rfl) (by omega) (by omega), ?_⟩
      try simp (disch := omega) only [Int.cast_ofNat_Int, up_s, up_a, up_i, mp_a, mp_ge]
      try simp only [ez]
      try simp only [ex]
      try simp only [ya0]
      try simp only [ya]
      try simp only [a2]
      try simp only [a3]
      try simp only [a4]
      try simp only [a5]
      try simp only [b0]
      try simp only [b1]
      try simp only [x86]
      try simp only [x87]
      try simp only [x88]
      try simp only [s2]
      try simp only [s3]
      try simp only [s4]
      try simp only [s5]
      try simp only [m8]
      try simp only [en]
      try simp only [est]
      try simp only [e89b]
      try simp only [x90]
      conv => whnf
      refine ⟨fun g => ?_, ?_⟩
      · skip
        have hk3 : σ 86 q = 3 := (by omega)
        conv => whnf
        refine ⟨_, ⟨rfl, _, rfl, rfl, ?_, rfl⟩⟩
        exact ⟨hk3, fun a i z1 z2 => xb a i z2, b0, b1, fun m y0 y1 => by rw [xb _ _ (by omega)]; exact g0.cs.bl m y0 y1, by omega, ((hk.2.2 hk3).1.1)⟩
      conv => whnf
      refine ⟨fun g => ?_, ?_⟩
      · skip
        have hk01 : σ 86 q = 0 := (by omega)
        have hwb := hk.2.1 (by omega)
        have est : σb (40 + 2) (σ 87 q) = W.st (σ 87 q) := (xb _ _ (by omega)).trans (hW.st _ hwb.1 hwb.2)
        have hst := hst0 _ hwb.1 hwb.2
        rw [fBk_1 (by omega)] at h hu
        conv => whnf
        refine ⟨(by first | assumption | rfl), ?_⟩
        try simp (disch := omega) only [Int.cast_ofNat_Int, up_s, up_a, up_i, mp_a, mp_ge]
        try simp only [ez]
        try simp only [ex]
        try simp only [ya0]
        try simp only [ya]
        try simp only [a2]
        try simp only [a3]
        try simp only [a4]
        try simp only [a5]
        try simp only [b0]
        try simp only [b1]
        try simp only [x86]
        try simp only [x87]
        try simp only [x88]
        try simp only [s2]
        try simp only [s3]
        try simp only [s4]
        try simp only [s5]
        try simp only [m8]
        try simp only [en]
        try simp only [est]
        try simp only [e89b]
        try simp only [x90]
        conv => whnf
        refine ⟨sx_ixI (by first | assumption | rfl) (by omega) (by omega), ?_⟩
        conv => whnf
        refine ⟨(by first | assumption | rfl), ?_⟩
        try simp (disch := omega) only [Int.cast_ofNat_Int, up_s, up_a, up_i, mp_a, mp_ge]
        try simp only [ez]
        try simp only [ex]
        try simp only [ya0]
        try simp only [ya]
        try simp only [a2]
        try simp only [a3]
        try simp only [a4]
        try simp only [a5]
        try simp only [b0]
        try simp only [b1]
        try simp only [x86]
        try simp only [x87]
        try simp only [x88]
        try simp only [s2]
        try simp only [s3]
        try simp only [s4]
        try simp only [s5]
        try simp only [m8]
        try simp only [en]
        try simp only [est]
        try simp only [e89b]
        try simp only [x90]
        conv => whnf
        refine ⟨sx_ixI (by first | assumption | rfl) (by omega) (by omega), ?_⟩
        try simp (disch := omega) only [Int.cast_ofNat_Int, up_s, up_a, up_i, mp_a, mp_ge]
        try simp only [ez]
        try simp only [ex]
        try simp only [ya0]
        try simp only [ya]
        try simp only [a2]
        try simp only [a3]
        try simp only [a4]
        try simp only [a5]
        try simp only [b0]
        try simp only [b1]
        try simp only [x86]
        try simp only [x87]
        try simp only [x88]
        try simp only [s2]
        try simp only [s3]
        try simp only [s4]
        try simp only [s5]
        try simp only [m8]
        try simp only [en]
        try simp only [est]
        try simp only [e89b]
        try simp only [x90]
        conv => whnf
        refine ⟨⟨by omega, by omega⟩, ?_⟩
        conv => whnf
        refine ⟨sx_ixI (by first | assumption | rfl) (by omega) (by omega), ?_⟩
        conv => whnf
        refine ⟨(by first | assumption | rfl), ?_⟩
        try simp (disch := omega) only [Int.cast_ofNat_Int, up_s, up_a, up_i, mp_a, mp_ge]
        try simp only [ez]
        try simp only [ex]
        try simp only [ya0]
        try simp only [ya]
        try simp only [a2]
        try simp only [a3]
        try simp only [a4]
        try simp only [a5]
        try simp only [b0]
        try simp only [b1]
        try simp only [x86]
        try simp only [x87]
        try simp only [x88]
        try simp only [s2]
        try simp only [s3]
        try simp only [s4]
        try simp only [s5]
        try simp only [m8]
        try simp only [en]
        try simp only [est]
        try simp only [e89b]
        try simp only [x90]
        conv => whnf
        refine ⟨(by first | assumption | rfl), ?_⟩
        try simp (disch := omega) only [Int.cast_ofNat_Int, up_s, up_a, up_i, mp_a, mp_ge]
        try simp only [ez]
        try simp only [ex]
        try simp only [ya0]
        try simp only [ya]
        try simp only [a2]
        try simp only [a3]
        try simp only [a4]
        try simp only [a5]
        try simp only [b0]
        try simp only [b1]
        try simp only [x86]
        try simp only [x87]
        try simp only [x88]
        try simp only [s2]
        try simp only [s3]
        try simp only [s4]
        try simp only [s5]
        try simp only [m8]
        try simp only [en]
        try simp only [est]
        try simp only [e89b]
        try simp only [x90]
        conv => whnf
        refine ⟨sx_ixI (by first | assumption | rfl) (by omega) (by omega), ?_⟩
        try simp (disch := omega) only [Int.cast_ofNat_Int, up_s, up_a, up_i, mp_a, mp_ge]
        try simp only [ez]
        try simp only [ex]
        try simp only [ya0]
        try simp only [ya]
        try simp only [a2]
        try simp only [a3]
        try simp only [a4]
        try simp only [a5]
        try simp only [b0]
        try simp only [b1]
        try simp only [x86]
        try simp only [x87]
        try simp only [x88]
        try simp only [s2]
        try simp only [s3]
        try simp only [s4]
        try simp only [s5]
        try simp only [m8]
        try simp only [en]
        try simp only [est]
        try simp only [e89b]
        try simp only [x90]
        conv => whnf
        refine ⟨fun g => ?_, fun g => ?_⟩
        · simp only [sx_cc, Classical.not_not] at g
          conv => whnf
          refine ⟨rfl, ?_⟩
          have hn0 : 0 ≤ A.n - σ 86 q := hu.2.1.1
          generalize eF : sx_up (sx_up σb (40 + 1) _ _) (40 + 2) _ _ = σf
          have Ff : fr FTB σ σf := fun a i z9 => by unfold FTB at z9; rw [← eF, up_n (by omega), up_n (by omega)]; exact xb a i (by omega)
          refine h σf Ff (g0.wu hp Ff (by show A.n - σ 86 q ≤ A.n; omega) ?_ (fun m y0 y1 => ?_)) (cW_wu hW Ff (fun w y0 y1 => ?_) (fun w y0 y1 => ?_) (fun w y0 y1 => ?_)) ?_ ?_
          · show σf (40 + 4) 0 = A.n - σ 86 q
            rw [← eF, up_a (by decide), up_a (by decide), en]; omega
          · have y2 : m < A.n - σ 86 q := y1
            rw [← eF, up_a (by decide), up_a (by decide), xb _ _ (by omega)]; exact g0.cs.bl m y0 (by omega)
          · rw [← eF, up_a (by decide)]
            show sx_up σb (40 + 1) (σ 87 q) (σ 88 q) (40 + 1) w = fU W.at1 (σ 87 q) (σ 88 q) w
            by_cases e9 : w = σ 87 q
            · rw [e9, up_s, fU_s]
            · rw [up_i e9, fU_n e9, xb _ _ (by omega)]; exact hW.at1 w y0 y1
          · rw [← eF]
            show _ = (if w = σ 87 q then W.st w - 1 else W.st w)
            by_cases e9 : w = σ 87 q
            · rw [if_pos e9, e9, up_s]
            · rw [if_neg e9, up_i e9, up_a (by decide), xb _ _ (by omega)]; exact hW.st w y0 y1
          · rw [← eF, up_a (by decide), up_a (by decide), xb _ _ (by omega)]; exact hW.bt w y0 y1
          · rw [← eF, up_a (by decide), up_a (by decide)]; exact b0
          · rw [← eF, up_a (by decide), up_a (by decide)]; exact b1
        · simp only [sx_cc, Classical.not_not] at g
          omega
      conv => whnf
      refine ⟨fun g => ?_, ?_⟩
      · skip
        have hk01 : σ 86 q = 1 := (by omega)
        have hwb := hk.2.1 (by omega)
        have est : σb (40 + 2) (σ 87 q) = W.st (σ 87 q) := (xb _ _ (by omega)).trans (hW.st _ hwb.1 hwb.2)
        have hst := hst0 _ hwb.1 hwb.2
        rw [fBk_1 (by omega)] at h hu
        conv => whnf
        refine ⟨(by first | assumption | rfl), ?_⟩
        try simp (disch := omega) only [Int.cast_ofNat_Int, up_s, up_a, up_i, mp_a, mp_ge]
        try simp only [ez]
        try simp only [ex]
        try simp only [ya0]
        try simp only [ya]
        try simp only [a2]
        try simp only [a3]
        try simp only [a4]
        try simp only [a5]
        try simp only [b0]
        try simp only [b1]
        try simp only [x86]
        try simp only [x87]
        try simp only [x88]
        try simp only [s2]
        try simp only [s3]
        try simp only [s4]
        try simp only [s5]
        try simp only [m8]
        try simp only [en]
        try simp only [est]
        try simp only [e89b]
        try simp only [x90]
        conv => whnf
        refine ⟨sx_ixI (by first | assumption | rfl) (by omega) (by omega), ?_⟩
        conv => whnf
        refine ⟨(by first | assumption | rfl), ?_⟩
        try simp (disch := omega) only [Int.cast_ofNat_Int, up_s, up_a, up_i, mp_a, mp_ge]
        try simp only [ez]
        try simp only [ex]
        try simp only [ya0]
        try simp only [ya]
        try simp only [a2]
        try simp only [a3]
        try simp only [a4]
        try simp only [a5]
        try simp only [b0]
        try simp only [b1]
        try simp only [x86]
        try simp only [x87]
        try simp only [x88]
        try simp only [s2]
        try simp only [s3]
        try simp only [s4]
        try simp only [s5]
        try simp only [m8]
        try simp only [en]
        try simp only [est]
        try simp only [e89b]
        try simp only [x90]
        conv => whnf
        refine ⟨sx_ixI (by first | assumption | rfl) (by omega) (by omega), ?_⟩
        try simp (disch := omega) only [Int.cast_ofNat_Int, up_s, up_a, up_i, mp_a, mp_ge]
        try simp only [ez]
        try simp only [ex]
        try simp only [ya0]
        try simp only [ya]
        try simp only [a2]
        try simp only [a3]
        try simp only [a4]
        try simp only [a5]
        try simp only [b0]
        try simp only [b1]
        try simp only [x86]
        try simp only [x87]
        try simp only [x88]
        try simp only [s2]
        try simp only [s3]
        try simp only [s4]
        try simp only [s5]
        try simp only [m8]
        try simp only [en]
        try simp only [est]
        try simp only [e89b]
        try simp only [x90]
        conv => whnf
        refine ⟨⟨by omega, by omega⟩, ?_⟩
        conv => whnf
        refine ⟨sx_ixI (by first | assumption | rfl) (by omega) (by omega), ?_⟩
        conv => whnf
        refine ⟨(by first | assumption | rfl), ?_⟩
        try simp (disch := omega) only [Int.cast_ofNat_Int, up_s, up_a, up_i, mp_a, mp_ge]
        try simp only [ez]
        try simp only [ex]
        try simp only [ya0]
        try simp only [ya]
        try simp only [a2]
        try simp only [a3]
        try simp only [a4]
        try simp only [a5]
        try simp only [b0]
        try simp only [b1]
        try simp only [x86]
        try simp only [x87]
        try simp only [x88]
        try simp only [s2]
        try simp only [s3]
        try simp only [s4]
        try simp only [s5]
        try simp only [m8]
        try simp only [en]
        try simp only [est]
        try simp only [e89b]
        try simp only [x90]
        conv => whnf
        refine ⟨(by first | assumption | rfl), ?_⟩
        try simp (disch := omega) only [Int.cast_ofNat_Int, up_s, up_a, up_i, mp_a, mp_ge]
        try simp only [ez]
        try simp only [ex]
        try simp only [ya0]
        try simp only [ya]
        try simp only [a2]
        try simp only [a3]
        try simp only [a4]
        try simp only [a5]
        try simp only [b0]
        try simp only [b1]
        try simp only [x86]
        try simp only [x87]
        try simp only [x88]
        try simp only [s2]
        try simp only [s3]
        try simp only [s4]
        try simp only [s5]
        try simp only [m8]
        try simp only [en]
        try simp only [est]
        try simp only [e89b]
        try simp only [x90]
        conv => whnf
        refine ⟨sx_ixI (by first | assumption | rfl) (by omega) (by omega), ?_⟩
        try simp (disch := omega) only [Int.cast_ofNat_Int, up_s, up_a, up_i, mp_a, mp_ge]
        try simp only [ez]
        try simp only [ex]
        try simp only [ya0]
        try simp only [ya]
        try simp only [a2]
        try simp only [a3]
        try simp only [a4]
        try simp only [a5]
        try simp only [b0]
        try simp only [b1]
        try simp only [x86]
        try simp only [x87]
        try simp only [x88]
        try simp only [s2]
        try simp only [s3]
        try simp only [s4]
        try simp only [s5]
        try simp only [m8]
        try simp only [en]
        try simp only [est]
        try simp only [e89b]
        try simp only [x90]
        conv => whnf
        refine ⟨fun g => ?_, fun g => ?_⟩
        · simp only [sx_cc, Classical.not_not] at g
          omega
        · simp only [sx_cc, Classical.not_not] at g
          conv => whnf
          refine ⟨(by first | assumption | rfl), ?_⟩
          try simp (disch := omega) only [Int.cast_ofNat_Int, up_s, up_a, up_i, mp_a, mp_ge]
          try simp only [ez]
          try simp only [ex]
          try simp only [ya0]
          try simp only [ya]
          try simp only [a2]
          try simp only [a3]
          try simp only [a4]
          try simp only [a5]
          try simp only [b0]
          try simp only [b1]
          try simp only [x86]
          try simp only [x87]
          try simp only [x88]
          try simp only [s2]
          try simp only [s3]
          try simp only [s4]
          try simp only [s5]
          try simp only [m8]
          try simp only [en]
          try simp only [est]
          try simp only [e89b]
          try simp only [x90]
          conv => whnf
          refine ⟨(by first | assumption | rfl), ?_⟩
          try simp (disch := omega) only [Int.cast_ofNat_Int, up_s, up_a, up_i, mp_a, mp_ge]
          try simp only [ez]
          try simp only [ex]
          try simp only [ya0]
          try simp only [ya]
          try simp only [a2]
          try simp only [a3]
          try simp only [a4]
          try simp only [a5]
          try simp only [b0]
          try simp only [b1]
          try simp only [x86]
          try simp only [x87]
          try simp only [x88]
          try simp only [s2]
          try simp only [s3]
          try simp only [s4]
          try simp only [s5]
          try simp only [m8]
          try simp only [en]
          try simp only [est]
          try simp only [e89b]
          try simp only [x90]
          conv => whnf
          refine ⟨(by first | assumption | rfl), ?_⟩
          try simp (disch := omega) only [Int.cast_ofNat_Int, up_s, up_a, up_i, mp_a, mp_ge]
          try simp only [ez]
          try simp only [ex]
          try simp only [ya0]
          try simp only [ya]
          try simp only [a2]
          try simp only [a3]
          try simp only [a4]
          try simp only [a5]
          try simp only [b0]
          try simp only [b1]
          try simp only [x86]
          try simp only [x87]
          try simp only [x88]
          try simp only [s2]
          try simp only [s3]
          try simp only [s4]
          try simp only [s5]
          try simp only [m8]
          try simp only [en]
          try simp only [est]
          try simp only [e89b]
          try simp only [x90]
          conv => whnf
          refine ⟨⟨by omega, by omega⟩, ?_⟩
          conv => whnf
          refine ⟨Nat.le_of_ble_eq_true rfl, ?_⟩
          conv => whnf
          refine ⟨(by first | assumption | rfl), ?_⟩
          try simp (disch := omega) only [Int.cast_ofNat_Int, up_s, up_a, up_i, mp_a, mp_ge]
          try simp only [ez]
          try simp only [ex]
          try simp only [ya0]
          try simp only [ya]
          try simp only [a2]
          try simp only [a3]
          try simp only [a4]
          try simp only [a5]
          try simp only [b0]
          try simp only [b1]
          try simp only [x86]
          try simp only [x87]
          try simp only [x88]
          try simp only [s2]
          try simp only [s3]
          try simp only [s4]
          try simp only [s5]
          try simp only [m8]
          try simp only [en]
          try simp only [est]
          try simp only [e89b]
          try simp only [x90]
          conv => whnf
          refine ⟨rfl, ?_⟩
          have hn0 : 0 ≤ A.n - σ 86 q := hu.2.1.1
          generalize eF : sx_up (sx_up (sx_up σb (40 + 1) _ _) (40 + 2) _ _) (40 + 4) 0 _ = σf
          have Ff : fr FTB σ σf := fun a i z9 => by unfold FTB at z9; rw [← eF, up_n (by omega), up_n (by omega), up_n (by omega)]; exact xb a i (by omega)
          refine h σf Ff (g0.wu hp Ff (by show A.n - σ 86 q ≤ A.n; omega) ?_ (fun m y0 y1 => ?_)) (cW_wu hW Ff (fun w y0 y1 => ?_) (fun w y0 y1 => ?_) (fun w y0 y1 => ?_)) ?_ ?_
          · show σf (40 + 4) 0 = A.n - σ 86 q
            rw [← eF, up_s]; first | omega | (split <;> omega)
          · have y2 : m < A.n - σ 86 q := y1
            rw [← eF, up_a (by decide), up_a (by decide), up_a (by decide), xb _ _ (by omega)]; exact g0.cs.bl m y0 (by omega)
          · rw [← eF, up_a (by decide), up_a (by decide)]
            show sx_up σb (40 + 1) (σ 87 q) (σ 88 q) (40 + 1) w = fU W.at1 (σ 87 q) (σ 88 q) w
            by_cases e9 : w = σ 87 q
            · rw [e9, up_s, fU_s]
            · rw [up_i e9, fU_n e9, xb _ _ (by omega)]; exact hW.at1 w y0 y1
          · rw [← eF, up_a (by decide)]
            show _ = (if w = σ 87 q then W.st w - 1 else W.st w)
            by_cases e9 : w = σ 87 q
            · rw [if_pos e9, e9, up_s]
            · rw [if_neg e9, up_i e9, up_a (by decide), xb _ _ (by omega)]; exact hW.st w y0 y1
          · rw [← eF, up_a (by decide), up_a (by decide), up_a (by decide), xb _ _ (by omega)]; exact hW.bt w y0 y1
          · rw [← eF, up_a (by decide), up_a (by decide), up_a (by decide)]; exact b0
          · rw [← eF, up_a (by decide), up_a (by decide), up_a (by decide)]; exact b1
      conv => whnf
      refine ⟨fun g => ?_, ?_⟩
      · skip
        have hk2 : σ 86 q = 2 := (by omega)
        have hwb := hk.2.1 (by omega)
        rw [fBk_2 hk2] at h hu
        conv => whnf
        refine ⟨(by first | assumption | rfl), ?_⟩
        try simp (disch := omega) only [Int.cast_ofNat_Int, up_s, up_a, up_i, mp_a, mp_ge]
        try simp only [ez]
        try simp only [ex]
        try simp only [ya0]
        try simp only [ya]
        try simp only [a2]
        try simp only [a3]
        try simp only [a4]
        try simp only [a5]
        try simp only [b0]
        try simp only [b1]
        try simp only [x86]
        try simp only [x87]
        try simp only [x88]
        try simp only [s2]
        try simp only [s3]
        try simp only [s4]
        try simp only [s5]
        try simp only [m8]
        try simp only [en]
        try simp only [est]
        try simp only [e89b]
        try simp only [x90]
        conv => whnf
        refine ⟨sx_ixI (by first | assumption | rfl) (by omega) (by omega), ?_⟩
        conv => whnf
        refine ⟨rfl, ?_⟩
        generalize eF : sx_up σb (40 + 3) _ _ = σf
        have Ff : fr FTB σ σf := fun a i z9 => by unfold FTB at z9; rw [← eF, up_n (by omega)]; exact xb a i (by omega)
        refine h σf Ff (g0.wu hp Ff (Int.le_refl _) ?_ (fun m y0 y1 => ?_)) (cW_wu hW Ff (fun w y0 y1 => ?_) (fun w y0 y1 => ?_) (fun w y0 y1 => ?_)) ?_ ?_
        · rw [← eF, up_a (by decide)]; exact en
        · rw [← eF, up_a (by decide), xb _ _ (by omega)]; exact g0.cs.bl m y0 y1
        · rw [← eF, up_a (by decide), xb _ _ (by omega)]; exact hW.at1 w y0 y1
        · rw [← eF, up_a (by decide), xb _ _ (by omega)]; exact hW.st w y0 y1
        · rw [← eF]
          show _ = fU W.bt (σ 87 q) (σ 88 q) w
          by_cases e9 : w = σ 87 q
          · rw [e9, up_s, fU_s]
          · rw [up_i e9, fU_n e9, xb _ _ (by omega)]; exact hW.bt w y0 y1
        · rw [← eF, up_a (by decide)]; exact b0
        · rw [← eF, up_a (by decide)]; exact b1
      exact trivial
    · simp only [sx_cc, Classical.not_not] at g
      conv => whnf
      refine ⟨(by first | assumption | rfl), ?_⟩
      try simp (disch := omega) only [Int.cast_ofNat_Int, up_s, up_a, up_i, mp_a, mp_ge]
      try simp only [ez]
      try simp only [ex]
      try simp only [ya0]
      try simp only [ya]
      try simp only [a2]
      try simp only [a3]
      try simp only [a4]
      try simp only [a5]
      try simp only [b0]
      try simp only [b1]
      try simp only [x86]
      try simp only [x87]
      try simp only [x88]
      try simp only [s2]
      try simp only [s3]
      try simp only [s4]
      try simp only [s5]
      try simp only [m8]
      try simp only [en]
      try simp only [est]
      try simp only [e89b]
      try simp only [x90]
      conv => whnf
      refine ⟨⟨by omega, by omega⟩, ?_⟩
      conv => whnf
      refine ⟨(by first | assumption | rfl), ?_⟩
      try simp (disch := omega) only [Int.cast_ofNat_Int, up_s, up_a, up_i, mp_a, mp_ge]
      try simp only [ez]
      try simp only [ex]
      try simp only [ya0]
      try simp only [ya]
      try simp only [a2]
      try simp only [a3]
      try simp only [a4]
      try simp only [a5]
      try simp only [b0]
      try simp only [b1]
      try simp only [x86]
      try simp only [x87]
      try simp only [x88]
      try simp only [s2]
      try simp only [s3]
      try simp only [s4]
      try simp only [s5]
      try simp only [m8]
      try simp only [en]
      try simp only [est]
      try simp only [e89b]
      try simp only [x90]
      generalize eA : sx_up σ 85 1 _ = σa
      have ya : σa 85 1 = q := by rw [← eA, up_s, eq]; unfold fPv; first | rw [if_pos (by omega)] | rw [if_neg (by omega)]
      have xa : ∀ a i : Int, ¬ (a = 85 ∧ i = 1) → σa a i = σ a i := fun a i z9 => by rw [← eA, up_n z9]
      have ya0 : σa 85 0 = z := (xa _ _ (by decide)).trans ez
      conv => whnf
      refine ⟨(by first | assumption | rfl), ?_⟩
      try simp (disch := omega) only [Int.cast_ofNat_Int, up_s, up_a, up_i, mp_a, mp_ge]
      try simp only [ez]
      try simp only [ex]
      try simp only [ya0]
      try simp only [ya]
      try simp only [a2]
      try simp only [a3]
      try simp only [a4]
      try simp only [a5]
      try simp only [b0]
      try simp only [b1]
      try simp only [x86]
      try simp only [x87]
      try simp only [x88]
      try simp only [s2]
      try simp only [s3]
      try simp only [s4]
      try simp only [s5]
      try simp only [m8]
      try simp only [en]
      try simp only [est]
      try simp only [e89b]
      try simp only [x90]
      conv => whnf
      refine ⟨⟨by omega, by omega⟩, ?_⟩
      conv => whnf
      refine ⟨(by first | assumption | rfl), ?_⟩
      try simp (disch := omega) only [Int.cast_ofNat_Int, up_s, up_a, up_i, mp_a, mp_ge]
      try simp only [ez]
      try simp only [ex]
      try simp only [ya0]
      try simp only [ya]
      try simp only [a2]
      try simp only [a3]
      try simp only [a4]
      try simp only [a5]
      try simp only [b0]
      try simp only [b1]
      try simp only [x86]
      try simp only [x87]
      try simp only [x88]
      try simp only [s2]
      try simp only [s3]
      try simp only [s4]
      try simp only [s5]
      try simp only [m8]
      try simp only [en]
      try simp only [est]
      try simp only [e89b]
      try simp only [x90]
      generalize eB : sx_up σa 85 0 _ = σb
      have b1 : σb 85 1 = q := by rw [← eB, up_i (by decide)]; exact ya
      have b0 : σb 85 0 = z - 1 := by rw [← eB, up_s]
      have xb : ∀ a i : Int, ¬ (a = 85 ∧ (i = 0 ∨ i = 1)) → σb a i = σ a i := fun a i z9 => by rw [← eB, up_n (by omega)]; exact xa a i (by omega)
      have Fb : fr FTB σ σb := fun a i z9 => xb a i (by unfold FTB at z9; omega)
      have Tb := Fb.pttb g0.pt
      have a2 := pt_85_2 Tb
      have a3 := pt_85_3 Tb
      have a4 := pt_85_4 Tb
      have a5 := pt_85_5 Tb
      have s2 := ptS_2 Tb hs
      have s3 := ptS_3 Tb hs
      have s4 := ptS_4 Tb hs
      have s5 := ptS_5 Tb hs
      have m8 := ptM_8 Tb hs
      have x86 : σb 86 q = σ 86 q := xb _ _ (by omega)
      have x87 : σb 87 q = σ 87 q := xb _ _ (by omega)
      have x88 : σb 88 q = σ 88 q := xb _ _ (by omega)
      have en : σb (40 + 4) 0 = A.n := (xb _ _ (by omega)).trans g0.cs.n
      conv => whnf
      refine ⟨(by first | assumption | rfl), ?_⟩
      try simp (disch := omega) only [Int.cast_ofNat_Int, up_s, up_a, up_i, mp_a, mp_ge]
      try simp only [ez]
      try simp only [ex]
      try simp only [ya0]
      try simp only [ya]
      try simp only [a2]
      try simp only [a3]
      try simp only [a4]
      try simp only [a5]
      try simp only [b0]
      try simp only [b1]
      try simp only [x86]
      try simp only [x87]
      try simp only [x88]
      try simp only [s2]
      try simp only [s3]
      try simp only [s4]
      try simp only [s5]
      try simp only [m8]
      try simp only [en]
      try simp only [est]
      try simp only [e89b]
      try simp only [x90]
      conv => whnf
      refine ⟨(by first | assumption | rfl), ?_⟩
      try simp (disch := omega) only [Int.cast_ofNat_Int, up_s, up_a, up_i, mp_a, mp_ge]
      try simp only [ez]
      try simp only [ex]
      try simp only [ya0]
      try simp only [ya]
      try simp only [a2]
      try simp only [a3]
      try simp only [a4]
      try simp only [a5]
      try simp only [b0]
      try simp only [b1]
      try simp only [x86]
      try simp only [x87]
      try simp only [x88]
      try simp only [s2]
      try simp only [s3]
      try simp only [s4]
      try simp only [s5]
      try simp only [m8]
      try simp only [en]
      try simp only [est]
      try simp only [e89b]
      try simp only [x90]
      conv => whnf
      refine ⟨sx_ixI (by first | assumption | rfl) (by omega) (by omega), ?_⟩
      try simp (disch := omega) only [Int.cast_ofNat_Int, up_s, up_a, up_i, mp_a, mp_ge]
      try simp only [ez]
      try simp only [ex]
      try simp only [ya0]
      try simp only [ya]
      try simp only [a2]
      try simp only [a3]
      try simp only [a4]
      try simp only [a5]
      try simp only [b0]
      try simp only [b1]
      try simp only [x86]
      try simp only [x87]
      try simp only [x88]
      try simp only [s2]
      try simp only [s3]
      try simp only [s4]
      try simp only [s5]
      try simp only [m8]
      try simp only [en]
      try simp only [est]
      try simp only [e89b]
      try simp only [x90]
      conv => whnf
      refine ⟨(by first | assumption | rfl), ?_⟩
      try simp (disch := omega) only [Int.cast_ofNat_Int, up_s, up_a, up_i, mp_a, mp_ge]
      try simp only [ez]
      try simp only [ex]
      try simp only [ya0]
      try simp only [ya]
      try simp only [a2]
      try simp only [a3]
      try simp only [a4]
      try simp only [a5]
      try simp only [b0]
      try simp only [b1]
      try simp only [x86]
      try simp only [x87]
      try simp only [x88]
      try simp only [s2]
      try simp only [s3]
      try simp only [s4]
      try simp only [s5]
      try simp only [m8]
      try simp only [en]
      try simp only [est]
      try simp only [e89b]
      try simp only [x90]
      conv => whnf
      refine ⟨(by first | assumption | rfl), ?_⟩
      try simp (disch := omega) only [Int.cast_ofNat_Int, up_s, up_a, up_i, mp_a, mp_ge]
      try simp only [ez]
      try simp only [ex]
      try simp only [ya0]
      try simp only [ya]
      try simp only [a2]
      try simp only [a3]
      try simp only [a4]
      try simp only [a5]
      try simp only [b0]
      try simp only [b1]
      try simp only [x86]
      try simp only [x87]
      try simp only [x88]
      try simp only [s2]
      try simp only [s3]
      try simp only [s4]
      try simp only [s5]
      try simp only [m8]
      try simp only [en]
      try simp only [est]
      try simp only [e89b]
      try simp only [x90]
      conv => whnf
      refine ⟨sx_ixI (by first | assumption | rfl) (by omega) (by omega), ?_⟩
      try simp (disch := omega) only [Int.cast_ofNat_Int, up_s, up_a, up_i, mp_a, mp_ge]
      try simp only [ez]
      try simp only [ex]
      try simp only [ya0]
      try simp only [ya]
      try simp only [a2]
      try simp only [a3]
      try simp only [a4]
      try simp only [a5]
      try simp only [b0]
      try simp only [b1]
      try simp only [x86]
      try simp only [x87]
      try simp only [x88]
      try simp only [s2]
      try simp only [s3]
      try simp only [s4]
      try simp only [s5]
      try simp only [m8]
      try simp only [en]
      try simp only [est]
      try simp only [e89b]
      try simp only [x90]
      conv => whnf
      refine ⟨(by first | assumption | rfl), ?_⟩
      try simp (disch := omega) only [Int.cast_ofNat_Int, up_s, up_a, up_i, mp_a, mp_ge]
      try simp only [ez]
      try simp only [ex]
      try simp only [ya0]
      try simp only [ya]
      try simp only [a2]
      try simp only [a3]
      try simp only [a4]
      try simp only [a5]
      try simp only [b0]
      try simp only [b1]
      try simp only [x86]
      try simp only [x87]
      try simp only [x88]
      try simp only [s2]
      try simp only [s3]
      try simp only [s4]
      try simp only [s5]
      try simp only [m8]
      try simp only [en]
      try simp only [est]
      try simp only [e89b]
      try simp only [x90]
      conv => whnf
      refine ⟨(by first | assumption | rfl), ?_⟩
      try simp (disch := omega) only [Int.cast_ofNat_Int, up_s, up_a, up_i, mp_a, mp_ge]
      try simp only [ez]
      try simp only [ex]
      try simp only [ya0]
      try simp only [ya]
      try simp only [a2]
      try simp only [a3]
      try simp only [a4]
      try simp only [a5]
      try simp only [b0]
      try simp only [b1]
      try simp only [x86]
      try simp only [x87]
      try simp only [x88]
      try simp only [s2]
      try simp only [s3]
      try simp only [s4]
      try simp only [s5]
      try simp only [m8]
      try simp only [en]
      try simp only [est]
      try simp only [e89b]
      try simp only [x90]
      conv => whnf
      refine ⟨sx_ixI (by first | assumption | rfl) (by omega) (by omega), ?_⟩
      try simp (disch := omega) only [Int.cast_ofNat_Int, up_s, up_a, up_i, mp_a, mp_ge]
      try simp only [ez]
      try simp only [ex]
      try simp only [ya0]
      try simp only [ya]
      try simp only [a2]
      try simp only [a3]
      try simp only [a4]
      try simp only [a5]
      try simp only [b0]
      try simp only [b1]
      try simp only [x86]
      try simp only [x87]
      try simp only [x88]
      try simp only [s2]
      try simp only [s3]
      try simp only [s4]
      try simp only [s5]
      try simp only [m8]
      try simp only [en]
      try simp only [est]
      try simp only [e89b]
      try simp only [x90]
      conv => whnf
      refine ⟨fun g => ?_, ?_⟩
      · skip
        have hk3 : σ 86 q = 3 := (by omega)
        conv => whnf
        refine ⟨_, ⟨rfl, _, rfl, rfl, ?_, rfl⟩⟩
        exact ⟨hk3, fun a i z1 z2 => xb a i z2, b0, b1, fun m y0 y1 => by rw [xb _ _ (by omega)]; exact g0.cs.bl m y0 y1, by omega, ((hk.2.2 hk3).1.1)⟩
      conv => whnf
      refine ⟨fun g => ?_, ?_⟩
      · skip
        have hk01 : σ 86 q = 0 := (by omega)
        have hwb := hk.2.1 (by omega)
        have est : σb (40 + 2) (σ 87 q) = W.st (σ 87 q) := (xb _ _ (by omega)).trans (hW.st _ hwb.1 hwb.2)
        have hst := hst0 _ hwb.1 hwb.2
        rw [fBk_1 (by omega)] at h hu
        conv => whnf
        refine ⟨(by first | assumption | rfl), ?_⟩
        try simp (disch := omega) only [Int.cast_ofNat_Int, up_s, up_a, up_i, mp_a, mp_ge]
        try simp only [ez]
        try simp only [ex]
        try simp only [ya0]
        try simp only [ya]
        try simp only [a2]
        try simp only [a3]
        try simp only [a4]
        try simp only [a5]
        try simp only [b0]
        try simp only [b1]
        try simp only [x86]
        try simp only [x87]
        try simp only [x88]
        try simp only [s2]
        try simp only [s3]
        try simp only [s4]
        try simp only [s5]
        try simp only [m8]
        try simp only [en]
        try simp only [est]
        try simp only [e89b]
        try simp only [x90]
        conv => whnf
        refine ⟨sx_ixI (by first | assumption | rfl) (by omega) (by omega), ?_⟩
        conv => whnf
        refine ⟨(by first | assumption | rfl), ?_⟩
        try simp (disch := omega) only [Int.cast_ofNat_Int, up_s, up_a, up_i, mp_a, mp_ge]
        try simp only [ez]
        try simp only [ex]
        try simp only [ya0]
        try simp only [ya]
        try simp only [a2]
        try simp only [a3]
        try simp only [a4]
        try simp only [a5]
        try simp only [b0]
        try simp only [b1]
        try simp only [x86]
        try simp only [x87]
        try simp only [x88]
        try simp only [s2]
        try simp only [s3]
        try simp only [s4]
        try simp only [s5]
        try simp only [m8]
        try simp only [en]
        try simp only [est]
        try simp only [e89b]
        try simp only [x90]
        conv => whnf
        refine ⟨sx_ixI (by first | assumption | rfl) (by omega) (by omega), ?_⟩
        try simp (disch := omega) only [Int.cast_ofNat_Int, up_s, up_a, up_i, mp_a, mp_ge]
        try simp only [ez]
        try simp only [ex]
        try simp only [ya0]
        try simp only [ya]
        try simp only [a2]
        try simp only [a3]
        try simp only [a4]
        try simp only [a5]
        try simp only [b0]
        try simp only [b1]
        try simp only [x86]
        try simp only [x87]
        try simp only [x88]
        try simp only [s2]
        try simp only [s3]
        try simp only [s4]
        try simp only [s5]
        try simp only [m8]
        try simp only [en]
        try simp only [est]
        try simp only [e89b]
        try simp only [x90]
        conv => whnf
        refine ⟨⟨by omega, by omega⟩, ?_⟩
        conv => whnf
        refine ⟨sx_ixI (by first | assumption | rfl) (by omega) (by omega), ?_⟩
        conv => whnf
        refine ⟨(by first | assumption | rfl), ?_⟩
        try simp (disch := omega) only [Int.cast_ofNat_Int, up_s, up_a, up_i, mp_a, mp_ge]
        try simp only [ez]
        try simp only [ex]
        try simp only [ya0]
        try simp only [ya]
        try simp only [a2]
        try simp only [a3]
        try simp only [a4]
        try simp only [a5]
        try simp only [b0]
        try simp only [b1]
        try simp only [x86]
        try simp only [x87]
        try simp only [x88]
        try simp only [s2]
        try simp only [s3]
        try simp only [s4]
        try simp only [s5]
        try simp only [m8]
        try simp only [en]
        try simp only [est]
        try simp only [e89b]
        try simp only [x90]
        conv => whnf
        refine ⟨(by first | assumption | rfl), ?_⟩
        try simp (disch := omega) only [Int.cast_ofNat_Int, up_s, up_a, up_i, mp_a, mp_ge]
        try simp only [ez]
        try simp only [ex]
        try simp only [ya0]
        try simp only [ya]
        try simp only [a2]
        try simp only [a3]
        try simp only [a4]
        try simp only [a5]
        try simp only [b0]
        try simp only [b1]
        try simp only [x86]
        try simp only [x87]
        try simp only [x88]
        try simp only [s2]
        try simp only [s3]
        try simp only [s4]
        try simp only [s5]
        try simp only [m8]
        try simp only [en]
        try simp only [est]
        try simp only [e89b]
        try simp only [x90]
        conv => whnf
        refine ⟨sx_ixI (by first | assumption | rfl) (by omega) (by omega), ?_⟩
        try simp (disch := omega) only [Int.cast_ofNat_Int, up_s, up_a, up_i, mp_a, mp_ge]
        try simp only [ez]
        try simp only [ex]
        try simp only [ya0]
        try simp only [ya]
        try simp only [a2]
        try simp only [a3]
        try simp only [a4]
        try simp only [a5]
        try simp only [b0]
        try simp only [b1]
        try simp only [x86]
        try simp only [x87]
        try simp only [x88]
        try simp only [s2]
        try simp only [s3]
        try simp only [s4]
        try simp only [s5]
        try simp only [m8]
        try simp only [en]
        try simp only [est]
        try simp only [e89b]
        try simp only [x90]
        conv => whnf
        refine ⟨fun g => ?_, fun g => ?_⟩
        · simp only [sx_cc, Classical.not_not] at g
          conv => whnf
          refine ⟨rfl, ?_⟩
          have hn0 : 0 ≤ A.n - σ 86 q := hu.2.1.1
          generalize eF : sx_up (sx_up σb (40 + 1) _ _) (40 + 2) _ _ = σf
          have Ff : fr FTB σ σf := fun a i z9 => by unfold FTB at z9; rw [← eF, up_n (by omega), up_n (by omega)]; exact xb a i (by omega)
          refine h σf Ff (g0.wu hp Ff (by show A.n - σ 86 q ≤ A.n; omega) ?_ (fun m y0 y1 => ?_)) (cW_wu hW Ff (fun w y0 y1 => ?_) (fun w y0 y1 => ?_) (fun w y0 y1 => ?_)) ?_ ?_
          · show σf (40 + 4) 0 = A.n - σ 86 q
            rw [← eF, up_a (by decide), up_a (by decide), en]; omega
          · have y2 : m < A.n - σ 86 q := y1
            rw [← eF, up_a (by decide), up_a (by decide), xb _ _ (by omega)]; exact g0.cs.bl m y0 (by omega)
          · rw [← eF, up_a (by decide)]
            show sx_up σb (40 + 1) (σ 87 q) (σ 88 q) (40 + 1) w = fU W.at1 (σ 87 q) (σ 88 q) w
            by_cases e9 : w = σ 87 q
            · rw [e9, up_s, fU_s]
            · rw [up_i e9, fU_n e9, xb _ _ (by omega)]; exact hW.at1 w y0 y1
          · rw [← eF]
            show _ = (if w = σ 87 q then W.st w - 1 else W.st w)
            by_cases e9 : w = σ 87 q
            · rw [if_pos e9, e9, up_s]
            · rw [if_neg e9, up_i e9, up_a (by decide), xb _ _ (by omega)]; exact hW.st w y0 y1
          · rw [← eF, up_a (by decide), up_a (by decide), xb _ _ (by omega)]; exact hW.bt w y0 y1
          · rw [← eF, up_a (by decide), up_a (by decide)]; exact b0
          · rw [← eF, up_a (by decide), up_a (by decide)]; exact b1
        · simp only [sx_cc, Classical.not_not] at g
          omega
      conv => whnf
      refine ⟨fun g => ?_, ?_⟩
      · skip
        have hk01 : σ 86 q = 1 := (by omega)
        have hwb := hk.2.1 (by omega)
        have est : σb (40 + 2) (σ 87 q) = W.st (σ 87 q) := (xb _ _ (by omega)).trans (hW.st _ hwb.1 hwb.2)
        have hst := hst0 _ hwb.1 hwb.2
        rw [fBk_1 (by omega)] at h hu
        conv => whnf
        refine ⟨(by first | assumption | rfl), ?_⟩
        try simp (disch := omega) only [Int.cast_ofNat_Int, up_s, up_a, up_i, mp_a, mp_ge]
        try simp only [ez]
        try simp only [ex]
        try simp only [ya0]
        try simp only [ya]
        try simp only [a2]
        try simp only [a3]
        try simp only [a4]
        try simp only [a5]
        try simp only [b0]
        try simp only [b1]
        try simp only [x86]
        try simp only [x87]
        try simp only [x88]
        try simp only [s2]
        try simp only [s3]
        try simp only [s4]
        try simp only [s5]
        try simp only [m8]
        try simp only [en]
        try simp only [est]
        try simp only [e89b]
        try simp only [x90]
        conv => whnf
        refine ⟨sx_ixI (by first | assumption | rfl) (by omega) (by omega), ?_⟩
        conv => whnf
        refine ⟨(by first | assumption | rfl), ?_⟩
        try simp (disch := omega) only [Int.cast_ofNat_Int, up_s, up_a, up_i, mp_a, mp_ge]
        try simp only [ez]
        try simp only [ex]
        try simp only [ya0]
        try simp only [ya]
        try simp only [a2]
        try simp only [a3]
        try simp only [a4]
        try simp only [a5]
        try simp only [b0]
        try simp only [b1]
        try simp only [x86]
        try simp only [x87]
        try simp only [x88]
        try simp only [s2]
        try simp only [s3]
        try simp only [s4]
        try simp only [s5]
        try simp only [m8]
        try simp only [en]
        try simp only [est]
        try simp only [e89b]
        try simp only [x90]
        conv => whnf
        refine ⟨sx_ixI (by first | assumption | rfl) (by omega) (by omega), ?_⟩
        try simp (disch := omega) only [Int.cast_ofNat_Int, up_s, up_a, up_i, mp_a, mp_ge]
        try simp only [ez]
        try simp only [ex]
        try simp only [ya0]
        try simp only [ya]
        try simp only [a2]
        try simp only [a3]
        try simp only [a4]
        try simp only [a5]
        try simp only [b0]
        try simp only [b1]
        try simp only [x86]
        try simp only [x87]
        try simp only [x88]
        try simp only [s2]
        try simp only [s3]
        try simp only [s4]
        try simp only [s5]
        try simp only [m8]
        try simp only [en]
        try simp only [est]
        try simp only [e89b]
        try simp only [x90]
        conv => whnf
        refine ⟨⟨by omega, by omega⟩, ?_⟩
        conv => whnf
        refine ⟨sx_ixI (by first | assumption | rfl) (by omega) (by omega), ?_⟩
        conv => whnf
        refine ⟨(by first | assumption | rfl), ?_⟩
        try simp (disch := omega) only [Int.cast_ofNat_Int, up_s, up_a, up_i, mp_a, mp_ge]
        try simp only [ez]
        try simp only [ex]
        try simp only [ya0]
        try simp only [ya]
        try simp only [a2]
        try simp only [a3]
        try simp only [a4]
        try simp only [a5]
        try simp only [b0]
        try simp only [b1]
        try simp only [x86]
        try simp only [x87]
        try simp only [x88]
        try simp only [s2]
        try simp only [s3]
        try simp only [s4]
        try simp only [s5]
        try simp only [m8]
        try simp only [en]
        try simp only [est]
        try simp only [e89b]
        try simp only [x90]
        conv => whnf
        refine ⟨(by first | assumption | rfl), ?_⟩
        try simp (disch := omega) only [Int.cast_ofNat_Int, up_s, up_a, up_i, mp_a, mp_ge]
        try simp only [ez]
        try simp only [ex]
        try simp only [ya0]
        try simp only [ya]
        try simp only [a2]
        try simp only [a3]
        try simp only [a4]
        try simp only [a5]
        try simp only [b0]
        try simp only [b1]
        try simp only [x86]
        try simp only [x87]
        try simp only [x88]
        try simp only [s2]
        try simp only [s3]
        try simp only [s4]
        try simp only [s5]
        try simp only [m8]
        try simp only [en]
        try simp only [est]
        try simp only [e89b]
        try simp only [x90]
        conv => whnf
        refine ⟨sx_ixI (by first | assumption | rfl) (by omega) (by omega), ?_⟩
        try simp (disch := omega) only [Int.cast_ofNat_Int, up_s, up_a, up_i, mp_a, mp_ge]
        try simp only [ez]
        try simp only [ex]
        try simp only [ya0]
        try simp only [ya]
        try simp only [a2]
        try simp only [a3]
        try simp only [a4]
        try simp only [a5]
        try simp only [b0]
        try simp only [b1]
        try simp only [x86]
        try simp only [x87]
        try simp only [x88]
        try simp only [s2]
        try simp only [s3]
        try simp only [s4]
        try simp only [s5]
        try simp only [m8]
        try simp only [en]
        try simp only [est]
        try simp only [e89b]
        try simp only [x90]
        conv => whnf
        refine ⟨fun g => ?_, fun g => ?_⟩
        · simp only [sx_cc, Classical.not_not] at g
          omega
        · simp only [sx_cc, Classical.not_not] at g
          conv => whnf
          refine ⟨(by first | assumption | rfl), ?_⟩
          try simp (disch := omega) only [Int.cast_ofNat_Int, up_s, up_a, up_i, mp_a, mp_ge]
          try simp only [ez]
          try simp only [ex]
          try simp only [ya0]
          try simp only [ya]
          try simp only [a2]
          try simp only [a3]
          try simp only [a4]
          try simp only [a5]
          try simp only [b0]
          try simp only [b1]
          try simp only [x86]
          try simp only [x87]
          try simp only [x88]
          try simp only [s2]
          try simp only [s3]
          try simp only [s4]
          try simp only [s5]
          try simp only [m8]
          try simp only [en]
          try simp only [est]
          try simp only [e89b]
          try simp only [x90]
          conv => whnf
          refine ⟨(by first | assumption | rfl), ?_⟩
          try simp (disch := omega) only [Int.cast_ofNat_Int, up_s, up_a, up_i, mp_a, mp_ge]
          try simp only [ez]
          try simp only [ex]
          try simp only [ya0]
          try simp only [ya]
          try simp only [a2]
          try simp only [a3]
          try simp only [a4]
          try simp only [a5]
          try simp only [b0]
          try simp only [b1]
          try simp only [x86]
          try simp only [x87]
          try simp only [x88]
          try simp only [s2]
          try simp only [s3]
          try simp only [s4]
          try simp only [s5]
          try simp only [m8]
          try simp only [en]
          try simp only [est]
          try simp only [e89b]
          try simp only [x90]
          conv => whnf
          refine ⟨(by first | assumption | rfl), ?_⟩
          try simp (disch := omega) only [Int.cast_ofNat_Int, up_s, up_a, up_i, mp_a, mp_ge]
          try simp only [ez]
          try simp only [ex]
          try simp only [ya0]
          try simp only [ya]
          try simp only [a2]
          try simp only [a3]
          try simp only [a4]
          try simp only [a5]
          try simp only [b0]
          try simp only [b1]
          try simp only [x86]
          try simp only [x87]
          try simp only [x88]
          try simp only [s2]
          try simp only [s3]
          try simp only [s4]
          try simp only [s5]
          try simp only [m8]
          try simp only [en]
          try simp only [est]
          try simp only [e89b]
          try simp only [x90]
          conv => whnf
          refine ⟨⟨by omega, by omega⟩, ?_⟩
          conv => whnf
          refine ⟨Nat.le_of_ble_eq_true rfl, ?_⟩
          conv => whnf
          refine ⟨(by first | assumption | rfl), ?_⟩
          try simp (disch := omega) only [Int.cast_ofNat_Int, up_s, up_a, up_i, mp_a, mp_ge]
          try simp only [ez]
          try simp only [ex]
          try simp only [ya0]
          try simp only [ya]
          try simp only [a2]
          try simp only [a3]
          try simp only [a4]
          try simp only [a5]
          try simp only [b0]
          try simp only [b1]
          try simp only [x86]
          try simp only [x87]
          try simp only [x88]
          try simp only [s2]
          try simp only [s3]
          try simp only [s4]
          try simp only [s5]
          try simp only [m8]
          try simp only [en]
          try simp only [est]
          try simp only [e89b]
          try simp only [x90]
          conv => whnf
          refine ⟨rfl, ?_⟩
          have hn0 : 0 ≤ A.n - σ 86 q := hu.2.1.1
          generalize eF : sx_up (sx_up (sx_up σb (40 + 1) _ _) (40 + 2) _ _) (40 + 4) 0 _ = σf
          have Ff : fr FTB σ σf := fun a i z9 => by unfold FTB at z9; rw [← eF, up_n (by omega), up_n (by omega), up_n (by omega)]; exact xb a i (by omega)
          refine h σf Ff (g0.wu hp Ff (by show A.n - σ 86 q ≤ A.n; omega) ?_ (fun m y0 y1 => ?_)) (cW_wu hW Ff (fun w y0 y1 => ?_) (fun w y0 y1 => ?_) (fun w y0 y1 => ?_)) ?_ ?_
          · show σf (40 + 4) 0 = A.n - σ 86 q
            rw [← eF, up_s]; first | omega | (split <;> omega)
          · have y2 : m < A.n - σ 86 q := y1
            rw [← eF, up_a (by decide), up_a (by decide), up_a (by decide), xb _ _ (by omega)]; exact g0.cs.bl m y0 (by omega)
          · rw [← eF, up_a (by decide), up_a (by decide)]
            show sx_up σb (40 + 1) (σ 87 q) (σ 88 q) (40 + 1) w = fU W.at1 (σ 87 q) (σ 88 q) w
            by_cases e9 : w = σ 87 q
            · rw [e9, up_s, fU_s]
            · rw [up_i e9, fU_n e9, xb _ _ (by omega)]; exact hW.at1 w y0 y1
          · rw [← eF, up_a (by decide)]
            show _ = (if w = σ 87 q then W.st w - 1 else W.st w)
            by_cases e9 : w = σ 87 q
            · rw [if_pos e9, e9, up_s]
            · rw [if_neg e9, up_i e9, up_a (by decide), xb _ _ (by omega)]; exact hW.st w y0 y1
          · rw [← eF, up_a (by decide), up_a (by decide), up_a (by decide), xb _ _ (by omega)]; exact hW.bt w y0 y1
          · rw [← eF, up_a (by decide), up_a (by decide), up_a (by decide)]; exact b0
          · rw [← eF, up_a (by decide), up_a (by decide), up_a (by decide)]; exact b1
      conv => whnf
      refine ⟨fun g => ?_, ?_⟩
      · skip
        have hk2 : σ 86 q = 2 := (by omega)
        have hwb := hk.2.1 (by omega)
        rw [fBk_2 hk2] at h hu
        conv => whnf
        refine ⟨(by first | assumption | rfl), ?_⟩
        try simp (disch := omega) only [Int.cast_ofNat_Int, up_s, up_a, up_i, mp_a, mp_ge]
        try simp only [ez]
        try simp only [ex]
        try simp only [ya0]
        try simp only [ya]
        try simp only [a2]
        try simp only [a3]
        try simp only [a4]
        try simp only [a5]
        try simp only [b0]
        try simp only [b1]
        try simp only [x86]
        try simp only [x87]
        try simp only [x88]
        try simp only [s2]
        try simp only [s3]
        try simp only [s4]
        try simp only [s5]
        try simp only [m8]
        try simp only [en]
        try simp only [est]
        try simp only [e89b]
        try simp only [x90]
        conv => whnf
        refine ⟨sx_ixI (by first | assumption | rfl) (by omega) (by omega), ?_⟩
        conv => whnf
        refine ⟨rfl, ?_⟩
        generalize eF : sx_up σb (40 + 3) _ _ = σf
        have Ff : fr FTB σ σf := fun a i z9 => by unfold FTB at z9; rw [← eF, up_n (by omega)]; exact xb a i (by omega)
        refine h σf Ff (g0.wu hp Ff (Int.le_refl _) ?_ (fun m y0 y1 => ?_)) (cW_wu hW Ff (fun w y0 y1 => ?_) (fun w y0 y1 => ?_) (fun w y0 y1 => ?_)) ?_ ?_
        · rw [← eF, up_a (by decide)]; exact en
        · rw [← eF, up_a (by decide), xb _ _ (by omega)]; exact g0.cs.bl m y0 y1
        · rw [← eF, up_a (by decide), xb _ _ (by omega)]; exact hW.at1 w y0 y1
        · rw [← eF, up_a (by decide), xb _ _ (by omega)]; exact hW.st w y0 y1
        · rw [← eF]
          show _ = fU W.bt (σ 87 q) (σ 88 q) w
          by_cases e9 : w = σ 87 q
          · rw [e9, up_s, fU_s]
          · rw [up_i e9, fU_n e9, xb _ _ (by omega)]; exact hW.bt w y0 y1
        · rw [← eF, up_a (by decide)]; exact b0
        · rw [← eF, up_a (by decide)]; exact b1
      exact trivial
  · intro n t L st σ' hk
    obtain ⟨rfl, i, rfl, rfl, hc, rfl⟩ := hk
    obtain ⟨hk3, xc, b0, b1, hbl, hi0, hi1⟩ := hc
    have h88 := (hk.2.2 hk3).1
    have hrow := (hk.2.2 hk3).2
    have Fc : fr FTB σ σ' := fun a i z9 => xc a i (by unfold FTB at z9; omega) (by unfold FTB at z9; omega)
    have Tc := Fc.pttb g0.pt
    have s5 := ptS_5 Tc hs
    have m8 := ptM_8 Tc hs
    have a5 := pt_85_5 Tc
    have e89b : σ' 89 q = 90 + q := pt89 Tc hq
    have x90 : σ' (90 + q) i = σ (90 + q) i := xc _ _ (by omega) (by omega)
    conv => whnf
    refine ⟨fun g => ?_, fun g => ?_⟩
    · simp only [sx_cc, Classical.not_not] at g
      conv => whnf
      refine ⟨rfl, ?_⟩
      have ei : i = σ 88 q := by omega
      rw [fBk_3 hk3] at h
      refine h _ Fc (g0.wu hp Fc (Int.le_refl _) ((xc _ _ (by decide) (by decide)).trans g0.cs.n) (fun m y0 y1 => by rw [ei] at hbl; exact hbl m y0 y1)) (cW_wu hW Fc (fun w y0 y1 => (xc _ _ (by omega) (by omega)).trans (hW.at1 w y0 y1)) (fun w y0 y1 => (xc _ _ (by omega) (by omega)).trans (hW.st w y0 y1)) (fun w y0 y1 => (xc _ _ (by omega) (by omega)).trans (hW.bt w y0 y1))) b0 b1
    · simp only [sx_cc, Classical.not_not] at g
      have hr9 := hrow i hi0 (by omega)
      conv => whnf
      refine ⟨fun g => ?_, fun g => ?_⟩
      · simp only [sx_cc, Classical.not_not] at g
        omega
      · simp only [sx_cc, Classical.not_not] at g
        conv => whnf
        refine ⟨(by first | assumption | rfl), ?_⟩
        try simp (disch := omega) only [Int.cast_ofNat_Int, up_s, up_a, up_i, mp_a, mp_ge]
        try simp only [ez]
        try simp only [ex]
        try simp only [ya0]
        try simp only [ya]
        try simp only [a2]
        try simp only [a3]
        try simp only [a4]
        try simp only [a5]
        try simp only [b0]
        try simp only [b1]
        try simp only [x86]
        try simp only [x87]
        try simp only [x88]
        try simp only [s2]
        try simp only [s3]
        try simp only [s4]
        try simp only [s5]
        try simp only [m8]
        try simp only [en]
        try simp only [est]
        try simp only [e89b]
        try simp only [x90]
        conv => whnf
        refine ⟨(by first | assumption | rfl), ?_⟩
        try simp (disch := omega) only [Int.cast_ofNat_Int, up_s, up_a, up_i, mp_a, mp_ge]
        try simp only [ez]
        try simp only [ex]
        try simp only [ya0]
        try simp only [ya]
        try simp only [a2]
        try simp only [a3]
        try simp only [a4]
        try simp only [a5]
        try simp only [b0]
        try simp only [b1]
        try simp only [x86]
        try simp only [x87]
        try simp only [x88]
        try simp only [s2]
        try simp only [s3]
        try simp only [s4]
        try simp only [s5]
        try simp only [m8]
        try simp only [en]
        try simp only [est]
        try simp only [e89b]
        try simp only [x90]
        conv => whnf
        refine ⟨(by first | assumption | rfl), ?_⟩
        try simp (disch := omega) only [Int.cast_ofNat_Int, up_s, up_a, up_i, mp_a, mp_ge]
        try simp only [ez]
        try simp only [ex]
        try simp only [ya0]
        try simp only [ya]
        try simp only [a2]
        try simp only [a3]
        try simp only [a4]
        try simp only [a5]
        try simp only [b0]
        try simp only [b1]
        try simp only [x86]
        try simp only [x87]
        try simp only [x88]
        try simp only [s2]
        try simp only [s3]
        try simp only [s4]
        try simp only [s5]
        try simp only [m8]
        try simp only [en]
        try simp only [est]
        try simp only [e89b]
        try simp only [x90]
        conv => whnf
        refine ⟨(by first | assumption | rfl), ?_⟩
        try simp (disch := omega) only [Int.cast_ofNat_Int, up_s, up_a, up_i, mp_a, mp_ge]
        try simp only [ez]
        try simp only [ex]
        try simp only [ya0]
        try simp only [ya]
        try simp only [a2]
        try simp only [a3]
        try simp only [a4]
        try simp only [a5]
        try simp only [b0]
        try simp only [b1]
        try simp only [x86]
        try simp only [x87]
        try simp only [x88]
        try simp only [s2]
        try simp only [s3]
        try simp only [s4]
        try simp only [s5]
        try simp only [m8]
        try simp only [en]
        try simp only [est]
        try simp only [e89b]
        try simp only [x90]
        conv => whnf
        refine ⟨sx_ixI (by first | assumption | rfl) (by omega) (by omega), ?_⟩
        try simp (disch := omega) only [Int.cast_ofNat_Int, up_s, up_a, up_i, mp_a, mp_ge]
        try simp only [ez]
        try simp only [ex]
        try simp only [ya0]
        try simp only [ya]
        try simp only [a2]
        try simp only [a3]
        try simp only [a4]
        try simp only [a5]
        try simp only [b0]
        try simp only [b1]
        try simp only [x86]
        try simp only [x87]
        try simp only [x88]
        try simp only [s2]
        try simp only [s3]
        try simp only [s4]
        try simp only [s5]
        try simp only [m8]
        try simp only [en]
        try simp only [est]
        try simp only [e89b]
        try simp only [x90]
        conv => whnf
        refine ⟨sx_ixI (by first | assumption | rfl) (by omega) (by omega), ?_⟩
        try simp (disch := omega) only [Int.cast_ofNat_Int, up_s, up_a, up_i, mp_a, mp_ge]
        try simp only [ez]
        try simp only [ex]
        try simp only [ya0]
        try simp only [ya]
        try simp only [a2]
        try simp only [a3]
        try simp only [a4]
        try simp only [a5]
        try simp only [b0]
        try simp only [b1]
        try simp only [x86]
        try simp only [x87]
        try simp only [x88]
        try simp only [s2]
        try simp only [s3]
        try simp only [s4]
        try simp only [s5]
        try simp only [m8]
        try simp only [en]
        try simp only [est]
        try simp only [e89b]
        try simp only [x90]
        conv => whnf
        refine ⟨sx_ixI (by first | assumption | rfl) (by omega) (by omega), ?_⟩
        conv => whnf
        refine ⟨⟨by omega, by omega⟩, ?_⟩
        conv => whnf
        refine ⟨_, ?_, ⟨rfl, _, rfl, rfl, ?_, rfl⟩⟩
        · omega
        · refine ⟨hk3, fun a j z1 z2 => by rw [up_a (by omega)]; exact xc a j z1 z2, by rw [up_a (by decide)]; exact b0, by rw [up_a (by decide)]; exact b1, fun m y0 y1 => ?_, by omega, by omega⟩
          rw [fFx_t hi0]
          by_cases e9 : m = σ (90 + q) i
          · rw [if_pos e9, e9, up_s]
          · rw [if_neg e9, up_i e9]; exact hbl m y0 y1
set_option maxRecDepth 20000 in
theorem c_undo (hp : isP p) (wp : wP P) (wm : wM P A c) (g0 : GC 40 p P A σ) (hW : cW P 40 σ W) {z nx : Int} (ez : σ 85 0 = z) (ex : σ 85 1 = nx) (hz : 0 ≤ z ∧ z ≤ 20) (hx : 0 ≤ nx ∧ nx < 20) (hst0 : ∀ w : Int, 0 ≤ w → w < P.wa → 0 ≤ W.st w ∧ W.st w ≤ 1000000) (hk : 1 ≤ z → pOk P σ (fPv nx)) (hu : 1 ≤ z → wU P (fBk σ (fPv nx) (uOf A W)) K) (h0 : z = 0 → Q (some (.inl (-1))) shM σ) (h : 1 ≤ z → ∀ σ', fr FTB σ σ' → GC 40 p P (wuA A (fBk σ (fPv nx) (uOf A W))) σ' → cW P 40 σ' (wuW W (fBk σ (fPv nx) (uOf A W))) → σ' 85 0 = z - 1 → σ' 85 1 = fPv nx → Q (some (.inl (z - 1))) shM σ') : sx_Run X 167 [.inr (.inr 0)] shM σ Q := by
  have a6 := pt_0_6 g0.pt
  have a10 := pt_0_10 g0.pt
  refine sx_rule0 (own := 11) (cd := kX11_undo) (nL := 1) (by decide +kernel) (by decide +kernel) kX11_undo_ok (by decide +kernel) (Nat.le_of_ble_eq_true rfl) 40 ?_
  conv => whnf
  refine ⟨(by first | assumption | rfl), ?_⟩
  try simp (disch := omega) only [Int.cast_ofNat_Int, up_s, up_a, up_i, mp_a, mp_ge]
  try simp only [a6]
  try simp only [a10]
  try simp only [ez]
  try simp only [b0]
  conv => whnf
  refine ⟨(by first | assumption | rfl), ?_⟩
  try simp (disch := omega) only [Int.cast_ofNat_Int, up_s, up_a, up_i, mp_a, mp_ge]
  try simp only [a6]
  try simp only [a10]
  try simp only [ez]
  try simp only [b0]
  conv => whnf
  refine ⟨fun g => ?_, fun g => ?_⟩
  · simp only [sx_cc, Classical.not_not] at g
    conv => whnf
    refine ⟨(by first | assumption | rfl), ?_⟩
    try simp (disch := omega) only [Int.cast_ofNat_Int, up_s, up_a, up_i, mp_a, mp_ge]
    try simp only [a6]
    try simp only [a10]
    try simp only [ez]
    try simp only [b0]
    conv => whnf
    refine ⟨(by first | assumption | rfl), ?_⟩
    try simp (disch := omega) only [Int.cast_ofNat_Int, up_s, up_a, up_i, mp_a, mp_ge]
    try simp only [a6]
    try simp only [a10]
    try simp only [ez]
    try simp only [b0]
    conv => whnf
    refine ⟨Nat.le_of_ble_eq_true rfl, Nat.le_of_ble_eq_true rfl, (by first | assumption | rfl), ?_⟩
    refine c_Ltake hp wp wm g0 hW ez ex ⟨by omega, hz.2⟩ hx hst0 (hk (by omega)) (hu (by omega)) ?_
    intro σ2 hf2 g2 w2 b0 b1
    have a10 := pt_0_10 g2.pt
    conv => whnf
    refine ⟨(by first | assumption | rfl), ?_⟩
    try simp (disch := omega) only [Int.cast_ofNat_Int, up_s, up_a, up_i, mp_a, mp_ge]
    try simp only [a6]
    try simp only [a10]
    try simp only [ez]
    try simp only [b0]
    conv => whnf
    refine ⟨(by first | assumption | rfl), ?_⟩
    try simp (disch := omega) only [Int.cast_ofNat_Int, up_s, up_a, up_i, mp_a, mp_ge]
    try simp only [a6]
    try simp only [a10]
    try simp only [ez]
    try simp only [b0]
    conv => whnf
    refine ⟨fun q9 => by first | (simp at q9; done) | omega, ?_⟩
    exact h (by omega) _ hf2 g2 w2 b0 b1
  · simp only [sx_cc, Classical.not_not] at g
    conv => whnf
    refine ⟨fun q9 => by first | (simp at q9; done) | omega, ?_⟩
    exact h0 (by omega)
abbrev FUR (a i : Int) : Prop := (157 ≤ a ∧ a ≤ 159) ∨ (a = 154 ∧ i = 0) ∨ (a = 153 ∧ 0 ≤ i ∧ i < 90) ∨ (a = 124 ∧ i = 83)
theorem FUR_pts : ptL.all (fun q => decide (¬ FUR q.1 q.2.1)) = true := by decide +kernel
theorem fr.ptur {σ σ' : sx_S} (h : fr FUR σ σ') (hT : PT σ) : PT σ' := hT.fr (fun q hq => h _ _ (of_decide_eq_true (List.all_eq_true.mp FUR_pts q hq)))
set_option maxRecDepth 20000 in
theorem r_undo (e0 : σ0 = sx_up σ 124 2 0) (wp : wP P) (wm : wM P A c) (g0 : GR 0 P A σ0) (hW : rW P σ0 W) {z : Int} (ez : σ0 124 83 = z) (hz : 0 ≤ z ∧ z ≤ 20) (hru : 1 ≤ z → rU P σ0 (z - 1) Y) (hwu : 1 ≤ z → wU P Y K) (hn0 : 1 ≤ z → Y.n ≤ A.n) (h0 : z = 0 → Q (some (.inl (-1))) shM σ0) (h : 1 ≤ z → ∀ σ', fr FUR σ0 σ' → GR 0 P (wuA A Y) σ' → rW P σ' (wuW W Y) → σ' 124 83 = z - 1 → Q (some (.inl (z - 1))) shM σ') : sx_Run X 303 [.inr (.inr 124)] shM σ Q := by
  have r84 := pt_124_84 g0.pt
  have v5 := wp.wa
  refine sx_rule2 (own := 12) (cd := kX12_undo) (nL := 3) (by decide +kernel) (by decide +kernel) kX12_undo_ok (by decide +kernel) (Nat.le_of_ble_eq_true rfl) [43] 40 (fun n t L st _ σ' => (t = 43 ∧ ∃ j : Int, st = [] ∧ L = [some (.inr (.inr (124))), some (.inl (106 * (z - 1))), some (.inl (j))] ∧ (fr FUR σ0 σ' ∧ 1 ≤ z ∧ σ' 124 83 = z - 1 ∧ (∀ w : Int, 0 ≤ w → w < P.wa → σ' 157 w = Y.at1 w ∧ σ' 158 w = Y.st w ∧ σ' 159 w = Y.bt w) ∧ σ' 154 0 = Y.n ∧ (∀ m : Int, 0 ≤ m → m < j → σ' 153 m = Y.bl m) ∧ 0 ≤ j ∧ j ≤ Y.n) ∧ n = (200 - j).toNat)) ?_ ?_
  · skip
    conv => whnf
    refine ⟨(by first | assumption | rfl), ?_⟩
    try simp (disch := omega) only [Int.cast_ofNat_Int, up_s, up_a, up_i, mp_a, mp_ge]
    try simp only [r65]
    try simp only [r64]
    try simp only [r84]
    try simp only [ez]
    try simp only [e83]
    try simp only [y83]
    try simp only [hn9]
    try simp only [ebl]
    rw [← e0]
    conv => whnf
    refine ⟨(by first | assumption | rfl), ?_⟩
    try simp (disch := omega) only [Int.cast_ofNat_Int, up_s, up_a, up_i, mp_a, mp_ge]
    try simp only [r65]
    try simp only [r64]
    try simp only [r84]
    try simp only [ez]
    try simp only [e83]
    try simp only [y83]
    try simp only [hn9]
    try simp only [ebl]
    conv => whnf
    refine ⟨fun g => ?_, fun g => ?_⟩
    · simp only [sx_cc, Classical.not_not] at g
      conv => whnf
      refine ⟨(by first | assumption | rfl), ?_⟩
      try simp (disch := omega) only [Int.cast_ofNat_Int, up_s, up_a, up_i, mp_a, mp_ge]
      try simp only [r65]
      try simp only [r64]
      try simp only [r84]
      try simp only [ez]
      try simp only [e83]
      try simp only [y83]
      try simp only [hn9]
      try simp only [ebl]
      conv => whnf
      refine ⟨⟨by omega, by omega⟩, ?_⟩
      conv => whnf
      refine ⟨(by first | assumption | rfl), ?_⟩
      try simp (disch := omega) only [Int.cast_ofNat_Int, up_s, up_a, up_i, mp_a, mp_ge]
      try simp only [r65]
      try simp only [r64]
      try simp only [r84]
      try simp only [ez]
      try simp only [e83]
      try simp only [y83]
      try simp only [hn9]
      try simp only [ebl]
      conv => whnf
      refine ⟨(by first | assumption | rfl), ?_⟩
      try simp (disch := omega) only [Int.cast_ofNat_Int, up_s, up_a, up_i, mp_a, mp_ge]
      try simp only [r65]
      try simp only [r64]
      try simp only [r84]
      try simp only [ez]
      try simp only [e83]
      try simp only [y83]
      try simp only [hn9]
      try simp only [ebl]
      conv => whnf
      refine ⟨⟨by omega, by omega⟩, ?_⟩
      conv => whnf
      refine ⟨(by first | assumption | rfl), ?_⟩
      try simp (disch := omega) only [Int.cast_ofNat_Int, up_s, up_a, up_i, mp_a, mp_ge]
      try simp only [r65]
      try simp only [r64]
      try simp only [r84]
      try simp only [ez]
      try simp only [e83]
      try simp only [y83]
      try simp only [hn9]
      try simp only [ebl]
      conv => whnf
      refine ⟨Nat.le_of_ble_eq_true rfl, Nat.le_of_ble_eq_true rfl, (by first | assumption | rfl), ?_⟩
      have hz1 : 1 ≤ z := by omega
      generalize e1 : sx_up σ0 124 83 _ = σ1
      have hf1 : fr FUR σ0 σ1 := fun a i z9 => by rw [← e1, up_n (by unfold FUR at z9; omega)]
      have y83 : σ1 124 83 = z - 1 := by rw [← e1, up_s]
      have r84 := pt_124_84 (hf1.ptur g0.pt)
      refine c_Rtakew (hf1.ptur g0.pt) (show sx_lk shM 167 = (1, 2120) from rfl) (Or.inl rfl) (by omega) (by show 106 * (z - 1) + 16 ≤ (2120 : Int); omega) (by decide) ?_
      intro σ2 hf2 hw2 hn2
      have hr := hru hz1
      conv => whnf
      refine ⟨_, ⟨rfl, _, rfl, rfl, ?_, rfl⟩⟩
      exact ⟨hf1.trans (fun a i z9 => hf2 a i (by unfold FUR at z9; omega) (by unfold FUR at z9; omega)), hz1, (hf2 _ _ (by decide) (by decide)).trans y83, fun w y0 y1 => ⟨(hw2 w y0 (by omega)).1.trans ((hf1 _ _ (by unfold FUR; omega)).trans (hr.1 w y0 y1).1), (hw2 w y0 (by omega)).2.1.trans ((hf1 _ _ (by unfold FUR; omega)).trans (hr.1 w y0 y1).2.1), (hw2 w y0 (by omega)).2.2.trans ((hf1 _ _ (by unfold FUR; omega)).trans (hr.1 w y0 y1).2.2)⟩, hn2.trans ((hf1 _ _ (by unfold FUR; omega)).trans hr.2.1), fun m y0 y1 => by omega, by omega, (hwu hz1).2.1.1⟩
    · simp only [sx_cc, Classical.not_not] at g
      conv => whnf
      refine ⟨fun q9 => by first | (simp at q9; done) | omega, ?_⟩
      exact h0 (by omega)
  · intro n t L st σ' hk
    obtain ⟨rfl, j, rfl, rfl, hc, rfl⟩ := hk
    obtain ⟨hfi, hz1, e83, hw, hn9, hbl, hj0, hj1⟩ := hc
    have hT' := hfi.ptur g0.pt
    have r65 := pt_124_65 hT'
    have r64 := pt_124_64 hT'
    have r84 := pt_124_84 hT'
    have hr := hru hz1
    have hu := hwu hz1
    have hun := hu.2.1
    conv => whnf
    refine ⟨(by first | assumption | rfl), ?_⟩
    try simp (disch := omega) only [Int.cast_ofNat_Int, up_s, up_a, up_i, mp_a, mp_ge]
    try simp only [r65]
    try simp only [r64]
    try simp only [r84]
    try simp only [ez]
    try simp only [e83]
    try simp only [y83]
    try simp only [hn9]
    try simp only [ebl]
    conv => whnf
    refine ⟨sx_ixI (by first | assumption | rfl) (by omega) (by omega), ?_⟩
    try simp (disch := omega) only [Int.cast_ofNat_Int, up_s, up_a, up_i, mp_a, mp_ge]
    try simp only [r65]
    try simp only [r64]
    try simp only [r84]
    try simp only [ez]
    try simp only [e83]
    try simp only [y83]
    try simp only [hn9]
    try simp only [ebl]
    conv => whnf
    refine ⟨fun g => ?_, fun g => ?_⟩
    · simp only [sx_cc, Classical.not_not] at g
      conv => whnf
      refine ⟨(by first | assumption | rfl), ?_⟩
      try simp (disch := omega) only [Int.cast_ofNat_Int, up_s, up_a, up_i, mp_a, mp_ge]
      try simp only [r65]
      try simp only [r64]
      try simp only [r84]
      try simp only [ez]
      try simp only [e83]
      try simp only [y83]
      try simp only [hn9]
      try simp only [ebl]
      conv => whnf
      refine ⟨fun q9 => by first | (simp at q9; done) | omega, ?_⟩
      have ej : j = Y.n := by omega
      have ww9 := hn0 hz1
      refine h hz1 _ hfi (GR.mk hT' (g0.rp.of (fun a i z1 z2 => hfi _ _ (by unfold FUR; omega)) (fun i z1 z2 => hfi _ _ (by unfold FUR; omega))) (rS.mk hn9 ((hfi _ _ (by decide)).trans g0.rs.hr) ((hfi _ _ (by decide)).trans g0.rs.sn) ((hfi _ _ (by decide)).trans g0.rs.la) (fun m y0 y1 => (hfi _ _ (by unfold FUR; omega)).trans (g0.rs.lk m y0 (Int.lt_of_lt_of_le y1 ww9))) (fun m y0 y1 => (hfi _ _ (by unfold FUR; omega)).trans (g0.rs.ce m y0 (Int.lt_of_lt_of_le y1 ww9))) (fun m y0 y1 => (hfi _ _ (by unfold FUR; omega)).trans (g0.rs.wy m y0 (Int.lt_of_lt_of_le y1 ww9))) (fun m y0 y1 => (hfi _ _ (by unfold FUR; omega)).trans (g0.rs.bo m y0 (Int.lt_of_lt_of_le y1 ww9))) (fun m y0 y1 => (hfi _ _ (by unfold FUR; omega)).trans (g0.rs.dp m y0 (Int.lt_of_lt_of_le y1 ww9))) (fun m y0 y1 => (hfi _ _ (by unfold FUR; omega)).trans (g0.rs.cv m y0 (Int.lt_of_lt_of_le y1 ww9))) (fun m y0 y1 => (hfi _ _ (by unfold FUR; omega)).trans (g0.rs.ow m y0 (Int.lt_of_lt_of_le y1 ww9))) (fun m y0 y1 => by rw [z90]; exact hbl m y0 (by have y2 : m < Y.n := y1; omega))) (g0.sc.of (fun i => hfi _ _ (by unfold FUR; omega)) (hfi _ _ (by decide)))) (rW.mk (fun w y0 y1 => (hw w y0 y1).1) (fun w y0 y1 => (hw w y0 y1).2.1) (fun w y0 y1 => (hw w y0 y1).2.2) ?_ ((hfi _ _ (by decide)).trans hW.wi)) e83
      intro f y0 y1
      exact (hfi _ _ (by unfold FUR; omega)).trans (hW.db f y0 y1)
    · simp only [sx_cc, Classical.not_not] at g
      have ebl : σ' 167 (106 * (z - 1) + 16 + j) = Y.bl j := (hfi _ _ (by unfold FUR; omega)).trans (hr.2.2 j hj0 (by omega))
      have hb01 := hu.2.2 j hj0 (by omega)
      conv => whnf
      refine ⟨(by first | assumption | rfl), ?_⟩
      try simp (disch := omega) only [Int.cast_ofNat_Int, up_s, up_a, up_i, mp_a, mp_ge]
      try simp only [r65]
      try simp only [r64]
      try simp only [r84]
      try simp only [ez]
      try simp only [e83]
      try simp only [y83]
      try simp only [hn9]
      try simp only [ebl]
      conv => whnf
      refine ⟨(by first | assumption | rfl), ?_⟩
      try simp (disch := omega) only [Int.cast_ofNat_Int, up_s, up_a, up_i, mp_a, mp_ge]
      try simp only [r65]
      try simp only [r64]
      try simp only [r84]
      try simp only [ez]
      try simp only [e83]
      try simp only [y83]
      try simp only [hn9]
      try simp only [ebl]
      conv => whnf
      refine ⟨⟨by omega, by omega⟩, ?_⟩
      conv => whnf
      refine ⟨⟨by omega, by omega⟩, ?_⟩
      conv => whnf
      refine ⟨sx_ixI (by first | assumption | rfl) (by omega) (by omega), ?_⟩
      try simp (disch := omega) only [Int.cast_ofNat_Int, up_s, up_a, up_i, mp_a, mp_ge]
      try simp only [r65]
      try simp only [r64]
      try simp only [r84]
      try simp only [ez]
      try simp only [e83]
      try simp only [y83]
      try simp only [hn9]
      try simp only [ebl]
      conv => whnf
      refine ⟨fun g => ?_, fun g => ?_⟩
      · simp only [sx_cc, Classical.not_not] at g
        conv => whnf
        refine ⟨sx_ixI (by first | assumption | rfl) (by omega) (by omega), by omega, ?_⟩
        conv => whnf
        refine ⟨⟨by omega, by omega⟩, ?_⟩
        conv => whnf
        refine ⟨_, ?_, ⟨rfl, _, rfl, rfl, ?_, rfl⟩⟩
        · omega
        · refine ⟨hfi.trans (fun a y z9 => by unfold FUR at z9; rw [up_n (by omega)]), hz1, by rw [up_a (by decide)]; exact e83, fun w y0 y1 => by simp (disch := decide) only [up_a]; exact hw w y0 y1, by rw [up_a (by decide)]; exact hn9, fun m y0 y1 => ?_, by omega, by omega⟩
          by_cases e9 : m = j
          · subst e9; rw [up_s]; omega
          · rw [up_i e9]; exact hbl m y0 (by omega)
      · simp only [sx_cc, Classical.not_not] at g
        conv => whnf
        refine ⟨sx_ixI (by first | assumption | rfl) (by omega) (by omega), by omega, ?_⟩
        conv => whnf
        refine ⟨⟨by omega, by omega⟩, ?_⟩
        conv => whnf
        refine ⟨_, ?_, ⟨rfl, _, rfl, rfl, ?_, rfl⟩⟩
        · omega
        · refine ⟨hfi.trans (fun a y z9 => by unfold FUR at z9; rw [up_n (by omega)]), hz1, by rw [up_a (by decide)]; exact e83, fun w y0 y1 => by simp (disch := decide) only [up_a]; exact hw w y0 y1, by rw [up_a (by decide)]; exact hn9, fun m y0 y1 => ?_, by omega, by omega⟩
          by_cases e9 : m = j
          · subst e9; rw [up_s]; omega
          · rw [up_i e9]; exact hbl m y0 (by omega)
end SXM8
