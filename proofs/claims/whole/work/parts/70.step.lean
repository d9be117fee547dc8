/-! STEP, class side (by wip/whole) -/
section SXM2
variable {X : sx_X} {Q : sx_R} {s t p b c kk : Int} {σ σ0 σ' σ1 σ2 : sx_S} {P : aP} {A B : aM} {W V : aW}
def fM20 (x : Int) : Int := if x < 20 then x else 20
def fU (f : Int → Int) (i v : Int) : Int → Int := fun j => if j = i then v else f j
theorem fU_s {f : Int → Int} {i v : Int} : fU f i v i = v := if_pos rfl
theorem fU_n {f : Int → Int} {i v j : Int} (h : ¬ j = i) : fU f i v j = f j := if_neg h
abbrev FL (q a i : Int) : Prop := (86 ≤ a ∧ a ≤ 88 ∧ i = q) ∨ (a = 85 ∧ (i = 0 ∨ i = 1))
abbrev pLv (P : aP) (W : aW) (w e : Int) : Prop := (W.st w + 1).tmod (P.ga w) = 0 ∧ P.ki e = 0
def sW (W : aW) (w e : Int) : aW := aW.mk (fU W.at1 w e) (fU W.st w (W.st w + 1)) W.bt W.db W.wi
def sA (P : aP) (A : aM) (W : aW) (w e y : Int) : aM := aM.mk (A.n + 1) A.hr A.sn A.la (fU A.lk A.n (W.bt w)) (fU A.ce A.n e) (fU A.wy A.n y) (fU A.bo A.n A.hr) (fU A.dp A.n (fBl (P.lw 2 (aNw P A w e)) (P.we w) 1 99)) (fU A.cv A.n 0) (fU A.ow A.n w) (fU A.bl A.n 0)
abbrev FN (a i : Int) : Prop := a = 38 ∨ a = 39 ∨ (a = 37 ∧ i = 2) ∨ (41 ≤ a ∧ a ≤ 43) ∨ (a = 44 ∧ i = 0) ∨ (45 ≤ a ∧ a ≤ 52)
theorem FN_pts : ptL.all (fun q => decide (¬ FN q.1 q.2.1)) = true := by decide +kernel
theorem fr.ptn {σ σ' : sx_S} (h : fr FN σ σ') (hT : PT σ) : PT σ' := hT.fr (fun q hq => h _ _ (of_decide_eq_true (List.all_eq_true.mp FN_pts q hq)))
theorem cS.of2 (h : cS s σ A) (e : ∀ a i : Int, (a = s ∧ (i = 7 ∨ i = 8 ∨ i = 10)) ∨ (s + 4 ≤ a ∧ a ≤ s + 12) → σ' a i = σ a i) : cS s σ' A := by
  have r : ∀ a : Int, s + 4 ≤ a → a ≤ s + 12 → σ' a = σ a := fun a y z => funext fun i => e a i (by omega)
  unfold cS
  rw [e s 7 (by omega), e s 8 (by omega), e s 10 (by omega), r (s + 4) (by omega) (by omega), r (s + 5) (by omega) (by omega), r (s + 6) (by omega) (by omega), r (s + 7) (by omega) (by omega), r (s + 8) (by omega) (by omega), r (s + 9) (by omega) (by omega), r (s + 10) (by omega) (by omega), r (s + 11) (by omega) (by omega), r (s + 12) (by omega) (by omega)]
  exact h
theorem GC.at3 (g : GC 40 p P A σ) (hp : isP p) (hf : fr FN σ σ') (e : ∀ a i : Int, ¬ (41 ≤ a ∧ a ≤ 43) → σ' a i = σ a i) : GC 40 p P A σ' := by
  have h2 : p + 20 < 38 := by rcases hp with h9 | h9 <;> omega
  exact GC.mk (hf.ptn g.pt) ((e _ _ (by decide)).trans g.ep) (g.cp.of (fun a i z1 z2 => e _ _ (by omega))) (g.cs.of2 (fun a i z => e _ _ (by omega))) (g.sc.of (fun a i z1 z2 => e _ _ (by omega)))
theorem fBl_lo {o : Option Int} {df : Int} (hd : 1 ≤ df ∧ df ≤ 99) : 0 ≤ fBl o df 1 99 ∧ fBl o df 1 99 ≤ 99 := fBl_bd (by decide) ⟨by omega, hd.2⟩
theorem wM.step (wp : wP P) (wm : wM P A c) (ww : wW P W kk) (hc : 0 ≤ c) (hn : A.n < 90) {w e y : Int} (hw : 0 ≤ w ∧ w < P.wa) (he : 0 ≤ e ∧ e < P.w * P.h) (hy : 0 ≤ y ∧ y ≤ 3) : wM P (sA P A W w e y) c := by
  have wn := wm.n
  have hwe := wp.we w hw.1 hw.2
  have key : ∀ {f : Int → Int} {v : Int} {G : Int → Prop}, (∀ m : Int, 0 ≤ m → m < A.n → G (f m)) → G v → ∀ m : Int, 0 ≤ m → m < A.n + 1 → G (fU f A.n v m) := by
    intro f v G h1 h2 m y0 y1
    by_cases e9 : m = A.n
    · subst e9; rw [fU_s]; exact h2
    · rw [fU_n e9]; exact h1 m y0 (by omega)
  exact wM.mk (show 0 ≤ A.n + 1 ∧ A.n + 1 ≤ 90 by omega) wm.hr wm.sn wm.la (key (G := fun v => 0 ≤ v ∧ v < P.wa) wm.lk (ww.bt w hw.1 hw.2)) (key (G := fun v => 0 ≤ v ∧ v < P.w * P.h) wm.ce he) (key (G := fun v => 0 ≤ v ∧ v ≤ 3) wm.wy hy) (key (G := fun v => 0 ≤ v ∧ v ≤ 9999) wm.bo wm.hr) (key (G := fun v => 0 ≤ v ∧ v ≤ 99) wm.dp (fBl_lo ⟨hwe.1, by omega⟩)) (key (G := fun v => 0 ≤ v ∧ v ≤ c) wm.cv ⟨by decide, hc⟩) (key (G := fun v => 0 ≤ v ∧ v < P.wa) wm.ow hw) (key (G := fun v => v = 0 ∨ v = 1) wm.bl (Or.inl rfl))
theorem wW.step (ww : wW P W kk) (hk : 0 ≤ kk) {w e : Int} (hw : 0 ≤ w ∧ w < P.wa) (he : 0 ≤ e ∧ e < P.w * P.h) : wW P (sW W w e) (kk + 1) := by
  refine wW.mk (fun v y0 y1 => ?_) (fun v y0 y1 => ?_) ww.bt (fun f y0 y1 => ?_) ?_
  · by_cases e9 : v = w
    · subst e9; show 0 ≤ fU W.at1 v e v ∧ fU W.at1 v e v < _; rw [fU_s]; exact he
    · show 0 ≤ fU W.at1 w e v ∧ fU W.at1 w e v < _; rw [fU_n e9]; exact ww.at1 v y0 y1
  · have h9 := ww.st v y0 y1
    by_cases e9 : v = w
    · subst e9; show 0 ≤ fU W.st v (W.st v + 1) v ∧ fU W.st v (W.st v + 1) v ≤ kk + 1; rw [fU_s]; omega
    · show 0 ≤ fU W.st w (W.st w + 1) v ∧ fU W.st w (W.st w + 1) v ≤ kk + 1; rw [fU_n e9]; omega
  · have h9 := ww.db f y0 y1; show 0 ≤ W.db f ∧ W.db f ≤ 4752 * (kk + 1); omega
  · have h9 := ww.wi; show 0 ≤ W.wi ∧ W.wi ≤ kk + 1; omega
set_option maxRecDepth 20000 in
theorem c_Lnote (hT : PT σ) {z nx : Int} (ez : σ 85 0 = z) (ex : σ 85 1 = nx) (hz : 0 ≤ z ∧ z ≤ 20) (hx : 0 ≤ nx ∧ nx < 20) {kd w bf : Int} (h : ∀ σ', fr (FL nx) σ σ' → PT σ' → σ' 86 nx = kd → σ' 87 nx = w → σ' 88 nx = bf → σ' 85 0 = fM20 (z + 1) → σ' 85 1 = fNx nx → Q none shM σ') : sx_Run X 29 [.inr (.inr 85), .inl kd, .inl w, .inl bf] shM σ Q := by
  have a2 := pt_85_2 hT
  have a3 := pt_85_3 hT
  have a4 := pt_85_4 hT
  refine sx_rule0 (own := 3) (cd := kX3_note) (nL := 4) (by decide +kernel) (by decide +kernel) kX3_note_ok (by decide +kernel) (Nat.le_of_ble_eq_true rfl) 40 ?_
  conv => whnf
  refine ⟨(by first | assumption | rfl), ?_⟩
  try simp (disch := omega) only [Int.cast_ofNat_Int, up_s, up_a, up_i, mp_a, mp_ge]
  try simp only [a2]
  try simp only [a3]
  try simp only [a4]
  try simp only [ez]
  try simp only [ex]
  conv => whnf
  refine ⟨(by first | assumption | rfl), ?_⟩
  try simp (disch := omega) only [Int.cast_ofNat_Int, up_s, up_a, up_i, mp_a, mp_ge]
  try simp only [a2]
  try simp only [a3]
  try simp only [a4]
  try simp only [ez]
  try simp only [ex]
  conv => whnf
  refine ⟨sx_ixI (by first | assumption | rfl) (by omega) (by omega), ?_⟩
  conv => whnf
  refine ⟨(by first | assumption | rfl), ?_⟩
  try simp (disch := omega) only [Int.cast_ofNat_Int, up_s, up_a, up_i, mp_a, mp_ge]
  try simp only [a2]
  try simp only [a3]
  try simp only [a4]
  try simp only [ez]
  try simp only [ex]
  conv => whnf
  refine ⟨(by first | assumption | rfl), ?_⟩
  try simp (disch := omega) only [Int.cast_ofNat_Int, up_s, up_a, up_i, mp_a, mp_ge]
  try simp only [a2]
  try simp only [a3]
  try simp only [a4]
  try simp only [ez]
  try simp only [ex]
  conv => whnf
  refine ⟨sx_ixI (by first | assumption | rfl) (by omega) (by omega), ?_⟩
  conv => whnf
  refine ⟨(by first | assumption | rfl), ?_⟩
  try simp (disch := omega) only [Int.cast_ofNat_Int, up_s, up_a, up_i, mp_a, mp_ge]
  try simp only [a2]
  try simp only [a3]
  try simp only [a4]
  try simp only [ez]
  try simp only [ex]
  conv => whnf
  refine ⟨(by first | assumption | rfl), ?_⟩
  try simp (disch := omega) only [Int.cast_ofNat_Int, up_s, up_a, up_i, mp_a, mp_ge]
  try simp only [a2]
  try simp only [a3]
  try simp only [a4]
  try simp only [ez]
  try simp only [ex]
  conv => whnf
  refine ⟨sx_ixI (by first | assumption | rfl) (by omega) (by omega), ?_⟩
  conv => whnf
  refine ⟨(by first | assumption | rfl), ?_⟩
  try simp (disch := omega) only [Int.cast_ofNat_Int, up_s, up_a, up_i, mp_a, mp_ge]
  try simp only [a2]
  try simp only [a3]
  try simp only [a4]
  try simp only [ez]
  try simp only [ex]
  conv => whnf
  refine ⟨⟨by omega, by omega⟩, ?_⟩
  conv => whnf
  refine ⟨fun g => ?_, fun g => ?_⟩
  · simp only [sx_cc, Classical.not_not] at g
    conv => whnf
    refine ⟨(by first | assumption | rfl), ?_⟩
    try simp (disch := omega) only [Int.cast_ofNat_Int, up_s, up_a, up_i, mp_a, mp_ge]
    try simp only [a2]
    try simp only [a3]
    try simp only [a4]
    try simp only [ez]
    try simp only [ex]
    conv => whnf
    refine ⟨(by first | assumption | rfl), ?_⟩
    try simp (disch := omega) only [Int.cast_ofNat_Int, up_s, up_a, up_i, mp_a, mp_ge]
    try simp only [a2]
    try simp only [a3]
    try simp only [a4]
    try simp only [ez]
    try simp only [ex]
    conv => whnf
    refine ⟨⟨by omega, by omega⟩, ?_⟩
    conv => whnf
    refine ⟨Nat.le_of_ble_eq_true rfl, ?_⟩
    conv => whnf
    refine ⟨(by first | assumption | rfl), ?_⟩
    try simp (disch := omega) only [Int.cast_ofNat_Int, up_s, up_a, up_i, mp_a, mp_ge]
    try simp only [a2]
    try simp only [a3]
    try simp only [a4]
    try simp only [ez]
    try simp only [ex]
    conv => whnf
    refine ⟨rfl, ?_⟩
    generalize e8 : sx_up (sx_up _ 85 1 _) 85 0 _ = σ8
    have hf : fr (FL nx) σ σ8 := fun a i z9 => by
      unfold FL at z9
      rw [← e8, up_n (by omega), up_n (by omega), up_n (by omega), up_n (by omega), up_n (by omega)]
    refine h σ8 hf ?_ ?_ ?_ ?_ ?_ ?_
    · rw [← e8]; exact PT.up (PT.up (PT_up (PT_up (PT_up hT (show sx_lk shM 86 = _ from rfl) (by decide)) (show sx_lk shM 87 = _ from rfl) (by decide)) (show sx_lk shM 88 = _ from rfl) (by decide)) (by decide +kernel)) (by decide +kernel)
    · rw [← e8, up_a (by decide), up_a (by decide), up_a (by decide), up_a (by decide), up_s]
    · rw [← e8, up_a (by decide), up_a (by decide), up_a (by decide), up_s]
    · rw [← e8, up_a (by decide), up_a (by decide), up_s]
    · rw [← e8, up_s]; unfold fM20; repeat (first | omega | split)
    · rw [← e8, up_i (by decide), up_s]; unfold fNx; repeat (first | omega | split)
  · simp only [sx_cc, Classical.not_not] at g
    conv => whnf
    refine ⟨(by first | assumption | rfl), ?_⟩
    try simp (disch := omega) only [Int.cast_ofNat_Int, up_s, up_a, up_i, mp_a, mp_ge]
    try simp only [a2]
    try simp only [a3]
    try simp only [a4]
    try simp only [ez]
    try simp only [ex]
    conv => whnf
    refine ⟨⟨by omega, by omega⟩, ?_⟩
    conv => whnf
    refine ⟨(by first | assumption | rfl), ?_⟩
    try simp (disch := omega) only [Int.cast_ofNat_Int, up_s, up_a, up_i, mp_a, mp_ge]
    try simp only [a2]
    try simp only [a3]
    try simp only [a4]
    try simp only [ez]
    try simp only [ex]
    conv => whnf
    refine ⟨(by first | assumption | rfl), ?_⟩
    try simp (disch := omega) only [Int.cast_ofNat_Int, up_s, up_a, up_i, mp_a, mp_ge]
    try simp only [a2]
    try simp only [a3]
    try simp only [a4]
    try simp only [ez]
    try simp only [ex]
    conv => whnf
    refine ⟨⟨by omega, by omega⟩, ?_⟩
    conv => whnf
    refine ⟨Nat.le_of_ble_eq_true rfl, ?_⟩
    conv => whnf
    refine ⟨(by first | assumption | rfl), ?_⟩
    try simp (disch := omega) only [Int.cast_ofNat_Int, up_s, up_a, up_i, mp_a, mp_ge]
    try simp only [a2]
    try simp only [a3]
    try simp only [a4]
    try simp only [ez]
    try simp only [ex]
    conv => whnf
    refine ⟨rfl, ?_⟩
    generalize e8 : sx_up (sx_up _ 85 1 _) 85 0 _ = σ8
    have hf : fr (FL nx) σ σ8 := fun a i z9 => by
      unfold FL at z9
      rw [← e8, up_n (by omega), up_n (by omega), up_n (by omega), up_n (by omega), up_n (by omega)]
    refine h σ8 hf ?_ ?_ ?_ ?_ ?_ ?_
    · rw [← e8]; exact PT.up (PT.up (PT_up (PT_up (PT_up hT (show sx_lk shM 86 = _ from rfl) (by decide)) (show sx_lk shM 87 = _ from rfl) (by decide)) (show sx_lk shM 88 = _ from rfl) (by decide)) (by decide +kernel)) (by decide +kernel)
    · rw [← e8, up_a (by decide), up_a (by decide), up_a (by decide), up_a (by decide), up_s]
    · rw [← e8, up_a (by decide), up_a (by decide), up_a (by decide), up_s]
    · rw [← e8, up_a (by decide), up_a (by decide), up_s]
    · rw [← e8, up_s]; unfold fM20; repeat (first | omega | split)
    · rw [← e8, up_i (by decide), up_s]; unfold fNx; repeat (first | omega | split)
set_option maxRecDepth 20000 in
theorem c_Lnoteb (hT : PT σ) {z nx : Int} (ez : σ 85 0 = z) (ex : σ 85 1 = nx) (hz : 0 ≤ z ∧ z ≤ 20) (hx : 0 ≤ nx ∧ nx < 20) {w bf : Int} (h : ∀ σ', fr (FL nx) σ σ' → PT σ' → σ' 86 nx = 2 → σ' 87 nx = w → σ' 88 nx = bf → σ' 85 0 = fM20 (z + 1) → σ' 85 1 = fNx nx → Q none shM σ') : sx_Run X 26 [.inr (.inr 85), .inl w, .inl bf] shM σ Q := by
  refine sx_rule0 (own := 3) (cd := kX3_noteBoots) (nL := 3) (by decide +kernel) (by decide +kernel) kX3_noteBoots_ok (by decide +kernel) (Nat.le_of_ble_eq_true rfl) 40 ?_
  conv => whnf
  refine ⟨Nat.le_of_ble_eq_true rfl, Nat.le_of_ble_eq_true rfl, (by first | assumption | rfl), ?_⟩
  refine c_Lnote hT ez ex hz hx ?_
  intro σ2 hf2 hT2 n1 n2 n3 n4 n5
  conv => whnf
  refine ⟨rfl, ?_⟩
  exact h _ hf2 hT2 n1 n2 n3 n4 n5
set_option maxRecDepth 20000 in
theorem c_Lnotef (hT : PT σ) {z nx : Int} (ez : σ 85 0 = z) (ex : σ 85 1 = nx) (hz : 0 ≤ z ∧ z ≤ 20) (hx : 0 ≤ nx ∧ nx < 20) {w bf : Int} (h : ∀ σ', fr (FL nx) σ σ' → PT σ' → σ' 86 nx = 3 → σ' 87 nx = 0 → σ' 88 nx = bf → σ' 85 0 = fM20 (z + 1) → σ' 85 1 = fNx nx → Q none shM σ') : sx_Run X 28 [.inr (.inr 85), .inl bf] shM σ Q := by
  refine sx_rule0 (own := 3) (cd := kX3_noteFox) (nL := 2) (by decide +kernel) (by decide +kernel) kX3_noteFox_ok (by decide +kernel) (Nat.le_of_ble_eq_true rfl) 40 ?_
  conv => whnf
  refine ⟨Nat.le_of_ble_eq_true rfl, Nat.le_of_ble_eq_true rfl, (by first | assumption | rfl), ?_⟩
  refine c_Lnote hT ez ex hz hx ?_
  intro σ2 hf2 hT2 n1 n2 n3 n4 n5
  conv => whnf
  refine ⟨rfl, ?_⟩
  exact h _ hf2 hT2 n1 n2 n3 n4 n5
set_option maxRecDepth 20000 in
theorem c_Lnotes (hT : PT σ) {z nx : Int} (ez : σ 85 0 = z) (ex : σ 85 1 = nx) (hz : 0 ≤ z ∧ z ≤ 20) (hx : 0 ≤ nx ∧ nx < 20) {w bf kd : Int} (hk : kd = 0 ∨ kd = 1) (h : ∀ σ', fr (FL nx) σ σ' → PT σ' → σ' 86 nx = kd → σ' 87 nx = w → σ' 88 nx = bf → σ' 85 0 = fM20 (z + 1) → σ' 85 1 = fNx nx → Q none shM σ') : sx_Run X 25 [.inr (.inr 85), .inl w, .inl bf, .inl kd] shM σ Q := by
  refine sx_rule0 (own := 3) (cd := kX3_noteStep) (nL := 4) (by decide +kernel) (by decide +kernel) kX3_noteStep_ok (by decide +kernel) (Nat.le_of_ble_eq_true rfl) 40 ?_
  conv => whnf
  refine ⟨fun g => ?_, fun g => ?_⟩
  · simp only [sx_cc, Classical.not_not] at g
    conv => whnf
    refine ⟨Nat.le_of_ble_eq_true rfl, Nat.le_of_ble_eq_true rfl, (by first | assumption | rfl), ?_⟩
    refine c_Lnote hT ez ex hz hx ?_
    intro σ2 hf2 hT2 n1 n2 n3 n4 n5
    conv => whnf
    refine ⟨rfl, ?_⟩
    exact h _ hf2 hT2 (by omega) n2 n3 n4 n5
  · simp only [sx_cc, Classical.not_not] at g
    conv => whnf
    refine ⟨Nat.le_of_ble_eq_true rfl, Nat.le_of_ble_eq_true rfl, (by first | assumption | rfl), ?_⟩
    refine c_Lnote hT ez ex hz hx ?_
    intro σ2 hf2 hT2 n1 n2 n3 n4 n5
    conv => whnf
    refine ⟨rfl, ?_⟩
    exact h _ hf2 hT2 (by omega) n2 n3 n4 n5
theorem GC.add (g : GC 40 p P A σ) (hp : isP p) {ow lo ce wa ho de : Int} (e : sx_up (sx_up (sx_up (sx_up (sx_up (sx_up (sx_up (sx_up (sx_up σ (40 + 11) A.n ow) (40 + 5) A.n lo) (40 + 6) A.n ce) (40 + 7) A.n wa) (40 + 8) A.n ho) (40 + 9) A.n de) (40 + 10) A.n 0) (40 + 12) A.n 0) (40 + 4) 0 (A.n + 1) = σ') : fr FN σ σ' ∧ GC 40 p P (aM.mk (A.n + 1) A.hr A.sn A.la (fU A.lk A.n lo) (fU A.ce A.n ce) (fU A.wy A.n wa) (fU A.bo A.n ho) (fU A.dp A.n de) (fU A.cv A.n 0) (fU A.ow A.n ow) (fU A.bl A.n 0)) σ' := by
  have h2 : p + 20 < 38 := by rcases hp with h9 | h9 <;> omega
  have hx : ∀ a i : Int, ¬ (44 ≤ a ∧ a ≤ 52) → σ' a i = σ a i := fun a i z => by rw [← e, up_a (by omega), up_a (by omega), up_a (by omega), up_a (by omega), up_a (by omega), up_a (by omega), up_a (by omega), up_a (by omega), up_a (by omega)]
  have hf : fr FN σ σ' := fun a i z => by unfold FN at z; rw [← e, up_n (by omega), up_n (by omega), up_n (by omega), up_n (by omega), up_n (by omega), up_n (by omega), up_n (by omega), up_n (by omega), up_n (by omega)]
  refine ⟨hf, GC.mk (hf.ptn g.pt) ((hx _ _ (by decide)).trans g.ep) (g.cp.of (fun a i z1 z2 => hx _ _ (by omega))) (cS.mk (by rw [← e, up_s]; rfl) ((hx _ _ (by decide)).trans g.cs.hr) ((hx _ _ (by decide)).trans g.cs.sn) ((hx _ _ (by decide)).trans g.cs.la) (fun m y0 y1 => by
    by_cases e9 : m = A.n
    · subst e9; rw [← e, up_a (by decide), up_a (by decide), up_a (by decide), up_a (by decide), up_a (by decide), up_a (by decide), up_a (by decide), up_s]; exact fU_s.symm
    · rw [← e, up_n (by omega), up_n (by omega), up_n (by omega), up_n (by omega), up_n (by omega), up_n (by omega), up_n (by omega), up_n (by omega), up_n (by omega)]; exact (g.cs.lk m y0 (by have y2 : m < A.n + 1 := y1; omega)).trans (fU_n e9).symm)
  (fun m y0 y1 => by
    by_cases e9 : m = A.n
    · subst e9; rw [← e, up_a (by decide), up_a (by decide), up_a (by decide), up_a (by decide), up_a (by decide), up_a (by decide), up_s]; exact fU_s.symm
    · rw [← e, up_n (by omega), up_n (by omega), up_n (by omega), up_n (by omega), up_n (by omega), up_n (by omega), up_n (by omega), up_n (by omega), up_n (by omega)]; exact (g.cs.ce m y0 (by have y2 : m < A.n + 1 := y1; omega)).trans (fU_n e9).symm)
  (fun m y0 y1 => by
    by_cases e9 : m = A.n
    · subst e9; rw [← e, up_a (by decide), up_a (by decide), up_a (by decide), up_a (by decide), up_a (by decide), up_s]; exact fU_s.symm
    · rw [← e, up_n (by omega), up_n (by omega), up_n (by omega), up_n (by omega), up_n (by omega), up_n (by omega), up_n (by omega), up_n (by omega), up_n (by omega)]; exact (g.cs.wy m y0 (by have y2 : m < A.n + 1 := y1; omega)).trans (fU_n e9).symm)
  (fun m y0 y1 => by
    by_cases e9 : m = A.n
    · subst e9; rw [← e, up_a (by decide), up_a (by decide), up_a (by decide), up_a (by decide), up_s]; exact fU_s.symm
    · rw [← e, up_n (by omega), up_n (by omega), up_n (by omega), up_n (by omega), up_n (by omega), up_n (by omega), up_n (by omega), up_n (by omega), up_n (by omega)]; exact (g.cs.bo m y0 (by have y2 : m < A.n + 1 := y1; omega)).trans (fU_n e9).symm)
  (fun m y0 y1 => by
    by_cases e9 : m = A.n
    · subst e9; rw [← e, up_a (by decide), up_a (by decide), up_a (by decide), up_s]; exact fU_s.symm
    · rw [← e, up_n (by omega), up_n (by omega), up_n (by omega), up_n (by omega), up_n (by omega), up_n (by omega), up_n (by omega), up_n (by omega), up_n (by omega)]; exact (g.cs.dp m y0 (by have y2 : m < A.n + 1 := y1; omega)).trans (fU_n e9).symm)
  (fun m y0 y1 => by
    by_cases e9 : m = A.n
    · subst e9; rw [← e, up_a (by decide), up_a (by decide), up_s]; exact fU_s.symm
    · rw [← e, up_n (by omega), up_n (by omega), up_n (by omega), up_n (by omega), up_n (by omega), up_n (by omega), up_n (by omega), up_n (by omega), up_n (by omega)]; exact (g.cs.cv m y0 (by have y2 : m < A.n + 1 := y1; omega)).trans (fU_n e9).symm)
  (fun m y0 y1 => by
    by_cases e9 : m = A.n
    · subst e9; rw [← e, up_a (by decide), up_a (by decide), up_a (by decide), up_a (by decide), up_a (by decide), up_a (by decide), up_a (by decide), up_a (by decide), up_s]; exact fU_s.symm
    · rw [← e, up_n (by omega), up_n (by omega), up_n (by omega), up_n (by omega), up_n (by omega), up_n (by omega), up_n (by omega), up_n (by omega), up_n (by omega)]; exact (g.cs.ow m y0 (by have y2 : m < A.n + 1 := y1; omega)).trans (fU_n e9).symm)
  (fun m y0 y1 => by
    by_cases e9 : m = A.n
    · subst e9; rw [← e, up_a (by decide), up_s]; exact fU_s.symm
    · rw [← e, up_n (by omega), up_n (by omega), up_n (by omega), up_n (by omega), up_n (by omega), up_n (by omega), up_n (by omega), up_n (by omega), up_n (by omega)]; exact (g.cs.bl m y0 (by have y2 : m < A.n + 1 := y1; omega)).trans (fU_n e9).symm)) (g.sc.of (fun a i z1 z2 => hx _ _ (by omega)))⟩
set_option maxRecDepth 20000 in
theorem a_Swalk (hp : isP p) (wp : wP P) (wm : wM P A c) (ww : wW P W kk) (hk : kk ≤ 1000) (g0 : GC 40 p P A σ) (hW : cW P 40 σ W) {w e y : Int} (hw : 0 ≤ w ∧ w < P.wa) (he : 0 ≤ e ∧ e < P.w * P.h) (hn : pLv P W w e → A.n < 90) (h1 : pLv P W w e → ∀ σ', fr FN σ σ' → GC 40 p P (sA P A W w e y) σ' → cW P 40 σ' (sW W w e) → Q (some (.inl 1)) shM σ') (h0 : ¬ pLv P W w e → ∀ σ', fr FN σ σ' → GC 40 p P A σ' → cW P 40 σ' (sW W w e) → Q (some (.inl 0)) shM σ') : sx_Run X 84 [.inr (.inr 40), .inl w, .inl e, .inl y] shM σ Q := by
  have hs : isS 40 := Or.inl rfl
  have k0 := lkS0 hs
  have k1 := lkS1 hs
  have k2 := lkS2 hs
  have k3 := lkS3 hs
  have k4 := lkS4 hs
  have s2 := ptS_2 g0.pt hs
  have s3 := ptS_3 g0.pt hs
  have q0 := lkP0 hp
  have q6 := lkP6 hp
  have v5 := wp.wa
  have v4 := wp.wh
  have est := hW.st w hw.1 hw.2
  have wst := ww.st w hw.1 hw.2
  have ega := g0.cp.ga w hw.1 hw.2
  have wga := wp.ga w hw.1 hw.2
  have eki := g0.cp.ki e he.1 (by omega)
  have wwe := wp.we w hw.1 hw.2
  have wn := wm.n
  refine sx_rule0 (own := 9) (cd := kX9_walk) (nL := 6) (by decide +kernel) (by decide +kernel) kX9_walk_ok (by decide +kernel) (Nat.le_of_ble_eq_true rfl) 40 ?_
  conv => whnf
  refine ⟨Nat.le_of_ble_eq_true rfl, Nat.le_of_ble_eq_true rfl, (by first | assumption | rfl), ?_⟩
  refine c_Swould g0.pt hs hp g0.ep ⟨hw.1, by omega⟩ ⟨he.1, by omega⟩ (by rw [est]; omega) (by rw [ega]; omega) (fun y1 => ?_) (fun y0 => ?_)
  · rw [est, ega, eki] at y1
    have hl : pLv P W w e := ⟨y1.2.1, y1.2.2⟩
    clear y1
    conv => whnf
    refine ⟨(by first | assumption | rfl), ?_⟩
    try simp (disch := omega) only [Int.cast_ofNat_Int, up_s, up_a, up_i, mp_a, mp_ge]
    try simp only [s2]
    try simp only [s3]
    try simp only [est]
    try simp only [s1]
    try simp only [t9]
    try simp only [ewe]
    try simp only [s5]
    try simp only [s4]
    try simp only [ebt]
    try simp only [ehr]
    conv => whnf
    refine ⟨sx_ixI (by first | assumption | rfl) (by omega) (by omega), ?_⟩
    conv => whnf
    refine ⟨(by first | assumption | rfl), ?_⟩
    try simp (disch := omega) only [Int.cast_ofNat_Int, up_s, up_a, up_i, mp_a, mp_ge]
    try simp only [s2]
    try simp only [s3]
    try simp only [est]
    try simp only [s1]
    try simp only [t9]
    try simp only [ewe]
    try simp only [s5]
    try simp only [s4]
    try simp only [ebt]
    try simp only [ehr]
    conv => whnf
    refine ⟨sx_ixI (by first | assumption | rfl) (by omega) (by omega), ?_⟩
    try simp (disch := omega) only [Int.cast_ofNat_Int, up_s, up_a, up_i, mp_a, mp_ge]
    try simp only [s2]
    try simp only [s3]
    try simp only [est]
    try simp only [s1]
    try simp only [t9]
    try simp only [ewe]
    try simp only [s5]
    try simp only [s4]
    try simp only [ebt]
    try simp only [ehr]
    conv => whnf
    refine ⟨⟨by omega, by omega⟩, ?_⟩
    conv => whnf
    refine ⟨sx_ixI (by first | assumption | rfl) (by omega) (by omega), ?_⟩
    generalize e2 : sx_up (sx_up σ (40 + 1) w e) (40 + 2) w _ = σ2
    have hf2 : fr FN σ σ2 := fun a i z9 => by unfold FN at z9; rw [← e2, up_a (by omega), up_a (by omega)]
    have g2 : GC 40 p P A σ2 := g0.at3 hp hf2 (fun a i z9 => by rw [← e2, up_a (by omega), up_a (by omega)])
    have w2 : cW P 40 σ2 (sW W w e) := cW.mk (fun v y0 y1 => by
        rw [← e2, up_a (by decide)]
        by_cases e9 : v = w
        · subst e9; rw [up_s]; exact fU_s.symm
        · rw [up_i e9]; exact (hW.at1 v y0 y1).trans (fU_n e9).symm) (fun v y0 y1 => by
        rw [← e2]
        by_cases e9 : v = w
        · subst e9; rw [up_s]; exact fU_s.symm
        · rw [up_i e9, up_a (by decide)]; exact (hW.st v y0 y1).trans (fU_n e9).symm) (fun v y0 y1 => by rw [← e2, up_a (by decide), up_a (by decide)]; exact hW.bt v y0 y1) (fun v y0 y1 => by rw [← e2, up_a (by decide), up_a (by decide)]; exact hW.db v y0 y1) (by rw [← e2, up_a (by decide), up_a (by decide)]; exact hW.wi)
    conv => whnf
    refine ⟨fun g => ?_, fun g => ?_⟩
    · exact absurd g (by simp [sx_cc])
    · skip
      conv => whnf
      refine ⟨Nat.le_of_ble_eq_true rfl, Nat.le_of_ble_eq_true rfl, (by first | assumption | rfl), ?_⟩
      refine a_Sdeep hs hp wp wm g2 hw he ?_
      intro σ3 he3 g3 hb3
      have s1 := g3.ep
      have t9 := ptP_9 g3.pt hp
      have ewe := g3.cp.we w hw.1 hw.2
      have s5 := ptS_5 g3.pt hs
      have s4 := ptS_4 g3.pt hs
      have w3 : cW P 40 σ3 (sW W w e) := w2.of (fun a i z9 => he3 a i (by omega) (by omega) (by omega))
      have ebt : σ3 (40 + 3) w = W.bt w := w3.bt w hw.1 hw.2
      have ehr := g3.cs.hr
      conv => whnf
      refine ⟨(by first | assumption | rfl), ?_⟩
      try simp (disch := omega) only [Int.cast_ofNat_Int, up_s, up_a, up_i, mp_a, mp_ge]
      try simp only [s2]
      try simp only [s3]
      try simp only [est]
      try simp only [s1]
      try simp only [t9]
      try simp only [ewe]
      try simp only [s5]
      try simp only [s4]
      try simp only [ebt]
      try simp only [ehr]
      conv => whnf
      refine ⟨(by first | assumption | rfl), ?_⟩
      try simp (disch := omega) only [Int.cast_ofNat_Int, up_s, up_a, up_i, mp_a, mp_ge]
      try simp only [s2]
      try simp only [s3]
      try simp only [est]
      try simp only [s1]
      try simp only [t9]
      try simp only [ewe]
      try simp only [s5]
      try simp only [s4]
      try simp only [ebt]
      try simp only [ehr]
      conv => whnf
      refine ⟨sx_ixI (by first | assumption | rfl) (by omega) (by omega), ?_⟩
      try simp (disch := omega) only [Int.cast_ofNat_Int, up_s, up_a, up_i, mp_a, mp_ge]
      try simp only [s2]
      try simp only [s3]
      try simp only [est]
      try simp only [s1]
      try simp only [t9]
      try simp only [ewe]
      try simp only [s5]
      try simp only [s4]
      try simp only [ebt]
      try simp only [ehr]
      conv => whnf
      refine ⟨Nat.le_of_ble_eq_true rfl, Nat.le_of_ble_eq_true rfl, ?_⟩
      refine c_Sbounded2 hb3 ⟨by decide, by decide⟩ ?_
      conv => whnf
      refine ⟨(by first | assumption | rfl), ?_⟩
      try simp (disch := omega) only [Int.cast_ofNat_Int, up_s, up_a, up_i, mp_a, mp_ge]
      try simp only [s2]
      try simp only [s3]
      try simp only [est]
      try simp only [s1]
      try simp only [t9]
      try simp only [ewe]
      try simp only [s5]
      try simp only [s4]
      try simp only [ebt]
      try simp only [ehr]
      conv => whnf
      refine ⟨(by first | assumption | rfl), ?_⟩
      try simp (disch := omega) only [Int.cast_ofNat_Int, up_s, up_a, up_i, mp_a, mp_ge]
      try simp only [s2]
      try simp only [s3]
      try simp only [est]
      try simp only [s1]
      try simp only [t9]
      try simp only [ewe]
      try simp only [s5]
      try simp only [s4]
      try simp only [ebt]
      try simp only [ehr]
      conv => whnf
      refine ⟨sx_ixI (by first | assumption | rfl) (by omega) (by omega), ?_⟩
      try simp (disch := omega) only [Int.cast_ofNat_Int, up_s, up_a, up_i, mp_a, mp_ge]
      try simp only [s2]
      try simp only [s3]
      try simp only [est]
      try simp only [s1]
      try simp only [t9]
      try simp only [ewe]
      try simp only [s5]
      try simp only [s4]
      try simp only [ebt]
      try simp only [ehr]
      conv => whnf
      refine ⟨(by first | assumption | rfl), ?_⟩
      try simp (disch := omega) only [Int.cast_ofNat_Int, up_s, up_a, up_i, mp_a, mp_ge]
      try simp only [s2]
      try simp only [s3]
      try simp only [est]
      try simp only [s1]
      try simp only [t9]
      try simp only [ewe]
      try simp only [s5]
      try simp only [s4]
      try simp only [ebt]
      try simp only [ehr]
      conv => whnf
      refine ⟨Nat.le_of_ble_eq_true rfl, Nat.le_of_ble_eq_true rfl, (by first | assumption | rfl), ?_⟩
      refine c_Madd g3.pt hs (by rw [g3.cs.n]; have h9 := hn hl; omega) ?_
      rw [g3.cs.n]
      generalize e5 : sx_up _ (40 + 4) 0 _ = σ5
      have g5 := g3.add hp e5
      conv => whnf
      refine ⟨fun q9 => by first | (simp at q9; done) | omega, ?_⟩
      first | exact h0 hl _ hf2 g2 w2 | (have f3 : fr FN σ2 σ3 := fun a i z9 => he3 a i (by unfold FN at z9; omega) (by unfold FN at z9; omega) (by unfold FN at z9; omega); exact h1 hl _ ((hf2.trans f3).trans g5.1) g5.2 (w3.of (fun a i z9 => by rw [← e5, up_a (by omega), up_a (by omega), up_a (by omega), up_a (by omega), up_a (by omega), up_a (by omega), up_a (by omega), up_a (by omega), up_a (by omega)])))
  · rw [est, ega, eki] at y0
    have hl : ¬ pLv P W w e := fun z9 => y0 ⟨by omega, z9.1, z9.2⟩
    clear y0
    conv => whnf
    refine ⟨(by first | assumption | rfl), ?_⟩
    try simp (disch := omega) only [Int.cast_ofNat_Int, up_s, up_a, up_i, mp_a, mp_ge]
    try simp only [s2]
    try simp only [s3]
    try simp only [est]
    try simp only [s1]
    try simp only [t9]
    try simp only [ewe]
    try simp only [s5]
    try simp only [s4]
    try simp only [ebt]
    try simp only [ehr]
    conv => whnf
    refine ⟨sx_ixI (by first | assumption | rfl) (by omega) (by omega), ?_⟩
    conv => whnf
    refine ⟨(by first | assumption | rfl), ?_⟩
    try simp (disch := omega) only [Int.cast_ofNat_Int, up_s, up_a, up_i, mp_a, mp_ge]
    try simp only [s2]
    try simp only [s3]
    try simp only [est]
    try simp only [s1]
    try simp only [t9]
    try simp only [ewe]
    try simp only [s5]
    try simp only [s4]
    try simp only [ebt]
    try simp only [ehr]
    conv => whnf
    refine ⟨sx_ixI (by first | assumption | rfl) (by omega) (by omega), ?_⟩
    try simp (disch := omega) only [Int.cast_ofNat_Int, up_s, up_a, up_i, mp_a, mp_ge]
    try simp only [s2]
    try simp only [s3]
    try simp only [est]
    try simp only [s1]
    try simp only [t9]
    try simp only [ewe]
    try simp only [s5]
    try simp only [s4]
    try simp only [ebt]
    try simp only [ehr]
    conv => whnf
    refine ⟨⟨by omega, by omega⟩, ?_⟩
    conv => whnf
    refine ⟨sx_ixI (by first | assumption | rfl) (by omega) (by omega), ?_⟩
    generalize e2 : sx_up (sx_up σ (40 + 1) w e) (40 + 2) w _ = σ2
    have hf2 : fr FN σ σ2 := fun a i z9 => by unfold FN at z9; rw [← e2, up_a (by omega), up_a (by omega)]
    have g2 : GC 40 p P A σ2 := g0.at3 hp hf2 (fun a i z9 => by rw [← e2, up_a (by omega), up_a (by omega)])
    have w2 : cW P 40 σ2 (sW W w e) := cW.mk (fun v y0 y1 => by
        rw [← e2, up_a (by decide)]
        by_cases e9 : v = w
        · subst e9; rw [up_s]; exact fU_s.symm
        · rw [up_i e9]; exact (hW.at1 v y0 y1).trans (fU_n e9).symm) (fun v y0 y1 => by
        rw [← e2]
        by_cases e9 : v = w
        · subst e9; rw [up_s]; exact fU_s.symm
        · rw [up_i e9, up_a (by decide)]; exact (hW.st v y0 y1).trans (fU_n e9).symm) (fun v y0 y1 => by rw [← e2, up_a (by decide), up_a (by decide)]; exact hW.bt v y0 y1) (fun v y0 y1 => by rw [← e2, up_a (by decide), up_a (by decide)]; exact hW.db v y0 y1) (by rw [← e2, up_a (by decide), up_a (by decide)]; exact hW.wi)
    conv => whnf
    refine ⟨fun g => ?_, fun g => ?_⟩
    · skip
      conv => whnf
      refine ⟨fun q9 => by first | (simp at q9; done) | omega, ?_⟩
      first | exact h0 hl _ hf2 g2 w2 | (have f3 : fr FN σ2 σ3 := fun a i z9 => he3 a i (by unfold FN at z9; omega) (by unfold FN at z9; omega) (by unfold FN at z9; omega); exact h1 hl _ ((hf2.trans f3).trans g5.1) g5.2 (w3.of (fun a i z9 => by rw [← e5, up_a (by omega), up_a (by omega), up_a (by omega), up_a (by omega), up_a (by omega), up_a (by omega), up_a (by omega), up_a (by omega), up_a (by omega)])))
    · exact absurd g (by simp [sx_cc])
end SXM2
