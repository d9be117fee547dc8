/-! RECKONING: a law of the reference (by wip/whole) -/
section SXK4
variable {X : sx_X} {σ σ0 : sx_S} {Q : sx_R}
/-- all knots from lo on, n of them: none where one fails -/
noncomputable def fEv (kd pt ot nm : Int → Int) (lo : Int) : Nat → Option (Int → Int)
  | 0 => some (fun _ => 0)
  | n + 1 => match fEv kd pt ot nm lo n with
    | none => none
    | some g => match fOp kd pt ot nm g (lo + n) with
      | none => none
      | some v => some (fun j => if j = lo + n then v else g j)
theorem fEv_i {lo i : Int} (h : lo ≤ i) : (i + 1 - lo).toNat = (i - lo).toNat + 1 ∧ lo + ((i - lo).toNat : Int) = i := by omega
theorem fEv_v {kd pt ot nm g : Int → Int} {lo i v : Int} (h : lo ≤ i) (h1 : fEv kd pt ot nm lo (i - lo).toNat = some g) (h2 : fOp kd pt ot nm g i = some v) : fEv kd pt ot nm lo (i + 1 - lo).toNat = some (fun j => if j = i then v else g j) := by
  rw [(fEv_i h).1]
  unfold fEv
  rw [h1]
  simp only [(fEv_i h).2, h2]
theorem fEv_n {kd pt ot nm : Int → Int} {lo i : Int} (h : lo ≤ i) (h1 : fEv kd pt ot nm lo (i - lo).toNat = none) : fEv kd pt ot nm lo (i + 1 - lo).toNat = none := by
  rw [(fEv_i h).1]
  unfold fEv
  rw [h1]
theorem fEv_f {kd pt ot nm g : Int → Int} {lo i : Int} (h : lo ≤ i) (h1 : fEv kd pt ot nm lo (i - lo).toNat = some g) (h2 : fOp kd pt ot nm g i = none) : fEv kd pt ot nm lo (i + 1 - lo).toNat = none := by
  rw [(fEv_i h).1]
  unfold fEv
  rw [h1]
  simp only [(fEv_i h).2, h2]
/-- a knot's parts lie behind it, from lo on -/
def pKl (kd pt ot : Int → Int) (lo i : Int) : Prop := (2 ≤ kd i → lo ≤ pt i ∧ pt i < i) ∧ (3 ≤ kd i → lo ≤ ot i ∧ ot i < i)
theorem fOp_cg {kd pt ot nm g g' : Int → Int} {lo i : Int} (hl : pKl kd pt ot lo i) (h0 : 0 ≤ kd i) (hg : ∀ j : Int, lo ≤ j → j < i → g j = g' j) : fOp kd pt ot nm g i = fOp kd pt ot nm g' i := by
  unfold fOp
  by_cases e0 : kd i = 0
  · rw [if_pos e0, if_pos e0]
  by_cases e1 : kd i = 1
  · rw [if_neg e0, if_neg e0, if_pos e1, if_pos e1]
  have e2 := hl.1 (by omega)
  rw [if_neg e0, if_neg e0, if_neg e1, if_neg e1, hg _ e2.1 e2.2]
  by_cases e3 : kd i = 2
  · rw [if_pos e3, if_pos e3]
  have e4 := hl.2 (by omega)
  rw [if_neg e3, if_neg e3, hg _ e4.1 e4.2]
/-- two states alike but for the reference's values and its flag -/
def eqK (σ σ' : sx_S) : Prop := ∀ a i : Int, ¬ a = 145 → ¬ (a = 124 ∧ i = 56) → σ' a i = σ a i
theorem eqK.row {σ σ' : sx_S} (h : eqK σ σ') {a : Int} (h1 : ¬ a = 145) (h2 : ¬ a = 124) : σ' a = σ a := funext fun i => h a i h1 (fun z => h2 z.1)
theorem eqK.upv {σ σ' : sx_S} (h : eqK σ σ') {i v : Int} : eqK σ (sx_up σ' 145 i v) := fun a j h1 h2 => by rw [up_a h1]; exact h a j h1 h2
theorem eqK.upf {σ σ' : sx_S} (h : eqK σ σ') {v : Int} : eqK σ (sx_up σ' 124 56 v) := fun a j h1 h2 => by
  unfold sx_up
  rw [if_neg h2]
  exact h a j h1 h2
theorem eqK_rfl (σ : sx_S) : eqK σ σ := fun _ _ _ _ => rfl
theorem eqK_pts : ptL.all (fun q => decide (¬ q.1 = 145 ∧ ¬ (q.1 = 124 ∧ q.2.1 = 56))) = true := by decide +kernel
theorem eqK.pt {σ σ' : sx_S} (h : eqK σ σ') (hT : PT σ) : PT σ' := hT.fr (fun q hq => by
  have h1 := of_decide_eq_true (List.all_eq_true.mp eqK_pts q hq)
  exact h _ _ h1.1 h1.2)
/-- the values are within bounds, the flag is a flag -/
def SCK (σ : sx_S) : Prop := (∀ j : Int, 0 ≤ j → j < 64 → pB12 (σ 145 j)) ∧ (σ 124 56 = 0 ∨ σ 124 56 = 1)
theorem SCK.upv {σ : sx_S} (h : SCK σ) {i v : Int} (hv : pB12 v) : SCK (sx_up σ 145 i v) := by
  refine ⟨fun j h0 h1 => ?_, ?_⟩
  · by_cases e : j = i
    · rw [e, up_s]; exact hv
    · rw [up_i e]; exact h.1 j h0 h1
  · rw [up_a (by decide)]; exact h.2
theorem SCK.upf {σ : sx_S} (h : SCK σ) {v : Int} (hv : v = 0 ∨ v = 1) : SCK (sx_up σ 124 56 v) := by
  refine ⟨fun j h0 h1 => ?_, ?_⟩
  · rw [up_a (by decide)]; exact h.1 j h0 h1
  · rw [up_s]; exact hv
/-- how far the values are: the flag says whether one failed -/
def KV (kd pt ot nm : Int → Int) (lo i : Int) (σ' : sx_S) : Prop := (σ' 124 56 = 0 → ∃ g, fEv kd pt ot nm lo (i - lo).toNat = some g ∧ ∀ j : Int, lo ≤ j → j < i → σ' 145 j = g j) ∧ (σ' 124 56 = 1 → fEv kd pt ot nm lo (i - lo).toNat = none)
theorem KV_0 {kd pt ot nm : Int → Int} {lo : Int} {σ' : sx_S} (h : σ' 124 56 = 0) : KV kd pt ot nm lo lo σ' := by
  refine ⟨fun _ => ⟨fun _ => 0, ?_, fun j h1 h2 => by omega⟩, fun z => by omega⟩
  rw [show (lo - lo).toNat = 0 by omega]
  rfl
theorem KV_s {kd pt ot nm : Int → Int} {lo i v : Int} {σ' : sx_S} (hi : lo ≤ i) (hl : pKl kd pt ot lo i) (hk : 0 ≤ kd i) (hf : σ' 124 56 = 0 ∨ σ' 124 56 = 1) (h : KV kd pt ot nm lo i σ') (hv : σ' 124 56 = 0 → fOp kd pt ot nm (σ' 145) i = some v) : KV kd pt ot nm lo (i + 1) (sx_up σ' 145 i v) := by
  unfold KV
  rw [up_a (show ¬ (124 : Int) = 145 by decide)]
  refine ⟨fun z => ?_, fun z => fEv_n hi (h.2 z)⟩
  obtain ⟨g, h1, h2⟩ := h.1 z
  refine ⟨_, fEv_v hi h1 (by rw [← fOp_cg hl hk h2]; exact hv z), fun j h3 h4 => ?_⟩
  by_cases e : j = i
  · rw [e, up_s, if_pos rfl]
  · rw [up_i e, if_neg e]; exact h2 j h3 (by omega)
theorem KV_f {kd pt ot nm : Int → Int} {lo i v : Int} {σ' : sx_S} (hi : lo ≤ i) (hl : pKl kd pt ot lo i) (hk : 0 ≤ kd i) (hf : σ' 124 56 = 0 ∨ σ' 124 56 = 1) (h : KV kd pt ot nm lo i σ') (hv : fOp kd pt ot nm (σ' 145) i = none) : KV kd pt ot nm lo (i + 1) (sx_up (sx_up σ' 124 56 1) 145 i v) := by
  unfold KV
  rw [up_a (show ¬ (124 : Int) = 145 by decide), up_s]
  refine ⟨fun z => absurd z (by decide), fun _ => ?_⟩
  rcases hf with z | z
  · obtain ⟨g, h1, h2⟩ := h.1 z
    exact fEv_f hi h1 (by rw [← fOp_cg hl hk h2]; exact hv)
  · exact fEv_n hi (h.2 z)
set_option maxRecDepth 20000 in
theorem c_Rlaw (hT : PT σ) (hsc0 : SCK σ) {k : Int} (hk : 0 ≤ k ∧ k < 6) (hlo : 0 ≤ σ 137 k ∧ σ 137 k < σ 138 k ∧ σ 138 k ≤ 64) (hkn : ∀ i : Int, σ 137 k ≤ i → i < σ 138 k → pKn (σ 139) (σ 140) (σ 141) i ∧ pKl (σ 139) (σ 140) (σ 141) (σ 137 k) i) (hnb : ∀ j : Int, 0 ≤ j → j < 7 → pB12 (σ 144 j)) (h : ∀ σ' v, eqK σ σ' → SCK σ' → pB12 v → (σ' 124 56 = 0 → ∃ g, fEv (σ 139) (σ 140) (σ 141) (σ 144) (σ 137 k) (σ 138 k - σ 137 k).toNat = some g ∧ v = g (σ 138 k - 1)) → (σ' 124 56 = 1 → fEv (σ 139) (σ 140) (σ 141) (σ 144) (σ 137 k) (σ 138 k - σ 137 k).toNat = none) → Q (some (.inr (.inl v))) shM σ') : sx_Run X 231 [.inr (.inr 124), .inl k] shM σ Q := by
  have r40 := pt_124_40 hT
  have r41 := pt_124_41 hT
  have r55 := pt_124_55 hT
  refine sx_rule2 (own := 12) (cd := kX12_lawOf) (nL := 3) (by decide +kernel) (by decide +kernel) kX12_lawOf_ok (by decide +kernel) (Nat.le_of_ble_eq_true rfl) [12] 40 (fun n t L st _ σ' => (t = 12 ∧ ∃ i : Int, st = [] ∧ L = [some (.inr (.inr (124))), some (.inl (k)), some (.inl (i))] ∧ (eqK σ σ' ∧ SCK σ' ∧ σ 137 k ≤ i ∧ i ≤ σ 138 k ∧ KV (σ 139) (σ 140) (σ 141) (σ 144) (σ 137 k) i σ') ∧ n = (σ 138 k - i).toNat)) ?_ ?_
  · skip
    conv => whnf
    refine ⟨(by first | assumption | rfl), by omega, ?_⟩
    try simp (disch := omega) only [Int.cast_ofNat_Int, up_s, up_a, up_i, mp_a, mp_ge, cp_a, r40, r41, r55]
    conv => whnf
    refine ⟨(by first | assumption | rfl), ?_⟩
    try simp (disch := omega) only [Int.cast_ofNat_Int, up_s, up_a, up_i, mp_a, mp_ge, cp_a, r40, r41, r55]
    conv => whnf
    refine ⟨sx_ixI (by first | assumption | rfl) (by omega) (by omega), ?_⟩
    try simp (disch := omega) only [Int.cast_ofNat_Int, up_s, up_a, up_i, mp_a, mp_ge, cp_a, r40, r41, r55]
    conv => whnf
    refine ⟨_, ⟨rfl, _, rfl, rfl, ?_, rfl⟩⟩
    exact ⟨(eqK_rfl σ).upf, hsc0.upf (Or.inl rfl), by omega, by omega, KV_0 up_s⟩
  · intro n t L st σ' hk
    obtain ⟨rfl, i, rfl, rfl, hc, rfl⟩ := hk
    obtain ⟨heq, hsc, hi0, hi1, hkv⟩ := hc
    have hT' := heq.pt hT
    have f40 := pt_124_40 hT'
    have f41 := pt_124_41 hT'
    have f55 := pt_124_55 hT'
    have e137 : σ' 137 = σ 137 := heq.row (by decide) (by decide)
    have e138 : σ' 138 = σ 138 := heq.row (by decide) (by decide)
    have e139 : σ' 139 = σ 139 := heq.row (by decide) (by decide)
    have e140 : σ' 140 = σ 140 := heq.row (by decide) (by decide)
    have e141 : σ' 141 = σ 141 := heq.row (by decide) (by decide)
    have e144 : σ' 144 = σ 144 := heq.row (by decide) (by decide)
    conv => whnf
    refine ⟨(by first | assumption | rfl), ?_⟩
    try simp (disch := omega) only [Int.cast_ofNat_Int, up_s, up_a, up_i, mp_a, mp_ge, cp_a, r40, r41, r55, e137, e138, f40, f41, f55]
    conv => whnf
    refine ⟨sx_ixI (by first | assumption | rfl) (by omega) (by omega), ?_⟩
    try simp (disch := omega) only [Int.cast_ofNat_Int, up_s, up_a, up_i, mp_a, mp_ge, cp_a, r40, r41, r55, e137, e138, f40, f41, f55]
    conv => whnf
    refine ⟨fun g => ?_, fun g => ?_⟩
    · simp only [sx_cc, Classical.not_not] at g
      conv => whnf
      refine ⟨(by first | assumption | rfl), ?_⟩
      try simp (disch := omega) only [Int.cast_ofNat_Int, up_s, up_a, up_i, mp_a, mp_ge, cp_a, r40, r41, r55, e137, e138, f40, f41, f55]
      conv => whnf
      refine ⟨fun g => ?_, fun g => ?_⟩
      · simp only [sx_cc, Classical.not_not] at g
        conv => whnf
        refine ⟨(by first | assumption | rfl), ?_⟩
        try simp (disch := omega) only [Int.cast_ofNat_Int, up_s, up_a, up_i, mp_a, mp_ge, cp_a, r40, r41, r55, e137, e138, f40, f41, f55]
        conv => whnf
        refine ⟨(by first | assumption | rfl), ?_⟩
        try simp (disch := omega) only [Int.cast_ofNat_Int, up_s, up_a, up_i, mp_a, mp_ge, cp_a, r40, r41, r55, e137, e138, f40, f41, f55]
        conv => whnf
        refine ⟨sx_ixI (by first | assumption | rfl) (by omega) (by omega), ?_⟩
        try simp (disch := omega) only [Int.cast_ofNat_Int, up_s, up_a, up_i, mp_a, mp_ge, cp_a, r40, r41, r55, e137, e138, f40, f41, f55]
        conv => whnf
        refine ⟨⟨by omega, by omega⟩, ?_⟩
        conv => whnf
        refine ⟨sx_ixI (by first | assumption | rfl) (by omega) (by omega), ?_⟩
        try simp (disch := omega) only [Int.cast_ofNat_Int, up_s, up_a, up_i, mp_a, mp_ge, cp_a, r40, r41, r55, e137, e138, f40, f41, f55]
        conv => whnf
        have e9 : i = σ 138 k := by omega
        subst e9
        first | (have z9 : σ' 124 56 = 1 := hsc.2.resolve_left (by omega); exact h _ _ heq hsc ⟨by decide, by decide⟩ (fun z => by omega) hkv.2) | exact h _ _ heq hsc (hsc.1 _ (by omega) (by omega)) (fun z => by obtain ⟨g, y1, y2⟩ := hkv.1 z; exact ⟨g, y1, y2 _ (by omega) (by omega)⟩) (fun z => by omega)
      · simp only [sx_cc, Classical.not_not] at g
        conv => whnf
        have e9 : i = σ 138 k := by omega
        subst e9
        first | (have z9 : σ' 124 56 = 1 := hsc.2.resolve_left (by omega); exact h _ _ heq hsc ⟨by decide, by decide⟩ (fun z => by omega) hkv.2) | exact h _ _ heq hsc (hsc.1 _ (by omega) (by omega)) (fun z => by obtain ⟨g, y1, y2⟩ := hkv.1 z; exact ⟨g, y1, y2 _ (by omega) (by omega)⟩) (fun z => by omega)
    · simp only [sx_cc, Classical.not_not] at g
      conv => whnf
      refine ⟨(by first | assumption | rfl), ?_⟩
      try simp (disch := omega) only [Int.cast_ofNat_Int, up_s, up_a, up_i, mp_a, mp_ge, cp_a, r40, r41, r55, e137, e138, f40, f41, f55]
      conv => whnf
      refine ⟨Nat.le_of_ble_eq_true rfl, Nat.le_of_ble_eq_true rfl, (by first | assumption | rfl), ?_⟩
      refine c_Rvalue hT' hsc.2 ⟨by omega, by omega⟩ (by rw [e139, e140, e141]; exact (hkn i hi0 (by omega)).1) hsc.1 (by rw [e144]; exact hnb) (fun v hvv hve => ?_) (fun hve => ?_)
      · rw [e139, e140, e141, e144] at hve
        conv => whnf
        refine ⟨sx_ixI (by first | assumption | rfl) (by omega) (by omega), ?_⟩
        conv => whnf
        refine ⟨⟨by omega, by omega⟩, ?_⟩
        conv => whnf
        refine ⟨_, ?_, ⟨rfl, _, rfl, rfl, ?_, rfl⟩⟩
        · omega
        · first | exact ⟨heq.upv, hsc.upv hvv, by omega, by omega, KV_s hi0 (hkn i hi0 (by omega)).2 (hkn i hi0 (by omega)).1.1 hsc.2 hkv hve⟩ | exact ⟨heq.upf.upv, (hsc.upf (Or.inr rfl)).upv ⟨by decide, by decide⟩, by omega, by omega, KV_f hi0 (hkn i hi0 (by omega)).2 (hkn i hi0 (by omega)).1.1 hsc.2 hkv hve⟩
      · rw [e139, e140, e141, e144] at hve
        conv => whnf
        refine ⟨sx_ixI (by first | assumption | rfl) (by omega) (by omega), ?_⟩
        conv => whnf
        refine ⟨⟨by omega, by omega⟩, ?_⟩
        conv => whnf
        refine ⟨_, ?_, ⟨rfl, _, rfl, rfl, ?_, rfl⟩⟩
        · omega
        · first | exact ⟨heq.upv, hsc.upv hvv, by omega, by omega, KV_s hi0 (hkn i hi0 (by omega)).2 (hkn i hi0 (by omega)).1.1 hsc.2 hkv hve⟩ | exact ⟨heq.upf.upv, (hsc.upf (Or.inr rfl)).upv ⟨by decide, by decide⟩, by omega, by omega, KV_f hi0 (hkn i hi0 (by omega)).2 (hkn i hi0 (by omega)).1.1 hsc.2 hkv hve⟩
end SXK4
