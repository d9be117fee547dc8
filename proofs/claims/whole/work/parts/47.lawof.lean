/-! RECKONING: the law of a mark, of a walker, class side (by wip/whole) -/
section SXK8
variable {X : sx_X} {σ σ0 : sx_S} {s p : Int} {Q : sx_R}
def fLv (o : Option Int) : Int := match o with
  | none => -9223372036854775808
  | some v => v
/-- law k of plan p answers o by the names nm -/
def pLw (code num st en : Int → Int) (k : Int) (nm : Int → Int) (o : Option Int) : Prop := (en k ≤ st k ∧ o = none) ∨ ∃ (kd pt ot dp : Int → Int) (ix : Int → Int → Int), 0 ≤ st k ∧ st k < en k ∧ en k ≤ 64 ∧ pW code num kd pt ot dp ix (st k) (en k) ∧ o = fLaw kd pt ot nm (st k) (en k)
theorem c_Ktell (hT : PT σ) (hp : isP p) (hsc0 : SCC σ) {k : Int} {nm : Int → Int} {o : Option Int} (hk : 0 ≤ k ∧ k < 3) (ho : pLw (σ (p + 11)) (σ (p + 12)) (σ (p + 13)) (σ (p + 14)) k nm o) (hnm : ∀ c : Int, 10 ≤ c → c ≤ 16 → σ 38 (c - 10) = nm (fPn c)) (hnb : ∀ j : Int, 0 ≤ j → j < 7 → pB12 (σ 38 j)) (h : ∀ σ', eqC σ σ' → SCC σ' → (∀ x, o = some x → pB12 x) → Q (some (.inr (.inl (fLv o)))) shM σ') : sx_Run X 57 [.inr (.inr 37), .inr (.inr p), .inl k] shM σ Q := by
  rcases ho with ⟨h1, rfl⟩ | ⟨kd, pt, ot, dp, ix, h1, h2, h3, h4, rfl⟩
  · exact c_Kwork0 hT hp hk h1 (h _ (eqC_rfl σ).upf (hsc0.upf (Or.inl rfl)) (fun x z => absurd z (by simp)))
  · refine c_Kwork hT hp hsc0 hk rfl rfl ⟨h1, h2, h3⟩ h4 hnm hnb (fun σ' v heq hsc hs hn => ?_)
    cases e : fEv kd pt ot nm (σ (p + 13) k) (σ (p + 14) k - σ (p + 13) k).toNat with
    | none =>
      have h5 := h σ' heq hsc (fun x z => by rw [fLaw_n e] at z; exact absurd z (by simp))
      rw [fLaw_n e] at h5
      rw [hn e]
      exact h5
    | some g =>
      have h6 := hs g e
      have h5 := h σ' heq hsc (fun x z => by rw [fLaw_s e] at z; rw [← Option.some.inj z, ← h6.1]; exact h6.2)
      rw [fLaw_s e] at h5
      rw [h6.1]
      exact h5
/-- two states alike but for the class's scratch -/
def eqD (σ σ' : sx_S) : Prop := ∀ a i : Int, ¬ a = 38 → ¬ a = 39 → ¬ (a = 37 ∧ i = 2) → σ' a i = σ a i
theorem eqD_of {σ σ1 σ' : sx_S} {f : Int → Int} (e : σ1 = sx_mp σ 38 7 f) (h : eqC σ1 σ') : eqD σ σ' := fun a i h1 h2 h3 => by rw [h a i h2 h3, e, mp_a h1]
theorem fPn_bd {c : Int} (h : 10 ≤ c ∧ c ≤ 16) : 0 ≤ fPn c ∧ fPn c < 7 := by unfold fPn; repeat (first | omega | split)
theorem SCC_mp {σ : sx_S} (h : SCC σ) (f : Int → Int) : SCC (sx_mp σ 38 7 f) := by
  refine ⟨fun j h0 h1 => ?_, ?_⟩
  · rw [mp_a (by decide)]; exact h.1 j h0 h1
  · rw [mp_a (by decide)]; exact h.2
/-- behind setNames: work -/
theorem c_Ktell2 (hT : PT σ) (hp : isP p) (hsc0 : SCC σ) {k : Int} {nm : Int → Int} {o : Option Int} (hk : 0 ≤ k ∧ k < 3) (ho : pLw (σ (p + 11)) (σ (p + 12)) (σ (p + 13)) (σ (p + 14)) k nm o) (hnb : ∀ j : Int, 0 ≤ j → j < 7 → pB12 (nm j)) (h : ∀ σ', eqD σ σ' → SCC σ' → (∀ x, o = some x → pB12 x) → Q (some (.inr (.inl (fLv o)))) shM σ') : sx_Run X 57 [.inr (.inr 37), .inr (.inr p), .inl k] shM (sx_mp σ 38 7 (fun j => nm (fPn (j + 10)))) Q := by
  have hpz : p + 14 < 38 := by rcases hp with h9 | h9 <;> omega
  have e : ∀ a : Int, ¬ a = 38 → sx_mp σ 38 7 (fun j => nm (fPn (j + 10))) a = σ a := fun a ha => funext fun i => mp_a ha
  refine c_Ktell (PT_mp hT lk_38 (by decide)) hp (SCC_mp hsc0 _) hk (by rw [e _ (by omega), e _ (by omega), e _ (by omega), e _ (by omega)]; exact ho) (fun c h1 h2 => ?_) (fun j h1 h2 => ?_) (fun σ' heq hsc hb => h σ' (eqD_of rfl heq) hsc hb)
  · rw [mp_in (by omega) (by omega), show c - 10 + 10 = c by omega]
  · rw [mp_in h1 h2]
    have h3 := fPn_bd (c := j + 10) ⟨by omega, by omega⟩
    exact hnb _ h3.1 h3.2
set_option maxRecDepth 20000 in
theorem c_Sdeeplaw (hT : PT σ) (hs : isS s) (hp : isP p) (ep : σ s 1 = p) (hd : PD σ p) (hsc0 : SCC σ) {w c : Int} {o : Option Int} (hw : 0 ≤ w ∧ w < 5) (hc : 0 ≤ c ∧ c < 48) (hh : 0 ≤ σ (p + 8) w ∧ σ (p + 8) w < 48) (hnb : ∀ j : Int, 0 ≤ j → j < 7 → pB12 ((fNm (σ (p + 6) w) (σ (p + 7) w) (fFar (σ p 0) c (σ (p + 8) w)) 0 0 (σ s 8) (fB (σ (p + 2) c = σ (p + 5) w))) j)) (ho : pLw (σ (p + 11)) (σ (p + 12)) (σ (p + 13)) (σ (p + 14)) 2 (fNm (σ (p + 6) w) (σ (p + 7) w) (fFar (σ p 0) c (σ (p + 8) w)) 0 0 (σ s 8) (fB (σ (p + 2) c = σ (p + 5) w))) o) (h : ∀ σ', eqD σ σ' → SCC σ' → (∀ x, o = some x → pB12 x) → Q (some (.inr (.inl (fLv o)))) shM σ') : sx_Run X 81 [.inr (.inr s), .inl w, .inl c] shM σ Q := by
  have k0 := lkS0 hs
  have s0 := ptS_0 hT hs
  have hpz : p + 20 < 38 := by rcases hp with h9 | h9 <;> omega
  have hsz : 40 ≤ s := by rcases hs with h9 | h9 | h9 <;> omega
  have hk2 : (0 : Int) ≤ 2 ∧ (2 : Int) < 3 := by decide
  refine sx_rule0 (own := 9) (cd := kX9_deepLaw) (nL := 3) (by decide +kernel) (by decide +kernel) kX9_deepLaw_ok (by decide +kernel) (Nat.le_of_ble_eq_true rfl) 40 ?_
  conv => whnf
  refine ⟨Nat.le_of_ble_eq_true rfl, Nat.le_of_ble_eq_true rfl, (by first | assumption | rfl), ?_⟩
  refine c_Ssetnames hT hs hp ep hd hw hc hh ?_
  conv => whnf
  refine ⟨(by first | assumption | rfl), ?_⟩
  try simp (disch := omega) only [Int.cast_ofNat_Int, up_s, up_a, up_i, mp_a, mp_ge, cp_a, s0, ep]
  conv => whnf
  refine ⟨(by first | assumption | rfl), ?_⟩
  try simp (disch := omega) only [Int.cast_ofNat_Int, up_s, up_a, up_i, mp_a, mp_ge, cp_a, s0, ep]
  conv => whnf
  refine ⟨Nat.le_of_ble_eq_true rfl, Nat.le_of_ble_eq_true rfl, (by first | assumption | rfl), ?_⟩
  refine c_Ktell2 hT hp hsc0 hk2 ho hnb ?_
  intro σ' heq hsc hb9
  conv => whnf
  exact h σ' heq hsc hb9
set_option maxRecDepth 20000 in
theorem c_Slawof (hT : PT σ) (hs : isS s) (hp : isP p) (ep : σ s 1 = p) (hd : PD σ p) (hsc0 : SCC σ) {k m : Int} {o : Option Int} (hk : 0 ≤ k ∧ k < 3) (hm : 0 ≤ m ∧ m < 90) (hw : 0 ≤ σ (s + 5) m ∧ σ (s + 5) m < 5) (hc : 0 ≤ σ (s + 6) m ∧ σ (s + 6) m < 48) (hh : 0 ≤ σ (p + 8) (σ (s + 5) m) ∧ σ (p + 8) (σ (s + 5) m) < 48) (hag : 0 ≤ σ s 7 ∧ σ s 7 ≤ 9999 ∧ 0 ≤ σ (s + 8) m ∧ σ (s + 8) m ≤ 9999) (hnb : ∀ j : Int, 0 ≤ j → j < 7 → pB12 ((fNm (σ (p + 6) (σ (s + 5) m)) (σ (p + 7) (σ (s + 5) m)) (fFar (σ p 0) (σ (s + 6) m) (σ (p + 8) (σ (s + 5) m))) (σ (s + 9) m) (σ s 7 - σ (s + 8) m) (σ s 8) (fB (σ (p + 2) (σ (s + 6) m) = σ (p + 5) (σ (s + 5) m)))) j)) (ho : pLw (σ (p + 11)) (σ (p + 12)) (σ (p + 13)) (σ (p + 14)) k (fNm (σ (p + 6) (σ (s + 5) m)) (σ (p + 7) (σ (s + 5) m)) (fFar (σ p 0) (σ (s + 6) m) (σ (p + 8) (σ (s + 5) m))) (σ (s + 9) m) (σ s 7 - σ (s + 8) m) (σ s 8) (fB (σ (p + 2) (σ (s + 6) m) = σ (p + 5) (σ (s + 5) m)))) o) (h : ∀ σ', eqD σ σ' → SCC σ' → (∀ x, o = some x → pB12 x) → Q (some (.inr (.inl (fLv o)))) shM σ') : sx_Run X 80 [.inr (.inr s), .inl k, .inl m] shM σ Q := by
  have k0 := lkS0 hs
  have s0 := ptS_0 hT hs
  have hpz : p + 20 < 38 := by rcases hp with h9 | h9 <;> omega
  have hsz : 40 ≤ s := by rcases hs with h9 | h9 | h9 <;> omega
  have hk2 : (0 : Int) ≤ 2 ∧ (2 : Int) < 3 := by decide
  have k4 := lkS4 hs
  have k5 := lkS5 hs
  have k6 := lkS6 hs
  have k8 := lkS8 hs
  have k9 := lkS9 hs
  have m1 := ptM_1 hT hs
  have m2 := ptM_2 hT hs
  have m4 := ptM_4 hT hs
  have m5 := ptM_5 hT hs
  have s5 := ptS_5 hT hs
  refine sx_rule0 (own := 9) (cd := kX9_lawOfMark) (nL := 3) (by decide +kernel) (by decide +kernel) kX9_lawOfMark_ok (by decide +kernel) (Nat.le_of_ble_eq_true rfl) 40 ?_
  conv => whnf
  refine ⟨(by first | assumption | rfl), ?_⟩
  try simp (disch := omega) only [Int.cast_ofNat_Int, up_s, up_a, up_i, mp_a, mp_ge, cp_a, s0, ep, s5, m1, m2, m4, m5]
  conv => whnf
  refine ⟨(by first | assumption | rfl), ?_⟩
  try simp (disch := omega) only [Int.cast_ofNat_Int, up_s, up_a, up_i, mp_a, mp_ge, cp_a, s0, ep, s5, m1, m2, m4, m5]
  conv => whnf
  refine ⟨sx_ixI (by first | assumption | rfl) (by omega) (by omega), ?_⟩
  try simp (disch := omega) only [Int.cast_ofNat_Int, up_s, up_a, up_i, mp_a, mp_ge, cp_a, s0, ep, s5, m1, m2, m4, m5]
  conv => whnf
  refine ⟨(by first | assumption | rfl), ?_⟩
  try simp (disch := omega) only [Int.cast_ofNat_Int, up_s, up_a, up_i, mp_a, mp_ge, cp_a, s0, ep, s5, m1, m2, m4, m5]
  conv => whnf
  refine ⟨(by first | assumption | rfl), ?_⟩
  try simp (disch := omega) only [Int.cast_ofNat_Int, up_s, up_a, up_i, mp_a, mp_ge, cp_a, s0, ep, s5, m1, m2, m4, m5]
  conv => whnf
  refine ⟨sx_ixI (by first | assumption | rfl) (by omega) (by omega), ?_⟩
  try simp (disch := omega) only [Int.cast_ofNat_Int, up_s, up_a, up_i, mp_a, mp_ge, cp_a, s0, ep, s5, m1, m2, m4, m5]
  conv => whnf
  refine ⟨(by first | assumption | rfl), ?_⟩
  try simp (disch := omega) only [Int.cast_ofNat_Int, up_s, up_a, up_i, mp_a, mp_ge, cp_a, s0, ep, s5, m1, m2, m4, m5]
  conv => whnf
  refine ⟨(by first | assumption | rfl), ?_⟩
  try simp (disch := omega) only [Int.cast_ofNat_Int, up_s, up_a, up_i, mp_a, mp_ge, cp_a, s0, ep, s5, m1, m2, m4, m5]
  conv => whnf
  refine ⟨sx_ixI (by first | assumption | rfl) (by omega) (by omega), ?_⟩
  try simp (disch := omega) only [Int.cast_ofNat_Int, up_s, up_a, up_i, mp_a, mp_ge, cp_a, s0, ep, s5, m1, m2, m4, m5]
  conv => whnf
  refine ⟨(by first | assumption | rfl), ?_⟩
  try simp (disch := omega) only [Int.cast_ofNat_Int, up_s, up_a, up_i, mp_a, mp_ge, cp_a, s0, ep, s5, m1, m2, m4, m5]
  conv => whnf
  refine ⟨(by first | assumption | rfl), ?_⟩
  try simp (disch := omega) only [Int.cast_ofNat_Int, up_s, up_a, up_i, mp_a, mp_ge, cp_a, s0, ep, s5, m1, m2, m4, m5]
  conv => whnf
  refine ⟨(by first | assumption | rfl), ?_⟩
  try simp (disch := omega) only [Int.cast_ofNat_Int, up_s, up_a, up_i, mp_a, mp_ge, cp_a, s0, ep, s5, m1, m2, m4, m5]
  conv => whnf
  refine ⟨sx_ixI (by first | assumption | rfl) (by omega) (by omega), ?_⟩
  try simp (disch := omega) only [Int.cast_ofNat_Int, up_s, up_a, up_i, mp_a, mp_ge, cp_a, s0, ep, s5, m1, m2, m4, m5]
  conv => whnf
  refine ⟨⟨by omega, by omega⟩, ?_⟩
  conv => whnf
  refine ⟨Nat.le_of_ble_eq_true rfl, Nat.le_of_ble_eq_true rfl, (by first | assumption | rfl), ?_⟩
  refine c_Ssetnames hT hs hp ep hd hw hc hh ?_
  conv => whnf
  refine ⟨(by first | assumption | rfl), ?_⟩
  try simp (disch := omega) only [Int.cast_ofNat_Int, up_s, up_a, up_i, mp_a, mp_ge, cp_a, s0, ep, s5, m1, m2, m4, m5]
  conv => whnf
  refine ⟨(by first | assumption | rfl), ?_⟩
  try simp (disch := omega) only [Int.cast_ofNat_Int, up_s, up_a, up_i, mp_a, mp_ge, cp_a, s0, ep, s5, m1, m2, m4, m5]
  conv => whnf
  refine ⟨Nat.le_of_ble_eq_true rfl, Nat.le_of_ble_eq_true rfl, (by first | assumption | rfl), ?_⟩
  refine c_Ktell2 hT hp hsc0 hk ho hnb ?_
  intro σ' heq hsc hb9
  conv => whnf
  exact h σ' heq hsc hb9
end SXK8
