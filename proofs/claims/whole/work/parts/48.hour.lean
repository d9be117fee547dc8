/-! AN HOUR, class side (by wip/whole) -/
section SXK9
variable {X : sx_X} {σ σ0 : sx_S} {s p : Int} {Q : sx_R}
theorem eqD.row {σ σ' : sx_S} (h : eqD σ σ') {a : Int} (h1 : ¬ a = 38) (h2 : ¬ a = 39) (h3 : ¬ a = 37) : σ' a = σ a := funext fun i => h a i h1 h2 (fun z => h3 z.1)
theorem eqD_rfl (σ : sx_S) : eqD σ σ := fun _ _ _ _ _ => rfl
theorem eqD_pts : ptL.all (fun q => decide (¬ q.1 = 38 ∧ ¬ q.1 = 39 ∧ ¬ (q.1 = 37 ∧ q.2.1 = 2))) = true := by decide +kernel
theorem eqD.pt {σ σ' : sx_S} (h : eqD σ σ') (hT : PT σ) : PT σ' := hT.fr (fun q hq => by
  have h1 := of_decide_eq_true (List.all_eq_true.mp eqD_pts q hq)
  exact h _ _ h1.1 h1.2.1 h1.2.2)
theorem eqD.trans {σ σ1 σ2 : sx_S} (h : eqD σ σ1) (h' : eqD σ1 σ2) : eqD σ σ2 := fun a i h1 h2 h3 => (h' a i h1 h2 h3).trans (h a i h1 h2 h3)
theorem eqD.up {σ σ' : sx_S} (h : eqD σ σ') {b j v : Int} : eqD (sx_up σ b j v) (sx_up σ' b j v) := fun a i h1 h2 h3 => by
  unfold sx_up
  split
  · rfl
  · exact h a i h1 h2 h3
theorem fLv_bl {o : Option Int} (h : ∀ x, o = some x → pB12 x) (lo df : Int) : (fLv o = -9223372036854775808 ∧ fBl o df lo 99 = df) ∨ (¬ fLv o = -9223372036854775808 ∧ fBl o df lo 99 = fCl lo 99 (fLv o)) := by
  cases o with
  | none => exact Or.inl ⟨rfl, rfl⟩
  | some x =>
    have h1 : -1000000000000 ≤ x ∧ x ≤ 1000000000000 := h x rfl
    exact Or.inr ⟨fun z => by have z1 : x = -9223372036854775808 := z; omega, rfl⟩
theorem fCl_bd {lo v : Int} (h : 0 ≤ lo ∧ lo ≤ 99) : lo ≤ fCl lo 99 v ∧ fCl lo 99 v ≤ 99 := by unfold fCl; repeat (first | omega | split)
theorem fBl_bd {o : Option Int} {lo df : Int} (h : 0 ≤ lo ∧ lo ≤ 99) (hd : 0 ≤ df ∧ df ≤ 99) : 0 ≤ fBl o df lo 99 ∧ fBl o df lo 99 ≤ 99 := by
  cases o with
  | none => exact hd
  | some x => have := fCl_bd (v := x) h; exact ⟨by show 0 ≤ fCl lo 99 x; omega, this.2⟩
theorem c_Sbounded2 {o : Option Int} {lo df : Int} (hb : ∀ x, o = some x → pB12 x) (hlo : 0 ≤ lo ∧ lo ≤ 99) (h : Q (some (.inl (fBl o df lo 99))) shM σ) : sx_Run X 82 [.inr (.inl (fLv o)), .inl lo, .inl df] shM σ Q := by
  rcases fLv_bl hb lo df with ⟨h1, h2⟩ | ⟨h1, h2⟩
  · rw [h2] at h
    exact c_Sbounded hlo (fun _ => h) (fun z => absurd h1 z)
  · rw [h2] at h
    exact c_Sbounded hlo (fun z => absurd z h1) (fun _ => h)
/-- what an hour takes from the open ones: o j the law of mark j -/
def fHr (deep cov : Int → Int) (o : Int → Option Int) : Int → Int := fun j => if 0 < deep j ∧ cov j = 0 then fMax0 (deep j - fBl (o j) 0 0 99) else deep j
theorem SCC_up {σ : sx_S} (h : SCC σ) {a i v : Int} (h1 : ¬ a = 39) (h2 : ¬ a = 37) : SCC (sx_up σ a i v) := by
  refine ⟨fun j h3 h4 => ?_, ?_⟩
  · rw [up_a (fun z => h1 z.symm)]; exact h.1 j h3 h4
  · rw [up_a (fun z => h2 z.symm)]; exact h.2
set_option maxRecDepth 20000 in
theorem c_Shour (hT : PT σ) (hs : isS s) (hp : isP p) (ep : σ s 1 = p) (hd : PD σ p) (hsc0 : SCC σ) (hn : 0 ≤ σ (s + 4) 0 ∧ σ (s + 4) 0 ≤ 90) (hmk : ∀ m : Int, 0 ≤ m → m < σ (s + 4) 0 → (0 ≤ σ (s + 5) m ∧ σ (s + 5) m < 5) ∧ (0 ≤ σ (s + 6) m ∧ σ (s + 6) m < 48) ∧ (0 ≤ σ (s + 8) m ∧ σ (s + 8) m ≤ 9999) ∧ (0 ≤ σ (s + 9) m ∧ σ (s + 9) m ≤ 1000000)) (hho : ∀ i : Int, 0 ≤ i → i < 5 → 0 ≤ σ (p + 8) i ∧ σ (p + 8) i < 48) (hhr : 0 ≤ σ s 7 ∧ σ s 7 ≤ 9999) {o : Int → Option Int} (hnb : ∀ m : Int, 0 ≤ m → m < σ (s + 4) 0 → ∀ j : Int, 0 ≤ j → j < 7 → pB12 ((fNm (σ (p + 6) (σ (s + 5) m)) (σ (p + 7) (σ (s + 5) m)) (fFar (σ p 0) (σ (s + 6) m) (σ (p + 8) (σ (s + 5) m))) (σ (s + 9) m) (σ s 7 - σ (s + 8) m) (σ s 8) (fB (σ (p + 2) (σ (s + 6) m) = σ (p + 5) (σ (s + 5) m)))) j)) (ho : ∀ m : Int, 0 ≤ m → m < σ (s + 4) 0 → pLw (σ (p + 11)) (σ (p + 12)) (σ (p + 13)) (σ (p + 14)) 0 (fNm (σ (p + 6) (σ (s + 5) m)) (σ (p + 7) (σ (s + 5) m)) (fFar (σ p 0) (σ (s + 6) m) (σ (p + 8) (σ (s + 5) m))) (σ (s + 9) m) (σ s 7 - σ (s + 8) m) (σ s 8) (fB (σ (p + 2) (σ (s + 6) m) = σ (p + 5) (σ (s + 5) m)))) (o m)) (h : ∀ σ', eqD (sx_up (sx_mp σ (s + 9) (σ (s + 4) 0) (fHr (σ (s + 9)) (σ (s + 10)) o)) s 7 (σ s 7 + 1)) σ' → SCC σ' → Q none shM σ') : sx_Run X 86 [.inr (.inr s)] shM σ Q := by
  have k0 := lkS0 hs
  have k4 := lkS4 hs
  have k9 := lkS9 hs
  have s5 := ptS_5 hT hs
  have hps := ps_lt hp hs
  have hsz : 40 ≤ s := by rcases hs with h9 | h9 | h9 <;> omega
  have hpz : p + 20 < 38 := by rcases hp with h9 | h9 <;> omega
  refine sx_rule2 (own := 9) (cd := kX9_passHour) (nL := 2) (by decide +kernel) (by decide +kernel) kX9_passHour_ok (by decide +kernel) (Nat.le_of_ble_eq_true rfl) [2] 40 (fun n t L st _ σ' => (t = 2 ∧ ∃ i : Int, st = [] ∧ L = [some (.inr (.inr (s))), some (.inl (i))] ∧ (eqD (sx_mp σ (s + 9) i (fHr (σ (s + 9)) (σ (s + 10)) o)) σ' ∧ SCC σ' ∧ 0 ≤ i ∧ i ≤ σ (s + 4) 0) ∧ n = (σ (s + 4) 0 - i).toNat)) ?_ ?_
  · skip
    conv => whnf
    refine ⟨_, ⟨rfl, _, rfl, rfl, ?_, rfl⟩⟩
    exact ⟨by rw [mp_0]; exact eqD_rfl σ, hsc0, by omega, by omega⟩
  · intro n t L st σ' hk
    obtain ⟨rfl, i, rfl, rfl, hc, rfl⟩ := hk
    obtain ⟨heq, hsc, hi0, hi1⟩ := hc
    have hT' := heq.pt (PT_mp hT k9 (by decide))
    have s5' := ptS_5 hT' hs
    have es4 : σ' (s + 4) = σ (s + 4) := (heq.row (by omega) (by omega) (by omega)).trans (funext fun j => mp_a (by omega))
    have es5 : σ' (s + 5) = σ (s + 5) := (heq.row (by omega) (by omega) (by omega)).trans (funext fun j => mp_a (by omega))
    have es6 : σ' (s + 6) = σ (s + 6) := (heq.row (by omega) (by omega) (by omega)).trans (funext fun j => mp_a (by omega))
    have es8 : σ' (s + 8) = σ (s + 8) := (heq.row (by omega) (by omega) (by omega)).trans (funext fun j => mp_a (by omega))
    have es10 : σ' (s + 10) = σ (s + 10) := (heq.row (by omega) (by omega) (by omega)).trans (funext fun j => mp_a (by omega))
    have es : σ' (s) = σ (s) := (heq.row (by omega) (by omega) (by omega)).trans (funext fun j => mp_a (by omega))
    have ep9 : σ' (p) = σ (p) := (heq.row (by omega) (by omega) (by omega)).trans (funext fun j => mp_a (by omega))
    have ep2 : σ' (p + 2) = σ (p + 2) := (heq.row (by omega) (by omega) (by omega)).trans (funext fun j => mp_a (by omega))
    have ep5 : σ' (p + 5) = σ (p + 5) := (heq.row (by omega) (by omega) (by omega)).trans (funext fun j => mp_a (by omega))
    have ep6 : σ' (p + 6) = σ (p + 6) := (heq.row (by omega) (by omega) (by omega)).trans (funext fun j => mp_a (by omega))
    have ep7 : σ' (p + 7) = σ (p + 7) := (heq.row (by omega) (by omega) (by omega)).trans (funext fun j => mp_a (by omega))
    have ep8 : σ' (p + 8) = σ (p + 8) := (heq.row (by omega) (by omega) (by omega)).trans (funext fun j => mp_a (by omega))
    have ep11 : σ' (p + 11) = σ (p + 11) := (heq.row (by omega) (by omega) (by omega)).trans (funext fun j => mp_a (by omega))
    have ep12 : σ' (p + 12) = σ (p + 12) := (heq.row (by omega) (by omega) (by omega)).trans (funext fun j => mp_a (by omega))
    have ep13 : σ' (p + 13) = σ (p + 13) := (heq.row (by omega) (by omega) (by omega)).trans (funext fun j => mp_a (by omega))
    have ep14 : σ' (p + 14) = σ (p + 14) := (heq.row (by omega) (by omega) (by omega)).trans (funext fun j => mp_a (by omega))
    have e9i : σ' (s + 9) i = σ (s + 9) i := by rw [heq.row (by omega) (by omega) (by omega), mp_ge (by omega)]
    have hmi := hmk i hi0
    conv => whnf
    refine ⟨(by first | assumption | rfl), ?_⟩
    try simp (disch := omega) only [Int.cast_ofNat_Int, up_s, up_a, up_i, mp_a, mp_ge, cp_a, s5, s5', es, es4]
    conv => whnf
    refine ⟨(by first | assumption | rfl), ?_⟩
    try simp (disch := omega) only [Int.cast_ofNat_Int, up_s, up_a, up_i, mp_a, mp_ge, cp_a, s5, s5', es, es4]
    conv => whnf
    refine ⟨fun g => ?_, fun g => ?_⟩
    · simp only [sx_cc, Classical.not_not] at g
      conv => whnf
      refine ⟨(by first | assumption | rfl), ?_⟩
      try simp (disch := omega) only [Int.cast_ofNat_Int, up_s, up_a, up_i, mp_a, mp_ge, cp_a, s5, s5', es, es4]
      conv => whnf
      refine ⟨⟨by omega, by omega⟩, ?_⟩
      conv => whnf
      refine ⟨(by first | assumption | rfl), ?_⟩
      try simp (disch := omega) only [Int.cast_ofNat_Int, up_s, up_a, up_i, mp_a, mp_ge, cp_a, s5, s5', es, es4]
      conv => whnf
      refine ⟨rfl, ?_⟩
      have e9 : i = σ (s + 4) 0 := by omega
      subst e9
      exact h _ heq.up (SCC_up hsc (by omega) (by omega))
    · simp only [sx_cc, Classical.not_not] at g
      conv => whnf
      refine ⟨(by first | assumption | rfl), ?_⟩
      try simp (disch := omega) only [Int.cast_ofNat_Int, up_s, up_a, up_i, mp_a, mp_ge, cp_a, s5, s5', es, es4]
      conv => whnf
      refine ⟨Nat.le_of_ble_eq_true rfl, Nat.le_of_ble_eq_true rfl, (by first | assumption | rfl), ?_⟩
      refine c_Mopen hT' hs (by rw [es4]; exact hn) (fun g1 g2 g3 g4 => ?_) (fun g0 => ?_)
      · rw [e9i] at g3
        rw [es10] at g4
        rw [es4] at g2
        obtain ⟨u1, u2, u3, u4⟩ := hmi g2
        conv => whnf
        refine ⟨fun g => ?_, fun g => ?_⟩
        · exact absurd g (by simp [sx_cc])
        · skip
          conv => whnf
          refine ⟨(by first | assumption | rfl), ?_⟩
          try simp (disch := omega) only [Int.cast_ofNat_Int, up_s, up_a, up_i, mp_a, mp_ge, cp_a, s5, s5', es, es4]
          conv => whnf
          refine ⟨Nat.le_of_ble_eq_true rfl, Nat.le_of_ble_eq_true rfl, (by first | assumption | rfl), ?_⟩
          refine c_Slawof hT' hs hp (by rw [es]; exact ep) (by unfold PD; rw [ep9]; exact hd) hsc (by decide) ⟨by omega, by omega⟩ (by rw [es5]; exact u1) (by rw [es6]; exact u2) (by rw [ep8, es5]; exact hho _ u1.1 u1.2) (by rw [es, es8]; exact ⟨hhr.1, hhr.2, u3.1, u3.2⟩) (by simp only [es4, es5, es6, es8, es10, es, ep9, ep2, ep5, ep6, ep7, ep8, ep11, ep12, ep13, ep14, e9i]; exact hnb i hi0 (by omega)) (by simp only [es4, es5, es6, es8, es10, es, ep9, ep2, ep5, ep6, ep7, ep8, ep11, ep12, ep13, ep14, e9i]; exact ho i hi0 (by omega)) ?_
          intro σ2 heq2 hsc2 hb9
          have hT2 := heq2.pt hT'
          have e92 : σ2 (s + 9) = σ' (s + 9) := heq2.row (by omega) (by omega) (by omega)
          conv => whnf
          refine ⟨Nat.le_of_ble_eq_true rfl, Nat.le_of_ble_eq_true rfl, ?_⟩
          refine c_Sbounded2 hb9 (by decide) ?_
          conv => whnf
          refine ⟨Nat.le_of_ble_eq_true rfl, Nat.le_of_ble_eq_true rfl, (by first | assumption | rfl), ?_⟩
          refine c_Mlessen hT2 hs ⟨by omega, by omega⟩ (by have h9 := fBl_bd (o := o i) (lo := 0) (df := 0) (by decide) (by decide); exact ⟨h9.1, by omega⟩) (by rw [e92, e9i]; exact u4) ?_
          rw [e92, e9i]
          conv => whnf
          refine ⟨⟨by omega, by omega⟩, ?_⟩
          conv => whnf
          refine ⟨_, ?_, ⟨rfl, _, rfl, rfl, ?_, rfl⟩⟩
          · omega
          · first | exact ⟨by rw [← mp_s hi0 (show fMax0 (σ (s + 9) i - fBl (o i) 0 0 99) = (fHr (σ (s + 9)) (σ (s + 10)) o) i from (if_pos ⟨g3, g4⟩).symm)]; exact (heq.trans heq2).up, SCC_up hsc2 (by omega) (by omega), by omega, by omega⟩ | exact ⟨by rw [← mp_n hi0 (show σ (s + 9) i = (fHr (σ (s + 9)) (σ (s + 10)) o) i from (if_neg (by omega)).symm)]; exact heq, hsc, by omega, by omega⟩
      · rw [e9i, es10, es4] at g0
        conv => whnf
        refine ⟨fun g => ?_, fun g => ?_⟩
        · skip
          conv => whnf
          refine ⟨⟨by omega, by omega⟩, ?_⟩
          conv => whnf
          refine ⟨_, ?_, ⟨rfl, _, rfl, rfl, ?_, rfl⟩⟩
          · omega
          · first | exact ⟨by rw [← mp_s hi0 (show fMax0 (σ (s + 9) i - fBl (o i) 0 0 99) = (fHr (σ (s + 9)) (σ (s + 10)) o) i from (if_pos ⟨g3, g4⟩).symm)]; exact (heq.trans heq2).up, SCC_up hsc2 (by omega) (by omega), by omega, by omega⟩ | exact ⟨by rw [← mp_n hi0 (show σ (s + 9) i = (fHr (σ (s + 9)) (σ (s + 10)) o) i from (if_neg (by omega)).symm)]; exact heq, hsc, by omega, by omega⟩
        · exact absurd g (by simp [sx_cc])
end SXK9
