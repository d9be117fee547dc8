/-! the references stay: where a row of numbers is written, or a field that is no reference -/
theorem ptL_kinds : (ptL.all fun q => decide (0 ≤ q.1) && (decide ((sx_lk shM q.1).1 = 5) || (decide ((sx_lk shM q.1).1 = 0) && decide (sx_tg (sx_ty (sx_lk shM q.1).2 q.2.1.toNat) = 2)))) = true := by decide +kernel
theorem PT_ar {σ σ' : sx_S} {a : Int} {t n : Nat} (hT : PT σ) (ha : sx_lk shM a = (t, n)) (ht : 1 ≤ t ∧ t ≤ 4) (hf : ∀ b, ¬ b = a → σ' b = σ b) : PT σ' := by
  refine hT.fr (fun q hq => ?_)
  rw [hf q.1 (fun z => ?_)]
  have h1 := List.all_eq_true.mp ptL_kinds q hq
  simp only [Bool.and_eq_true, Bool.or_eq_true, decide_eq_true_eq] at h1
  rw [z, ha] at h1
  omega
theorem PT_fd {σ : sx_S} {a v : Int} {ci k : Nat} (hT : PT σ) (ha : sx_lk shM a = (0, ci)) (hk : sx_tg (sx_ty ci k) ≠ 2) : PT (sx_up σ a (k : Int) v) := by
  refine hT.fr (fun q hq => ?_)
  have h1 := List.all_eq_true.mp ptL_kinds q hq
  simp only [Bool.and_eq_true, Bool.or_eq_true, decide_eq_true_eq] at h1
  by_cases e1 : q.1 = a
  · refine up_i (fun z => ?_)
    rw [e1, ha, z] at h1
    rcases h1.2 with h2 | h2
    · omega
    · exact hk h2.2
  · exact up_a e1
theorem PT_up {σ : sx_S} {a i v : Int} {t n : Nat} (hT : PT σ) (ha : sx_lk shM a = (t, n)) (ht : 1 ≤ t ∧ t ≤ 4) : PT (sx_up σ a i v) := PT_ar hT ha ht (fun b hb => funext fun j => up_a hb)
theorem PT_mp {σ : sx_S} {a m : Int} {f : Int → Int} {t n : Nat} (hT : PT σ) (ha : sx_lk shM a = (t, n)) (ht : 1 ≤ t ∧ t ≤ 4) : PT (sx_mp σ a m f) := PT_ar hT ha ht (fun b hb => funext fun j => mp_a hb)
theorem PT_cp {σ : sx_S} {a i b j m : Int} {t n : Nat} (hT : PT σ) (ha : sx_lk shM b = (t, n)) (ht : 1 ≤ t ∧ t ≤ 4) : PT (sx_cp σ a i b j m) := PT_ar hT ha ht (fun d hd => funext fun k => cp_a hd)
theorem PT_fil {σ : sx_S} {a m v : Int} {t n : Nat} (hT : PT σ) (ha : sx_lk shM a = (t, n)) (ht : 1 ≤ t ∧ t ≤ 4) : PT (sx_fil σ a m v) := PT_ar hT ha ht (fun b hb => funext fun j => by unfold sx_fil; rw [if_neg (fun z => hb z.1)])
theorem fil_a {σ : sx_S} {a m v b j : Int} (h : ¬ b = a) : sx_fil σ a m v b j = σ b j := by unfold sx_fil; rw [if_neg (fun z => h z.1)]
theorem fil_in {σ : sx_S} {a m v j : Int} (h0 : 0 ≤ j) (h : j < m) : sx_fil σ a m v a j = v := by unfold sx_fil; rw [if_pos ⟨rfl, h0, h⟩]
theorem up_mp {σ : sx_S} {a b i n v : Int} {f : Int → Int} (h : ¬ a = b) : sx_up (sx_mp σ b n f) a i v = sx_mp (sx_up σ a i v) b n f := by
  funext d j
  by_cases e1 : d = a
  · have e3 : ¬ d = b := fun z => h (e1.symm.trans z)
    simp [sx_up, sx_mp, e3]
  · simp [sx_up, sx_mp, e1]
