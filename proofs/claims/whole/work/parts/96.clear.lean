/-! A PLAN CLEARED (by wip/whole) -/
section SXO1
variable {X : sx_X} {Q : sx_R} {p : Int} {σ σ0 σ' σ1 σ2 : sx_S} {P : aP}
abbrev FPc (p a i : Int) : Prop := (a = p ∧ (i = 0 ∨ i = 1 ∨ i = 4 ∨ i = 6 ∨ i = 13 ∨ i = 14)) ∨ a = p + 1 ∨ a = p + 2 ∨ a = p + 10 ∨ a = p + 13 ∨ a = p + 14
theorem FPc_pts : ([2, 17] : List Int).all (fun s => ptL.all (fun q => decide (¬ FPc s q.1 q.2.1))) = true := by decide +kernel
theorem fr.ptpc {p : Int} {σ σ' : sx_S} (h : fr (FPc p) σ σ') (hp : isP p) (hT : PT σ) : PT σ' := hT.fr (fun q hq => h _ _ (by
  have h1 := List.all_eq_true.mp FPc_pts p (by rcases hp with e | e <;> subst e <;> decide)
  exact of_decide_eq_true (List.all_eq_true.mp h1 q hq)))
/-- a plan with nothing told -/
def pClr (p : Int) (σ : sx_S) : Prop := σ p 0 = 6 ∧ σ p 1 = 5 ∧ σ p 4 = 0 ∧ σ p 6 = 0 ∧ σ p 13 = 0 ∧ σ p 14 = 0 ∧ (∀ c : Int, 0 ≤ c → c < 48 → σ (p + 1) c = 0) ∧ (∀ c : Int, 0 ≤ c → c < 48 → σ (p + 2) c = -1) ∧ (∀ c : Int, 0 ≤ c → c < 24 → σ (p + 10) c = 0) ∧ (∀ c : Int, 0 ≤ c → c < 3 → σ (p + 13) c = 0) ∧ ∀ c : Int, 0 ≤ c → c < 3 → σ (p + 14) c = 0
set_option maxRecDepth 20000 in
theorem c_Pclear (hp : isP p) (hT : PT σ) (h : ∀ σ', fr (FPc p) σ σ' → pClr p σ' → Q none shM σ') : sx_Run X 44 [.inr (.inr p)] shM σ Q := by
  have q0 := lkP0 hp
  have q9 := lkP9 hp
  refine sx_rule0 (own := 5) (cd := kX5_clear) (nL := 1) (by decide +kernel) (by decide +kernel) kX5_clear_ok (by decide +kernel) (Nat.le_of_ble_eq_true rfl) 40 ?_
  conv => whnf
  refine ⟨(by first | assumption | rfl), ?_⟩
  try simp (disch := omega) only [Int.cast_ofNat_Int, up_s, up_a, up_i, mp_a, mp_ge]
  try simp only [t2]
  try simp only [t3]
  try simp only [t9]
  try simp only [t12]
  try simp only [t17]
  try simp only [t18]
  conv => whnf
  refine ⟨(by first | assumption | rfl), ?_⟩
  try simp (disch := omega) only [Int.cast_ofNat_Int, up_s, up_a, up_i, mp_a, mp_ge]
  try simp only [t2]
  try simp only [t3]
  try simp only [t9]
  try simp only [t12]
  try simp only [t17]
  try simp only [t18]
  generalize ea : sx_up (sx_up σ p 0 6) p 1 5 = σa
  have Fa : fr (FPc p) σ σa := fun a i z9 => by unfold FPc at z9; rw [← ea, up_n (by omega), up_n (by omega)]
  have Ta := Fa.ptpc hp hT
  have t2 := ptP_2 Ta hp
  have wa0 : σa p 0 = 6 := by rw [← ea, up_i (by decide), up_s]
  have wa1 : σa p 1 = 5 := by rw [← ea, up_s]
  conv => whnf
  refine ⟨(by first | assumption | rfl), ?_⟩
  try simp (disch := omega) only [Int.cast_ofNat_Int, up_s, up_a, up_i, mp_a, mp_ge]
  try simp only [t2]
  try simp only [t3]
  try simp only [t9]
  try simp only [t12]
  try simp only [t17]
  try simp only [t18]
  conv => whnf
  refine ⟨Nat.le_of_ble_eq_true rfl, Nat.le_of_ble_eq_true rfl, ?_⟩
  refine c_fill (lkP1 hp) (by decide) ?_
  generalize eb : sx_fil σa (p + 1) _ _ = σb
  have Fb : fr (FPc p) σ σb := Fa.trans (fun a i z9 => by unfold FPc at z9; rw [← eb, fil_a (by omega)])
  have Tb := Fb.ptpc hp hT
  have xb : ∀ a i : Int, ¬ a = p + 1 → σb a i = σa a i := fun a i z9 => by rw [← eb, fil_a z9]
  have wb : ∀ c : Int, 0 ≤ c → c < 48 → σb (p + 1) c = 0 := fun c y0 y1 => by rw [← eb, fil_in y0 (show c < ((48 : Nat) : Int) from y1)]
  have t3 := ptP_3 Tb hp
  conv => whnf
  refine ⟨(by first | assumption | rfl), ?_⟩
  try simp (disch := omega) only [Int.cast_ofNat_Int, up_s, up_a, up_i, mp_a, mp_ge]
  try simp only [t2]
  try simp only [t3]
  try simp only [t9]
  try simp only [t12]
  try simp only [t17]
  try simp only [t18]
  conv => whnf
  refine ⟨Nat.le_of_ble_eq_true rfl, Nat.le_of_ble_eq_true rfl, ?_⟩
  refine c_fill (lkP2 hp) (by decide) ?_
  generalize ec : sx_fil σb (p + 2) _ _ = σc
  have Fc : fr (FPc p) σ σc := Fb.trans (fun a i z9 => by unfold FPc at z9; rw [← ec, fil_a (by omega)])
  have Tc := Fc.ptpc hp hT
  have xc : ∀ a i : Int, ¬ a = p + 2 → σc a i = σb a i := fun a i z9 => by rw [← ec, fil_a z9]
  have wc : ∀ c : Int, 0 ≤ c → c < 48 → σc (p + 2) c = (-1) := fun c y0 y1 => by rw [← ec, fil_in y0 (show c < ((48 : Nat) : Int) from y1)]
  
  conv => whnf
  refine ⟨(by first | assumption | rfl), ?_⟩
  try simp (disch := omega) only [Int.cast_ofNat_Int, up_s, up_a, up_i, mp_a, mp_ge]
  try simp only [t2]
  try simp only [t3]
  try simp only [t9]
  try simp only [t12]
  try simp only [t17]
  try simp only [t18]
  conv => whnf
  refine ⟨(by first | assumption | rfl), ?_⟩
  try simp (disch := omega) only [Int.cast_ofNat_Int, up_s, up_a, up_i, mp_a, mp_ge]
  try simp only [t2]
  try simp only [t3]
  try simp only [t9]
  try simp only [t12]
  try simp only [t17]
  try simp only [t18]
  generalize ed : sx_up (sx_up σc p 4 0) p 6 0 = σd
  have Fd : fr (FPc p) σ σd := Fc.trans (fun a i z9 => by unfold FPc at z9; rw [← ed, up_n (by omega), up_n (by omega)])
  have Td := Fd.ptpc hp hT
  have t12 := ptP_12 Td hp
  have t9 : σd (p + 9) 0 = p + 10 := ptF_0 Td hp
  have xd : ∀ a i : Int, ¬ (a = p ∧ (i = 4 ∨ i = 6)) → σd a i = σc a i := fun a i z9 => by rw [← ed, up_n (by omega), up_n (by omega)]
  have wd4 : σd p 4 = 0 := by rw [← ed, up_i (by decide), up_s]
  have wd6 : σd p 6 = 0 := by rw [← ed, up_s]
  conv => whnf
  refine ⟨(by first | assumption | rfl), ?_⟩
  try simp (disch := omega) only [Int.cast_ofNat_Int, up_s, up_a, up_i, mp_a, mp_ge]
  try simp only [t2]
  try simp only [t3]
  try simp only [t9]
  try simp only [t12]
  try simp only [t17]
  try simp only [t18]
  conv => whnf
  refine ⟨(by first | assumption | rfl), ?_⟩
  try simp (disch := omega) only [Int.cast_ofNat_Int, up_s, up_a, up_i, mp_a, mp_ge]
  try simp only [t2]
  try simp only [t3]
  try simp only [t9]
  try simp only [t12]
  try simp only [t17]
  try simp only [t18]
  conv => whnf
  refine ⟨Nat.le_of_ble_eq_true rfl, Nat.le_of_ble_eq_true rfl, ?_⟩
  refine c_fill (lkP10 hp) (by decide) ?_
  generalize ee : sx_fil σd (p + 10) _ _ = σe
  have Fe : fr (FPc p) σ σe := Fd.trans (fun a i z9 => by unfold FPc at z9; rw [← ee, fil_a (by omega)])
  have Te := Fe.ptpc hp hT
  have xe : ∀ a i : Int, ¬ a = p + 10 → σe a i = σd a i := fun a i z9 => by rw [← ee, fil_a z9]
  have we : ∀ c : Int, 0 ≤ c → c < 24 → σe (p + 10) c = 0 := fun c y0 y1 => by rw [← ee, fil_in y0 (show c < ((24 : Nat) : Int) from y1)]
  
  conv => whnf
  refine ⟨(by first | assumption | rfl), ?_⟩
  try simp (disch := omega) only [Int.cast_ofNat_Int, up_s, up_a, up_i, mp_a, mp_ge]
  try simp only [t2]
  try simp only [t3]
  try simp only [t9]
  try simp only [t12]
  try simp only [t17]
  try simp only [t18]
  conv => whnf
  refine ⟨(by first | assumption | rfl), ?_⟩
  try simp (disch := omega) only [Int.cast_ofNat_Int, up_s, up_a, up_i, mp_a, mp_ge]
  try simp only [t2]
  try simp only [t3]
  try simp only [t9]
  try simp only [t12]
  try simp only [t17]
  try simp only [t18]
  generalize ef : sx_up (sx_up σe p 13 0) p 14 0 = σf
  have Ff : fr (FPc p) σ σf := Fe.trans (fun a i z9 => by unfold FPc at z9; rw [← ef, up_n (by omega), up_n (by omega)])
  have Tf := Ff.ptpc hp hT
  have t17 := ptP_17 Tf hp
  have xf : ∀ a i : Int, ¬ (a = p ∧ (i = 13 ∨ i = 14)) → σf a i = σe a i := fun a i z9 => by rw [← ef, up_n (by omega), up_n (by omega)]
  have wf13 : σf p 13 = 0 := by rw [← ef, up_i (by decide), up_s]
  have wf14 : σf p 14 = 0 := by rw [← ef, up_s]
  conv => whnf
  refine ⟨(by first | assumption | rfl), ?_⟩
  try simp (disch := omega) only [Int.cast_ofNat_Int, up_s, up_a, up_i, mp_a, mp_ge]
  try simp only [t2]
  try simp only [t3]
  try simp only [t9]
  try simp only [t12]
  try simp only [t17]
  try simp only [t18]
  conv => whnf
  refine ⟨Nat.le_of_ble_eq_true rfl, Nat.le_of_ble_eq_true rfl, ?_⟩
  refine c_fill (lkP13 hp) (by decide) ?_
  generalize eg : sx_fil σf (p + 13) _ _ = σg
  have Fg : fr (FPc p) σ σg := Ff.trans (fun a i z9 => by unfold FPc at z9; rw [← eg, fil_a (by omega)])
  have Tg := Fg.ptpc hp hT
  have xg : ∀ a i : Int, ¬ a = p + 13 → σg a i = σf a i := fun a i z9 => by rw [← eg, fil_a z9]
  have wg : ∀ c : Int, 0 ≤ c → c < 3 → σg (p + 13) c = 0 := fun c y0 y1 => by rw [← eg, fil_in y0 (show c < ((3 : Nat) : Int) from y1)]
  have t18 := ptP_18 Tg hp
  conv => whnf
  refine ⟨(by first | assumption | rfl), ?_⟩
  try simp (disch := omega) only [Int.cast_ofNat_Int, up_s, up_a, up_i, mp_a, mp_ge]
  try simp only [t2]
  try simp only [t3]
  try simp only [t9]
  try simp only [t12]
  try simp only [t17]
  try simp only [t18]
  conv => whnf
  refine ⟨Nat.le_of_ble_eq_true rfl, Nat.le_of_ble_eq_true rfl, ?_⟩
  refine c_fill (lkP14 hp) (by decide) ?_
  generalize eh : sx_fil σg (p + 14) _ _ = σh
  have Fh : fr (FPc p) σ σh := Fg.trans (fun a i z9 => by unfold FPc at z9; rw [← eh, fil_a (by omega)])
  have Th := Fh.ptpc hp hT
  have xh : ∀ a i : Int, ¬ a = p + 14 → σh a i = σg a i := fun a i z9 => by rw [← eh, fil_a z9]
  have wh : ∀ c : Int, 0 ≤ c → c < 3 → σh (p + 14) c = 0 := fun c y0 y1 => by rw [← eh, fil_in y0 (show c < ((3 : Nat) : Int) from y1)]
  
  conv => whnf
  refine ⟨rfl, ?_⟩
  refine h _ Fh ⟨?_, ?_, ?_, ?_, ?_, ?_, fun c y0 y1 => ?_, fun c y0 y1 => ?_, fun c y0 y1 => ?_, fun c y0 y1 => ?_, wh⟩
  · rw [xh _ _ (by omega), xg _ _ (by omega), xf _ _ (by omega), xe _ _ (by omega), xd _ _ (by omega), xc _ _ (by omega), xb _ _ (by omega)]; exact wa0
  · rw [xh _ _ (by omega), xg _ _ (by omega), xf _ _ (by omega), xe _ _ (by omega), xd _ _ (by omega), xc _ _ (by omega), xb _ _ (by omega)]; exact wa1
  · rw [xh _ _ (by omega), xg _ _ (by omega), xf _ _ (by omega), xe _ _ (by omega)]; exact wd4
  · rw [xh _ _ (by omega), xg _ _ (by omega), xf _ _ (by omega), xe _ _ (by omega)]; exact wd6
  · rw [xh _ _ (by omega), xg _ _ (by omega)]; exact wf13
  · rw [xh _ _ (by omega), xg _ _ (by omega)]; exact wf14
  · rw [xh _ _ (by omega), xg _ _ (by omega), xf _ _ (by omega), xe _ _ (by omega), xd _ _ (by omega), xc _ _ (by omega)]; exact wb c y0 y1
  · rw [xh _ _ (by omega), xg _ _ (by omega), xf _ _ (by omega), xe _ _ (by omega), xd _ _ (by omega)]; exact wc c y0 y1
  · rw [xh _ _ (by omega), xg _ _ (by omega), xf _ _ (by omega)]; exact we c y0 y1
  · rw [xh _ _ (by omega)]; exact wg c y0 y1
end SXO1
