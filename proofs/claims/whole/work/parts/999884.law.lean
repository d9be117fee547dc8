/-! THE LAW: pieces of its body -/
def lw_okc (own : Nat) (mt : sx_Mt) (idx i n : Nat) : Prop := Cond.methodLink (sx_rn own) idx (sx_M i).1 ∈ sx_TB ∧ i < sx_Ms.length ∧ sx_kd i = 0 ∧ (parseMethodDescriptor (sx_M i).1.desc).map (fun d => d.parameters.length + (if (0 : Nat) = 0 then 1 else 0)) = some n ∧ (sx_M i).2.2.2.2.1 + 1 ≤ mt.2.2.2.2.1 ∧ 8 + ((sx_M i).2.2.1 + 11) + (sx_M i).2.2.2.2.2.1 ≤ mt.2.2.2.2.2.1
section LWC
variable {p : Program} {e : Env} {R : Room} {s : State} {m : MethodId} {args : Array Value} {below : List Frame} {meth : Method} {c : Code} {nc ns : Nat} {Q : State → Prop} {X : sx_X} {own : Nat} {mt : sx_Mt}
variable {L : sx_L} {st : List sx_V} {sh : sx_H} {σ : sx_S} {pc : Nat}
theorem lw_callV {idx i n ci : Nat} {R' : sx_R} (hF : sx_Fx p s m args meth c R nc ns X own mt) (hd : decode mt.2.1 pc = .ok (.invokevirtual idx, 3)) (hc : lw_okc own mt idx i n) (hcn : sx_rn ci = (sx_M i).1.cls) (hci : ci < 13) (hn : n ≤ st.length) (hcat : sx_cat (st.drop n) ≤ 8) (hrc : sx_rc (st.drop (n - 1)) sh ci) (hrun : sx_Run X i (st.take n).reverse sh σ R')
    (h : ∀ (r : Option sx_V) (σ' : sx_S), R' r sh σ' → sx_AT p e R s m args below meth c nc ns Q X mt.2.2.1 (pc + 3) L (sx_psh r (st.drop n)) sh σ') : sx_AT p e R s m args below meth c nc ns Q X mt.2.2.1 pc L st sh σ := by
  have hF' := hF
  obtain ⟨hx, hb, hml, hown, hts, hK, hKx, hst, hbs, hRf, hRl, hnc, -⟩ := hF'
  obtain ⟨hl, hi, hkd, hpd, hfr, hlo⟩ := hc
  obtain ⟨w1, w2, w3, w4, w5, w6, w7⟩ := sx_mwords hi
  intro ls H locs hG hO
  obtain ⟨hsim, hlv, hLl, hLo, hS⟩ := hG
  have hOt : sx_okS (st.take n).reverse := fun v hv => hO v (List.mem_of_mem_take (List.mem_reverse.mp hv))
  have hOd : sx_okS (st.drop n) := fun v hv => hO v (List.mem_of_mem_drop hv)
  obtain ⟨k, hpk⟩ : ∃ k, n = k + 1 := by
    simp only [if_pos] at hpd
    cases hp : parseMethodDescriptor (sx_M i).1.desc with
    | none => rw [hp] at hpd; cases hpd
    | some d => rw [hp] at hpd; exact ⟨d.parameters.length, (Option.some.inj hpd).symm⟩
  subst hpk
  obtain ⟨a, r9, er9, hrc⟩ : ∃ a r9, st.drop k = .inr (.inr a) :: r9 ∧ sx_lk sh a = (0, ci) := by
    rw [Nat.add_sub_cancel] at hrc
    unfold sx_rc at hrc
    split at hrc
    · rename_i a r9 er
      exact ⟨a, r9, er, hrc⟩
    · exact hrc.elim
  have edr : st.drop (k + 1) = r9 := by rw [← List.drop_drop, er9]; rfl
  have etk : st.take (k + 1) = st.take k ++ [.inr (.inr a)] := by
    have : st[k]? = some (.inr (.inr a)) := by
      have := List.getElem?_drop (xs := st) (i := k) (j := 0)
      rw [er9] at this
      simpa using this.symm
    rw [List.take_succ, this]
    rfl
  obtain ⟨hat, hlt, ea, ha0, hsh⟩ := sx_ent_at (X := X) (σ := σ) hrc (by omega)
  obtain ⟨cellB, q1, q2, q3⟩ := va_recv (q := (sx_rn ci, sx_cT ci, sx_nf ci)) hK hsim.2.2.1 (sx_cls ci hci) hat
  have emap : ((st.take (k + 1)).reverse.map (sx_tv X.2.2.2.2.1)).toArray = (Value.ref (X.2.2.2.2.1.getD a.toNat 0) :: ((st.take k).reverse.map (sx_tv X.2.2.2.2.1))).toArray := by
    rw [etk, List.reverse_append]
    show (sx_tv X.2.2.2.2.1 (.inr (.inr a)) :: _).toArray = _
    rw [sx_tv_ref ha0]
    rfl
  have hpre := sx_pre (σ := σ) hF hsim hS hOt
  rw [emap] at hpre
  refine sx_after (a := (Value.ref (X.2.2.2.2.1.getD a.toNat 0) :: ((st.take k).reverse.map (sx_tv X.2.2.2.2.1))).toArray) (rest := st.drop (k + 1)) (va_runV (C := sx_rn ci) (b := X.2.2.2.2.1.getD a.toNat 0) (As := (st.take k).reverse.map (sx_tv X.2.2.2.2.1)) (Ts := sx_TB) ⟨hx, hb, hml, hown, hts⟩ (hrun hst) ⟨callB_of (ws' := sx_TB) k hts (sx_good_ws hi) rfl rfl rfl (hts _ w5) (hts _ hl) ⟨w7.1, w7.2, ?_⟩ ⟨by show _ + 1 ≤ _; exact Nat.le_trans hfr hRf, Nat.le_trans hlo hRl⟩, hts _ (w4 hkd).1, by rw [hcn]; exact hts _ (w4 hkd).2⟩ ⟨sx_blind hst, ⟨cellB, q1, q2, q3⟩, hpre⟩ rfl ?_ hlv.1 ?_ ?_ hd hnc) hlv hLl hLo hS hOd h
  · simp only [if_pos] at hpd
    cases hp : parseMethodDescriptor (sx_M i).1.desc with
    | none => rw [hp] at hpd; cases hpd
    | some d =>
      rw [hp] at hpd
      have h9 : d.parameters.length + 1 = k + 1 := Option.some.inj hpd
      simp only [Option.map_some]
      congr 1
      omega
  · simp; omega
  · show st.map (sx_tv X.2.2.2.2.1) = _
    rw [← List.map_reverse, List.reverse_reverse, ← sx_tv_ref ha0, edr]
    have : st = st.take k ++ .inr (.inr a) :: r9 := by rw [← er9, List.take_append_drop]
    conv => lhs; rw [this]
    rw [List.map_append]
    rfl
  · have := sx_catS (ad := X.2.2.2.2.1) (st.drop (k + 1))
    show 2 * 0 + _ ≤ 8
    omega
end LWC
def lw_mt (nm : String) : sx_Mt := (⟨RL, nm, "([I)Z"⟩, code, 7, some .boolean, 14, 528, 0, 0)
def lw_ck (pl idx i n : Nat) : Bool := decide (lw_tbl[pl]? = some (.methodLink RL idx (sx_M i).1)) && (decide (i < sx_Ms.length) && (sx_kd i == 0 && (decide ((parseMethodDescriptor (sx_M i).1.desc).map (fun d => d.parameters.length + 1) = some n) && (decide ((sx_M i).2.2.2.2.1 + 1 ≤ 14) && decide (8 + ((sx_M i).2.2.1 + 11) + (sx_M i).2.2.2.2.2.1 ≤ 528)))))
theorem lw_ck_ok {nm : String} {pl idx i n : Nat} (h : lw_ck pl idx i n = true) : lw_okc 14 (lw_mt nm) idx i n := by
  unfold lw_ck at h
  simp only [Bool.and_eq_true, decide_eq_true_eq, beq_iff_eq] at h
  obtain ⟨h1, h2, h3, h4, h5, h6⟩ := h
  exact ⟨sx_words h1 rfl, h2, h3, h4, h5, h6⟩
/-- what the bytes say, a list of instructions from a place on -/
def lw_dB : List (Instr × Nat) → Nat → Bool
  | [], _ => true
  | I :: is, pc => decide (decode code pc = .ok I) && lw_dB is (pc + I.2)
theorem lw_dB_c {I : Instr × Nat} {is : List (Instr × Nat)} {pc : Nat} (h : lw_dB (I :: is) pc = true) : decode code pc = .ok I ∧ lw_dB is (pc + I.2) = true := by
  unfold lw_dB at h
  simpa [Bool.and_eq_true] using h
def lw_arg (j : Nat) : List (Instr × Nat) := [(.aload_n 0, 1), (.iload 4, 2), (.iconst (j : Int), 1), (.iadd, 1), (.iaload, 1)]
def lw_args (j : Nat) : Nat → List (Instr × Nat)
  | 0 => []
  | n + 1 => lw_arg j ++ lw_args (j + 1) n
theorem lw_dB_a {a b : List (Instr × Nat)} : ∀ {pc : Nat}, lw_dB (a ++ b) pc = true → lw_dB a pc = true ∧ lw_dB b (pc + (a.map (·.2)).sum) = true := by
  induction a with
  | nil => intro pc h; exact ⟨rfl, h⟩
  | cons I a ih =>
    intro pc h
    obtain ⟨h1, h2⟩ := lw_dB_c h
    obtain ⟨h3, h4⟩ := ih h2
    refine ⟨?_, ?_⟩
    · unfold lw_dB
      simp [h1, h3]
    · rw [List.map_cons, List.sum_cons, ← Nat.add_assoc]
      exact h4
/-- the walk of the law: its frame, the script, where it lies -/
def lw_K (p : Program) (s : State) (m : MethodId) (args : Array Value) (meth : Method) (c : Code) (X : sx_X) (b Ln : Nat) (xs : Nat → Int32) : Prop := sx_Fx p s m args meth c room_1 0 0 X 14 (lw_mt meth.name) ∧ va_X b Ln xs s s.heap ∧ b < X.2.2.2.1 ∧ X.2.2.2.2.1.getD 172 0 = b ∧ Ln ≤ 3072
abbrev lw_L (i : Int) (w5 w6 : Option sx_V) : sx_L := [some (.inr (.inr 172)), some (.inr (.inr 0)), some (.inr (.inr 124)), some (.inr (.inr 171)), some (.inl i), w5, w6]
section LWP
variable {p : Program} {e : Env} {s : State} {m : MethodId} {args : Array Value} {below : List Frame} {meth : Method} {c : Code} {nc ns : Nat} {Q : State → Prop} {X : sx_X} {b Ln : Nat} {xs : Nat → Int32}
variable {w5 w6 : Option sx_V} {st : List sx_V} {σ : sx_S} {pc k : Nat}
abbrev lw_A (p : Program) (e : Env) (s : State) (m : MethodId) (args : Array Value) (below : List Frame) (meth : Method) (c : Code) (nc ns : Nat) (Q : State → Prop) (X : sx_X) (pc : Nat) (L : sx_L) (st : List sx_V) (σ : sx_S) : Prop := sx_AT p e room_1 s m args below meth c nc ns Q X 7 pc L st shM σ
theorem lw_1 (hK : lw_K p s m args meth c X b Ln xs) (hR : nc ≤ 601024 ∧ ns ≤ 7293034) {I : Instr} {len : Nat} {w : List Nat} {L : sx_L} {st' : List sx_V} {σ' : sx_S} {L' : sx_L} (hd : decode code pc = .ok (I, len)) (hok : sx_ok1 14 (lw_mt meth.name) pc (len, I, w) = true) (h : sx_st (sx_Run X) (len, I, w) L st shM σ (fun L2 st2 _ σ2 => L2 = L' ∧ st2 = st' ∧ σ2 = σ')) (hn : lw_A p e s m args below meth c nc ns Q X (pc + len) L' st' σ') : lw_A p e s m args below meth c nc ns Q X pc L st σ :=
  sx_st_ok (gx_Fx hK.1 hR) (I := (len, I, w)) hd hok h (fun L2 st2 σ2 hk => by obtain ⟨rfl, rfl, rfl⟩ := hk; exact hn)
/-- a number of the script -/
theorem lw_sld (hK : lw_K p s m args meth c X b Ln xs) {j : Nat} {L : sx_L} (hj : j < Ln) (hd : decode code pc = .ok (.iaload, 1)) (hn : lw_A p e s m args below meth c nc ns Q X (pc + 1) L (.inl (xs j).toInt :: st) σ) : lw_A p e s m args below meth c nc ns Q X pc L (.inl (j : Int) :: .inr (.inr 172) :: st) σ := by
  obtain ⟨hF, hXs, hbX, h172, hLn⟩ := hK
  intro ls H locs hG hO
  have hS := hG.2.2.2.2
  have hbs := hF.2.2.2.2.2.2.2.2.1
  show W p X.1 e room_1 s m args below meth c H locs nc ns Q (F0 m pc ls (.int (Int32.ofInt (j : Int)) :: sx_tv X.2.2.2.2.1 (.inr (.inr 172)) :: st.map (sx_tv X.2.2.2.2.1)))
  rw [sx_tv_ref (by decide), show (172 : Int).toNat = 172 from rfl, h172]
  have hr : sx_r32 (j : Int) := ⟨by omega, by omega⟩
  refine va_sld hF.1 hF.2.1 hXs (by omega) (show ¬ sx_A X b from fun z => by unfold sx_A at z; omega) hS (sx_in hr (by omega) (by omega)) hd ?_
  have h9 := hn ls H locs hG (sx_okS_cons (sx_oki _) (sx_okS_tl (sx_okS_tl hO)))
  rw [List.map_cons] at h9
  rw [sx_cl hr (by omega), show ((j : Int)).toNat = j by omega]
  have e9 : sx_tv X.2.2.2.2.1 (.inl (xs j).toInt) = .int (xs j) := by
    show Value.int (Int32.ofInt (xs j).toInt) = _
    rw [sx_wi]
  rw [e9] at h9
  exact h9
theorem lw_push (hK : lw_K p s m args meth c X b Ln xs) (hR : nc ≤ 601024 ∧ ns ≤ 7293034) {j : Nat} (hj : j ≤ 5) (hk : 6 * k + 6 ≤ Ln) (hd : lw_dB (lw_arg j) pc = true) (hn : lw_A p e s m args below meth c nc ns Q X (pc + 6) (lw_L (6 * (k : Int)) w5 w6) (.inl (xs (6 * k + j)).toInt :: st) σ) : lw_A p e s m args below meth c nc ns Q X pc (lw_L (6 * (k : Int)) w5 w6) st σ := by
  have hLn := hK.2.2.2.2
  obtain ⟨d1, hd⟩ := lw_dB_c hd
  obtain ⟨d2, hd⟩ := lw_dB_c hd
  obtain ⟨d3, hd⟩ := lw_dB_c hd
  obtain ⟨d4, hd⟩ := lw_dB_c hd
  obtain ⟨d5, hd⟩ := lw_dB_c hd
  refine lw_1 (w := []) hK hR d1 rfl ⟨rfl, rfl, rfl⟩ ?_
  refine lw_1 (w := []) hK hR d2 rfl ⟨rfl, rfl, rfl⟩ ?_
  refine lw_1 (w := []) hK hR d3 (by
    show (1 == 1 && decide (sx_r32 (j : Int))) = true
    have : sx_r32 (j : Int) := ⟨by omega, by omega⟩
    simp [this]) ⟨rfl, rfl, rfl⟩ ?_
  refine lw_1 (w := []) hK hR d4 rfl ⟨⟨by omega, by omega⟩, rfl, rfl, rfl⟩ ?_
  rw [show (6 * (k : Int) + (j : Int)) = ((6 * k + j : Nat) : Int) by omega]
  exact lw_sld hK (by omega) d5 hn
abbrev lw_vs (xs : Nat → Int32) (k j n : Nat) : List sx_V := (List.range' j n).map (fun t => .inl (xs (6 * k + t)).toInt)
theorem lw_pushN (hK : lw_K p s m args meth c X b Ln xs) (hR : nc ≤ 601024 ∧ ns ≤ 7293034) (hk : 6 * k + 6 ≤ Ln) : ∀ (n j pc : Nat) (st : List sx_V), j + n ≤ 6 → lw_dB (lw_args j n) pc = true → lw_A p e s m args below meth c nc ns Q X (pc + 6 * n) (lw_L (6 * (k : Int)) w5 w6) ((lw_vs xs k j n).reverse ++ st) σ → lw_A p e s m args below meth c nc ns Q X pc (lw_L (6 * (k : Int)) w5 w6) st σ := by
  intro n
  induction n with
  | zero =>
    intro j pc st _ _ h
    rw [Nat.mul_zero, Nat.add_zero] at h
    exact h
  | succ n ih =>
    intro j pc st hj hd h
    obtain ⟨h1, h2⟩ := lw_dB_a (a := lw_arg j) (b := lw_args (j + 1) n) hd
    refine lw_push hK hR (by omega) hk h1 (ih (j + 1) (pc + 6) _ (by omega) h2 ?_)
    have e1 : (lw_vs xs k j (n + 1)).reverse ++ st = (lw_vs xs k (j + 1) n).reverse ++ (.inl (xs (6 * k + j)).toInt :: st) := by
      show ((List.range' j (n + 1)).map _).reverse ++ st = _
      rw [List.range'_succ, List.map_cons, List.reverse_cons, List.append_assoc]
      rfl
    rw [e1, show pc + 6 * (n + 1) = pc + 6 + 6 * n by omega] at h
    exact h
def lw_code (n idx1 idx2 : Nat) (off : Int) : List (Instr × Nat) := (.aload_n 1, 1) :: (lw_args 1 n ++ ((.invokevirtual idx1, 3) :: (.aload_n 2, 1) :: (lw_args 1 n ++ [(.invokevirtual idx2, 3), (.if_icmp .eq off, 3)])))
theorem lw_as (j n : Nat) : ((lw_args j n).map (·.2)).sum = 6 * n := by
  induction n generalizing j with
  | zero => rfl
  | succ n ih =>
    show ((lw_arg j ++ lw_args (j + 1) n).map (·.2)).sum = _
    rw [List.map_append, List.sum_append, ih]
    show 6 + 6 * n = _
    omega
theorem lw_vl (k j n : Nat) : (lw_vs xs k j n).length = n := by simp [lw_vs]
/-- a call of a method of ours, its arguments on the stack -/
theorem lw_call (hK : lw_K p s m args meth c X b Ln xs) (hR : nc ≤ 601024 ∧ ns ≤ 7293034) {idx i ci : Nat} {a : Int} {vs : List sx_V} {L : sx_L} {R' : sx_R} {rest : List sx_V} (hd : decode code pc = .ok (.invokevirtual idx, 3)) (hc : lw_okc 14 (lw_mt meth.name) idx i (vs.length + 1)) (hcn : sx_rn ci = (sx_M i).1.cls) (hci : ci < 13) (ha : sx_lk shM a = (0, ci)) (hcat : sx_cat rest ≤ 8) (hrun : sx_Run X i (.inr (.inr a) :: vs) shM σ R') (h : ∀ (r : Option sx_V) (σ' : sx_S), R' r shM σ' → lw_A p e s m args below meth c nc ns Q X (pc + 3) L (sx_psh r rest) σ') : lw_A p e s m args below meth c nc ns Q X pc L (vs.reverse ++ .inr (.inr a) :: rest) σ := by
  have e1 : (vs.reverse ++ .inr (.inr a) :: rest).drop (vs.length + 1) = rest := by
    rw [← List.length_reverse (as := vs), ← List.drop_drop, List.drop_left]
    rfl
  have e2 : (vs.reverse ++ .inr (.inr a) :: rest).drop (vs.length + 1 - 1) = .inr (.inr a) :: rest := by
    rw [Nat.add_sub_cancel, ← List.length_reverse (as := vs), List.drop_left]
  have e3 : ((vs.reverse ++ .inr (.inr a) :: rest).take (vs.length + 1)).reverse = .inr (.inr a) :: vs := by
    have : (vs.reverse ++ .inr (.inr a) :: rest).take (vs.length + 1) = vs.reverse ++ [.inr (.inr a)] := by
      have h9 : List.take (vs.length + 1) vs.reverse = vs.reverse := List.take_of_length_le (by simp)
      rw [List.take_append, h9]
      simp
    rw [this]
    simp
  refine lw_callV (gx_Fx hK.1 hR) (mt := lw_mt meth.name) (n := vs.length + 1) (ci := ci) hd hc hcn hci (by simp) (by rw [e1]; exact hcat) (by rw [e2]; exact ha) (by rw [e3]; exact hrun) (fun r σ' hr => by rw [e1]; exact h r σ' hr)
/-- A CASE of the law whose two answers are ints -/
theorem lw_caseI (hK : lw_K p s m args meth c X b Ln xs) (hR : nc ≤ 601024 ∧ ns ≤ 7293034) (hk : 6 * k + 6 ≤ Ln) {n idx1 idx2 i j p1 p2 : Nat} {off : Int} (hn : n ≤ 5) (hd : lw_dB (lw_code n idx1 idx2 off) pc = true) (ht : ((pc + 8 + 12 * n : Nat) : Int) + off = (1770 : Nat)) (h1 : lw_ck p1 idx1 i (n + 1) = true) (h2 : lw_ck p2 idx2 j (n + 1) = true) (c1 : sx_rn 11 = (sx_M i).1.cls) (c2 : sx_rn 12 = (sx_M j).1.cls) (hj : jI X i j (lw_vs xs k 1 n) (k : Int) σ)
    (hnx : ∀ σ', Inv ((k : Int) + 1) σ' → lw_A p e s m args below meth c nc ns Q X 1770 (lw_L (6 * (k : Int)) w5 w6) [] σ') : lw_A p e s m args below meth c nc ns Q X pc (lw_L (6 * (k : Int)) w5 w6) [] σ := by
  unfold lw_code at hd
  obtain ⟨d1, hd⟩ := lw_dB_c hd
  obtain ⟨da, hd⟩ := lw_dB_a hd
  rw [lw_as] at hd
  obtain ⟨d2, hd⟩ := lw_dB_c hd
  obtain ⟨d3, hd⟩ := lw_dB_c hd
  obtain ⟨db, hd⟩ := lw_dB_a hd
  rw [lw_as] at hd
  obtain ⟨d4, hd⟩ := lw_dB_c hd
  obtain ⟨d5, -⟩ := lw_dB_c hd
  have hF1 := gx_Fx hK.1 hR
  refine lw_1 (w := []) hK hR d1 rfl ⟨rfl, rfl, rfl⟩ ?_
  refine lw_pushN hK hR hk n 1 _ _ (by omega) da ?_
  refine lw_call (ci := 11) hK hR d2 (by rw [lw_vl]; exact lw_ck_ok h1) c1 (by decide) rfl (by decide) hj (fun r σ1 hr => ?_)
  obtain ⟨v, rfl, hr2⟩ := hr
  refine lw_1 (w := []) hK hR d3 rfl ⟨rfl, rfl, rfl⟩ ?_
  refine lw_pushN hK hR hk n 1 _ _ (by omega) db ?_
  refine lw_call (ci := 12) hK hR d4 (by rw [lw_vl]; exact lw_ck_ok h2) c2 (by decide) rfl (by show 1 + 0 ≤ 8; omega) hr2 (fun r σ2 hr => ?_)
  obtain ⟨rfl, hI⟩ := hr
  have e9 : pc + 1 + 6 * n + 3 + 1 + 6 * n + 3 = pc + 8 + 12 * n := by omega
  rw [← e9] at ht
  exact sx_jcmp hF1 (cc := .eq) (off := off) (t := 1770) d5 ht (fun _ => hnx σ2 hI) (fun z => absurd rfl z)
end LWP
