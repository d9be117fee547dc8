/-! THE LAW: cases with longs, and look -/
section LWQ
variable {p : Program} {e : Env} {s : State} {m : MethodId} {args : Array Value} {below : List Frame} {meth : Method} {c : Code} {nc ns : Nat} {Q : State → Prop} {X : sx_X} {b Ln : Nat} {xs : Nat → Int32}
variable {w5 w6 : Option sx_V} {st : List sx_V} {σ : sx_S} {pc k : Nat}
def lw_codeJ (n idx1 idx2 : Nat) (off : Int) : List (Instr × Nat) := (.aload_n 1, 1) :: (lw_args 1 n ++ ((.invokevirtual idx1, 3) :: (.aload_n 2, 1) :: (lw_args 1 n ++ [(.invokevirtual idx2, 3), (.lcmp, 1), (.ifCond .eq off, 3)])))
/-- A CASE of the law whose two answers are longs -/
theorem lw_caseJ (hK : lw_K p s m args meth c X b Ln xs) (hR : nc ≤ 601024 ∧ ns ≤ 7293034) (hk : 6 * k + 6 ≤ Ln) {n idx1 idx2 i j p1 p2 : Nat} {off : Int} (hn : n ≤ 5) (hd : lw_dB (lw_codeJ n idx1 idx2 off) pc = true) (ht : ((pc + 9 + 12 * n : Nat) : Int) + off = (1770 : Nat)) (h1 : lw_ck p1 idx1 i (n + 1) = true) (h2 : lw_ck p2 idx2 j (n + 1) = true) (c1 : sx_rn 11 = (sx_M i).1.cls) (c2 : sx_rn 12 = (sx_M j).1.cls) (hj : jJ X i j (lw_vs xs k 1 n) (k : Int) σ)
    (hnx : ∀ σ', Inv ((k : Int) + 1) σ' → lw_A p e s m args below meth c nc ns Q X 1770 (lw_L (6 * (k : Int)) w5 w6) [] σ') : lw_A p e s m args below meth c nc ns Q X pc (lw_L (6 * (k : Int)) w5 w6) [] σ := by
  unfold lw_codeJ at hd
  obtain ⟨d1, hd⟩ := lw_dB_c hd
  obtain ⟨da, hd⟩ := lw_dB_a hd
  rw [lw_as] at hd
  obtain ⟨d2, hd⟩ := lw_dB_c hd
  obtain ⟨d3, hd⟩ := lw_dB_c hd
  obtain ⟨db, hd⟩ := lw_dB_a hd
  rw [lw_as] at hd
  obtain ⟨d4, hd⟩ := lw_dB_c hd
  obtain ⟨d5, hd⟩ := lw_dB_c hd
  obtain ⟨d6, -⟩ := lw_dB_c hd
  have hF1 := gx_Fx hK.1 hR
  refine lw_1 (w := []) hK hR d1 rfl ⟨rfl, rfl, rfl⟩ ?_
  refine lw_pushN hK hR hk n 1 _ _ (by omega) da ?_
  refine lw_call (ci := 11) hK hR d2 (by rw [lw_vl]; exact lw_ck_ok h1) c1 (by decide) rfl (by decide) hj (fun r σ1 hr => ?_)
  obtain ⟨v, rfl, hr2⟩ := hr
  refine lw_1 (w := []) hK hR d3 rfl ⟨rfl, rfl, rfl⟩ ?_
  refine lw_pushN hK hR hk n 1 _ _ (by omega) db ?_
  refine lw_call (ci := 12) hK hR d4 (by rw [lw_vl]; exact lw_ck_ok h2) c2 (by decide) rfl (by show 2 + 0 ≤ 8; omega) hr2 (fun r σ2 hr => ?_)
  obtain ⟨rfl, hI⟩ := hr
  refine lw_1 (w := []) (st' := [.inl 0]) (L' := lw_L (6 * (k : Int)) w5 w6) (σ' := σ2) hK hR d5 rfl ⟨rfl, by show ([.inl (sx_cmp v v)] : List sx_V) = _; unfold sx_cmp; rw [if_neg (by omega), if_pos rfl], rfl⟩ ?_
  have e9 : pc + 1 + 6 * n + 3 + 1 + 6 * n + 3 + 1 = pc + 9 + 12 * n := by omega
  rw [← e9] at ht
  exact sx_jif hF1 (cc := .eq) (off := off) (t := 1770) d6 ht (fun _ => hnx σ2 hI) (fun z => absurd rfl z)
/-- two numbers of the script made a long -/
def lw_lng : List (Instr × Nat) := lw_arg 1 ++ ([(.i2l, 1), (.bipush 32, 2), (.lshl, 1)] ++ (lw_arg 2 ++ [(.i2l, 1), (.ldc2_w 171, 3), (.land, 1), (.lor, 1)]))
theorem lw_w171 : Cond.constantLong RL 171 (Int64.ofInt 4294967295) ∈ sx_TB := sx_words (i := 2308) (by decide +kernel) rfl
theorem lw_long (hK : lw_K p s m args meth c X b Ln xs) (hR : nc ≤ 601024 ∧ ns ≤ 7293034) (hk : 6 * k + 6 ≤ Ln) (hd : lw_dB lw_lng pc = true) (hn : lw_A p e s m args below meth c nc ns Q X (pc + 22) (lw_L (6 * (k : Int)) w5 w6) (.inr (.inl (sx_orL (sx_shlL (xs (6 * k + 1)).toInt 32) (sx_andL (xs (6 * k + 2)).toInt 4294967295))) :: st) σ) : lw_A p e s m args below meth c nc ns Q X pc (lw_L (6 * (k : Int)) w5 w6) st σ := by
  obtain ⟨da, hd⟩ := lw_dB_a hd
  obtain ⟨db, hd⟩ := lw_dB_a hd
  obtain ⟨dc, hd⟩ := lw_dB_a hd
  obtain ⟨d1, db⟩ := lw_dB_c db
  obtain ⟨d2, db⟩ := lw_dB_c db
  obtain ⟨d3, db⟩ := lw_dB_c db
  obtain ⟨d4, hd⟩ := lw_dB_c hd
  obtain ⟨d5, hd⟩ := lw_dB_c hd
  obtain ⟨d6, hd⟩ := lw_dB_c hd
  obtain ⟨d7, hd⟩ := lw_dB_c hd
  refine lw_push hK hR (j := 1) (by omega) hk da ?_
  refine lw_1 (w := []) hK hR d1 rfl ⟨rfl, rfl, rfl⟩ ?_
  refine lw_1 (w := []) hK hR d2 rfl ⟨rfl, rfl, rfl⟩ ?_
  refine lw_1 (w := []) hK hR d3 rfl ⟨rfl, rfl, rfl⟩ ?_
  refine lw_push hK hR (j := 2) (by omega) hk dc ?_
  refine lw_1 (w := []) hK hR d4 rfl ⟨rfl, rfl, rfl⟩ ?_
  have hF := hK.1
  have h5 : lw_A p e s m args below meth c nc ns Q X (pc + 17 + 3) (lw_L (6 * (k : Int)) w5 w6) (.inr (.inl 4294967295) :: .inr (.inl (xs (6 * k + 2)).toInt) :: .inr (.inl (sx_shlL (xs (6 * k + 1)).toInt 32)) :: st) σ := by
    refine lw_1 (w := []) hK hR d6 rfl ⟨rfl, rfl, rfl⟩ ?_
    refine lw_1 (w := []) hK hR d7 rfl ⟨rfl, rfl, rfl⟩ ?_
    exact hn
  intro ls H locs hG hO
  have h6 := h5 ls H locs hG (sx_okS_cons (show sx_r64 4294967295 from ⟨by decide, by decide⟩) hO)
  exact lv_ldc2 hF.1 hF.2.1 hF.2.2.2.1 (hF.2.2.2.2.1 _ lw_w171) d5 h6
def lw_codeU (n idx1 idx2 : Nat) (off : Int) : List (Instr × Nat) := (.aload_n 1, 1) :: (lw_lng ++ (lw_args 3 n ++ ((.invokevirtual idx1, 3) :: (.aload_n 2, 1) :: (lw_lng ++ (lw_args 3 n ++ [(.invokevirtual idx2, 3), (.if_icmp .eq off, 3)])))))
theorem lw_ls : (lw_lng.map (·.2)).sum = 22 := rfl
/-- A CASE of the law with a long first -/
theorem lw_caseU (hK : lw_K p s m args meth c X b Ln xs) (hR : nc ≤ 601024 ∧ ns ≤ 7293034) (hk : 6 * k + 6 ≤ Ln) {n idx1 idx2 i j p1 p2 : Nat} {off : Int} (hn : n ≤ 3) (hd : lw_dB (lw_codeU n idx1 idx2 off) pc = true) (ht : ((pc + 52 + 12 * n : Nat) : Int) + off = (1770 : Nat)) (h1 : lw_ck p1 idx1 i (n + 2) = true) (h2 : lw_ck p2 idx2 j (n + 2) = true) (c1 : sx_rn 11 = (sx_M i).1.cls) (c2 : sx_rn 12 = (sx_M j).1.cls) (hj : jI X i j (.inr (.inl (sx_orL (sx_shlL (xs (6 * k + 1)).toInt 32) (sx_andL (xs (6 * k + 2)).toInt 4294967295))) :: lw_vs xs k 3 n) (k : Int) σ)
    (hnx : ∀ σ', Inv ((k : Int) + 1) σ' → lw_A p e s m args below meth c nc ns Q X 1770 (lw_L (6 * (k : Int)) w5 w6) [] σ') : lw_A p e s m args below meth c nc ns Q X pc (lw_L (6 * (k : Int)) w5 w6) [] σ := by
  unfold lw_codeU at hd
  obtain ⟨d1, hd⟩ := lw_dB_c hd
  obtain ⟨dl, hd⟩ := lw_dB_a hd
  rw [lw_ls] at hd
  obtain ⟨da, hd⟩ := lw_dB_a hd
  rw [lw_as] at hd
  obtain ⟨d2, hd⟩ := lw_dB_c hd
  obtain ⟨d3, hd⟩ := lw_dB_c hd
  obtain ⟨dm, hd⟩ := lw_dB_a hd
  rw [lw_ls] at hd
  obtain ⟨db, hd⟩ := lw_dB_a hd
  rw [lw_as] at hd
  obtain ⟨d4, hd⟩ := lw_dB_c hd
  obtain ⟨d5, -⟩ := lw_dB_c hd
  have hF1 := gx_Fx hK.1 hR
  generalize eG : sx_orL (sx_shlL (xs (6 * k + 1)).toInt 32) (sx_andL (xs (6 * k + 2)).toInt 4294967295) = G at hj
  have estk : ∀ (a : Int) (rest : List sx_V), (lw_vs xs k 3 n).reverse ++ (.inr (.inl G) :: .inr (.inr a) :: rest) = (.inr (.inl G) :: lw_vs xs k 3 n).reverse ++ .inr (.inr a) :: rest := fun a rest => by
    rw [List.reverse_cons, List.append_assoc]
    rfl
  refine lw_1 (w := []) hK hR d1 rfl ⟨rfl, rfl, rfl⟩ ?_
  refine lw_long hK hR hk dl ?_
  rw [eG]
  refine lw_pushN hK hR hk n 3 _ _ (by omega) da ?_
  rw [estk]
  refine lw_call (ci := 11) hK hR d2 (by rw [List.length_cons, lw_vl]; exact lw_ck_ok h1) c1 (by decide) rfl (by decide) hj (fun r σ1 hr => ?_)
  obtain ⟨v, rfl, hr2⟩ := hr
  refine lw_1 (w := []) hK hR d3 rfl ⟨rfl, rfl, rfl⟩ ?_
  refine lw_long hK hR hk dm ?_
  rw [eG]
  refine lw_pushN hK hR hk n 3 _ _ (by omega) db ?_
  rw [estk]
  refine lw_call (ci := 12) hK hR d4 (by rw [List.length_cons, lw_vl]; exact lw_ck_ok h2) c2 (by decide) rfl (by show 1 + 0 ≤ 8; omega) hr2 (fun r σ2 hr => ?_)
  obtain ⟨rfl, hI⟩ := hr
  have e9 : pc + 1 + 22 + 6 * n + 3 + 1 + 22 + 6 * n + 3 = pc + 52 + 12 * n := by omega
  rw [← e9] at ht
  exact sx_jcmp hF1 (cc := .eq) (off := off) (t := 1770) d5 ht (fun _ => hnx σ2 hI) (fun z => absurd rfl z)
set_option maxRecDepth 20000 in
theorem ll_cw : Cond.codeWith yL_look cL_look 5 (some .int) ll_hh ∈ sx_TB := List.mem_filter.mpr ⟨lw_in6 (List.mem_of_getElem? (i := 74) rfl), rfl⟩
theorem ll_st : Cond.static yL_look ∈ sx_TB := sx_words (i := 1401) (by decide +kernel) rfl
theorem ll_ml : Cond.methodLink RL 39 yL_look ∈ sx_TB := sx_words (i := 1400) (by decide +kernel) rfl
theorem ll_in : Cond.initialized RL ∈ sx_TB := sx_words (i := 128) (by decide +kernel) rfl
set_option maxHeartbeats 2000000 in
theorem lw_callL (hK : lw_K p s m args meth c X b Ln xs) (hR : nc + 1 ≤ 601024 ∧ ns + 6 ≤ 7293034) {w q : Int} {L : sx_L} {r : Int × Int} (hM : Met X.1 yL_look ll_ws ll_rm (sx_Pc X [.inr (.inr 0), .inl w, .inl q, .inr (.inr 171)] shM σ) (ll_Q X r σ) 1 6 (sx_A X)) (hr2 : sx_r32 r.2) (hd : decode code pc = .ok (.invokestatic 39, 3)) (h : lw_A p e s m args below meth c (nc + 1) (ns + 6) Q X (pc + 3) L [.inl r.2] (if r.2 = 0 then sx_up σ 171 0 r.1 else σ)) : lw_A p e s m args below meth c nc ns Q X pc L [.inr (.inr 171), .inl q, .inl w, .inr (.inr 0)] σ := by
  have hFx := hK.1
  obtain ⟨hx, hb, hml, hown, hts, hK9, hKx, hst, hbs, hRf, hRl, hnc, -⟩ := hK.1
  have hown : s.vm.findClass RL = some m.cls := hown
  intro ls H locs hG hO T hT X0
  obtain ⟨hsim, hlv, hLl, hLo, hS⟩ := hG
  subst hT
  have hBk : Back X.1 room_1 p e below s args yL_look 3 8 (PreOf room_1 1 6 (sx_Pc X [.inr (.inr 0), .inl w, .inl q, .inr (.inr 171)] shM σ)) (PostOf (ll_Q X r σ) 1 6 (sx_A X)) := va_backW (hh := ll_hh) (bytes := cL_look) (maxL := 5) (ret := some .int) hM (sx_blind hst) rfl rfl (by decide) (by decide) (fun w hw a' U hW => by
      rcases List.mem_cons.mp hw with rfl | hw
      · exact word_at hW (sx_TBg ll_cw) (hts _ ll_cw)
      · exact word_at hW (sx_TBg hw) (hts _ hw)) List.mem_cons_self (fun a' U hW => word_at hW (sx_TBg ll_in) (hts _ ll_in))
  obtain ⟨mk, methM, cM, hnamed, hmethM, -, -, -, -, -, -, hsigM⟩ := Cond.codeWith_spec (hts _ ll_cw)
  have hstatic : methM.isStatic = true := Cond.static_spec hnamed hmethM (hts _ ll_st)
  obtain ⟨kP, hkP, -⟩ := className_of_methodNamed hnamed
  have hinitP : kP.init = .initialized := Cond.initialized_spec (findClass_of_methodNamed hnamed) hkP (hts _ ll_in)
  have hsl : methM.sig.parameters.length = 4 := by
    have : parseMethodDescriptor yL_look.desc = some ⟨[.object "SnowScore", .int, .int, .array .long], some .int⟩ := by decide +kernel
    rw [this] at hsigM
    rw [← Option.some.inj hsigM]
    rfl
  obtain ⟨vm₁, X₁, hstep₁⟩ := X0.invokestatic hx hown (hts _ ll_ml) hnamed hmethM hstatic hkP hinitP (by decide) (g := F0 m pc ls ([.inr (.inr 171), .inl q, .inl w, .inr (.inr 0)].map (sx_tv X.2.2.2.2.1))) rfl (argsL := [.inr (.inr 0), .inl w, .inl q, .inr (.inr 171)].map (sx_tv X.2.2.2.2.1)) (rest := []) hsl.symm rfl (by rw [hb]; exact hd)
  have hPc := sx_pre (σ := σ) (vs := [.inr (.inr 0), .inl w, .inl q, .inr (.inr 171)]) hFx hsim hS (fun v hv => hO v (by
    simp only [List.mem_cons, List.not_mem_nil, or_false] at hv ⊢
    rcases hv with h | h | h | h
    · exact Or.inr (Or.inr (Or.inr h))
    · exact Or.inr (Or.inr (Or.inl h))
    · exact Or.inr (Or.inl h)
    · exact Or.inl h)) (T.setVm vm₁) rfl X₁.warmed
  obtain ⟨v, B, X', hpost, hsteps⟩ := hBk m meth c ⟨T.setVm vm₁, locs, nc, ns⟩ (F0 m pc ls []) (.invokestatic 39) mk _ X₁ rfl (hlv.1.trans hml.symm) (by rw [hb]; exact hd) (by show 2 * 0 + 0 ≤ 8; omega) (X₁.named hnamed) ⟨hR.1, hR.2, hPc⟩
  obtain ⟨U', l2, c2, s2⟩ := B
  obtain ⟨g', mk', t, L1, e1, e2, ⟨⟨hv, hsim'⟩, hz, hk9⟩, f1, hL, f2, f3⟩ := hpost
  dsimp only [Pt.U, Pt.locs, Pt.cells, Pt.slots] at X' e1 e2 f1 f2 f3 hsteps
  subst f1; subst f2; subst f3
  have hv : v = some (.int (Int32.ofInt r.2)) := Outcome.returned.inj hv
  subst hv
  have hS' : va_S (sx_A X) s.heap U'.heap (locs ++ L1) := ⟨Nat.le_trans hS.1 (by rw [e1]; exact hz), fun q h1 h2 => by rw [e1, hk9 q (Nat.lt_of_lt_of_le h1 hS.1) h2]; exact hS.2.1 q h1 h2, fun q hq => by
      rcases List.mem_append.mp hq with h | h
      · exact hS.2.2 q h
      · exact hL q h⟩
  obtain ⟨t2, a1, b1⟩ := h ls U'.heap (locs ++ L1) ⟨by rw [e1]; exact hsim', hlv, hLl, hLo, hS'⟩ (fun v hv => by
    rw [List.mem_singleton.mp hv]
    exact hr2) U' rfl X'
  exact ⟨t2, hstep₁ _ (fun acts => by rw [doInvoke_state]; exact hsteps.trans a1), b1⟩
end LWQ
