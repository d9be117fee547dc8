/-! THE LAW'S OWN look, by contract -/
section LL2
variable {X : sx_X} {σ : sx_S} {P : aP} {A : aM} {W9 : aW} {pl w q : Int} {a1 a2 : Nat}
theorem fLoo_2 : (fLoo P W9 w q).2 = 0 ∨ (fLoo P W9 w q).2 = 1 ∨ (fLoo P W9 w q).2 = 2 := by
  unfold fLoo
  split
  · exact Or.inr (Or.inl rfl)
  · split
    · exact Or.inl rfl
    · split
      · exact Or.inl rfl
      · split
        · exact Or.inl rfl
        · split
          · exact Or.inl rfl
          · split
            · exact Or.inl rfl
            · exact Or.inr (Or.inr rfl)
theorem fLoo_1 {k : Int} (wp : wP P) (ww : wW P W9 k) (hk : k ≤ 100000) : sx_r32 (fLoo P W9 w q).1 := by
  have h48 := wp.wh
  unfold fLoo
  split
  · exact gx_b32
  · rename_i hw
    have hw : 0 ≤ w ∧ w < P.wa := Classical.not_not.mp hw
    have b1 := ww.at1 w hw.1 hw.2
    have b2 := wp.fo w hw.1 hw.2
    have b3 := ww.st w hw.1 hw.2
    have b4 := ww.bt w hw.1 hw.2
    have b5 := wp.ho w hw.1 hw.2
    have b6 := wp.fa
    have b7 := wp.wa
    split
    · exact ⟨by show _ ≤ W9.at1 w; omega, by show W9.at1 w ≤ _; omega⟩
    · split
      · exact ⟨by show _ ≤ P.fo w; omega, by show P.fo w ≤ _; omega⟩
      · split
        · exact ⟨by show _ ≤ W9.st w; omega, by show W9.st w ≤ _; omega⟩
        · split
          · exact ⟨by show _ ≤ W9.bt w; omega, by show W9.bt w ≤ _; omega⟩
          · split
            · exact ⟨by show _ ≤ P.ho w; omega, by show P.ho w ≤ _; omega⟩
            · exact gx_b32
abbrev ll_L (w q : Int) : sx_L := [some (.inr (.inr 0)), some (.inl w), some (.inl q), some (.inr (.inr 171)), none]
def ll_b1 : List sx_I := [(1, .aload_n 3, []), (1, .iconst 0, []), (1, .aload_n 0, []), (1, .iload_n 1, []), (1, .iload_n 2, [])]
def ll_b2 : List sx_I := [(1, .i2l, []), (1, .lastore, [])]
theorem ll_b1_ok : sx_sqB 14 ll_mt ll_b1 0 = true := by decide +kernel
theorem ll_b2_ok : sx_sqB 14 ll_mt ll_b2 8 = true := by decide +kernel
theorem dl_5 : decode cL_look 5 = .ok (.invokevirtual 7, 3) := by decide +kernel
theorem dl_10 : decode cL_look 10 = .ok (.goto 11, 3) := by decide +kernel
theorem dl_13 : decode cL_look 13 = .ok (.astore 4, 2) := by decide +kernel
theorem dl_15 : decode cL_look 15 = .ok (.iconst 1, 1) := by decide +kernel
theorem dl_16 : decode cL_look 16 = .ok (.ireturn, 1) := by decide +kernel
theorem dl_17 : decode cL_look 17 = .ok (.astore 4, 2) := by decide +kernel
theorem dl_19 : decode cL_look 19 = .ok (.iconst 2, 1) := by decide +kernel
theorem dl_20 : decode cL_look 20 = .ok (.ireturn, 1) := by decide +kernel
theorem dl_21 : decode cL_look 21 = .ok (.iconst 0, 1) := by decide +kernel
theorem dl_22 : decode cL_look 22 = .ok (.ireturn, 1) := by decide +kernel
set_option maxHeartbeats 2000000 in
/-- THE CONTRACT of the law's look -/
theorem c_ll (hst : sx_stb X) (hfl : X.1.flags = flags0) (hT2 : lk_T X a1 a2) (hVx : ∀ U : State, X.2.2.2.2.2 U → ct_V U) (hp : isP pl) (e2 : σ 0 2 = pl) (g : GC 40 pl P A σ) (gw : cW P 40 σ W9) (wp : wP P) (hv32 : sx_r32 (fLoo P W9 w q).1) : Met X.1 yL_look ll_ws ll_rm (sx_Pc X [.inr (.inr 0), .inl w, .inl q, .inr (.inr 171)] shM σ) (ll_Q X (fLoo P W9 w q) σ) 1 6 (sx_A X) := by
  have hM := c_look (w := w) (q := q) hst hfl hT2 hp e2 g gw wp
  have h012 : (fLoo P W9 w q).2 = 0 ∨ (fLoo P W9 w q).2 = 1 ∨ (fLoo P W9 w q).2 = 2 := fLoo_2
  generalize fLoo P W9 w q = r at hM h012 hv32
  refine va_MetW (cc := cL_look) (maxL := 5) (ret := some .int) (hh := ll_hh) (by decide) rfl ?_
  intro p e s m args below meth c s₁ B hml hv
  obtain ⟨rfl, hsim, hK9, hvs, hKx, hbs⟩ := hv
  have hts : ∀ w ∈ ll_ws, w.before _ s = true := atoms_spec (ws := ll_ws) B.pre
  have hown : s.vm.findClass RL = some m.cls := findClass_of_methodNamed B.named
  have hin : meth.name = yL_look.name := (name_of_methodNamed B.named B.method).1
  have htab : c.exceptionTable.toList.map (fun h => (h.startPc, h.endPc, h.handlerPc, h.catchType)) = [(0, 10, 13, 13), (0, 10, 17, 15)] := by
    obtain ⟨m9, meth9, c9, n1, n2, n3, -, -, n6, -⟩ := Cond.codeWith_spec (hts _ List.mem_cons_self)
    cases B.named.symm.trans n1
    cases B.method.symm.trans n2
    cases (Stand.of_body B).code.symm.trans n3
    exact n6
  have hF : sx_Fx p s m ([.inr (.inr 0), .inl w, .inl q, .inr (.inr 171)].map (sx_tv X.2.2.2.2.1)).toArray meth c (headSpec ll_ws ll_rm).room 0 0 X 14 ll_mt := ⟨B.exec, B.bytes, hml, hown, fun w hw => hts w (List.mem_cons_of_mem _ hw), hK9, hKx, hst, hbs, Nat.le_refl _, Nat.le_refl _, ⟨Nat.zero_le _, Nat.zero_le _⟩, hin⟩
  have hx := B.exec
  have hb : c.code = cL_look := B.bytes
  have hrt : meth.sig.returnType = some .int := B.returns
  have hA : sx_AT p e (headSpec ll_ws ll_rm).room s m ([.inr (.inr 0), .inl w, .inl q, .inr (.inr 171)].map (sx_tv X.2.2.2.2.1)).toArray below meth c 0 0 (MQ below (ll_Q X r σ) ([.inr (.inr 0), .inl w, .inl q, .inr (.inr 171)].map (sx_tv X.2.2.2.2.1)).toArray s 1 6 (sx_A X)) X ll_mt.2.2.1 0 (ll_L w q) [] shM σ := by
    refine sx_sq_ok hF ll_b1 0 _ _ _ ll_b1_ok (k := fun L' st' _ σ' => L' = ll_L w q ∧ st' = [.inl q, .inl w, .inr (.inr 0), .inl 0, .inr (.inr 171)] ∧ σ' = σ) ⟨rfl, rfl, rfl⟩ (fun L1 st1 σ1 hk => ?_)
    obtain ⟨rfl, rfl, rfl⟩ := hk
    intro ls H locs hG hO T hT X0
    obtain ⟨hsim1, hlv, hLl, hLo, hS⟩ := hG
    subst hT
    obtain ⟨T', L9, X', hsim', hS', hor⟩ := ll_call (g := F0 m 5 ls ([.inl q, .inl w, .inr (.inr 0), .inl 0, .inr (.inr 171)].map (sx_tv X.2.2.2.2.1))) (rest := [.int (Int32.ofInt 0), sx_tv X.2.2.2.2.1 (.inr (.inr 171))]) X0 hx hown hF.2.2.2.2.1 hst hM hK9 hKx hbs hS hsim1 (fun v hv => hvs v (by
      simp only [List.mem_cons, List.not_mem_nil, or_false] at hv ⊢
      rcases hv with h | h | h
      · exact Or.inl h
      · exact Or.inr (Or.inl h)
      · exact Or.inr (Or.inr (Or.inl h)))) (by show 7 ≤ 7 ∧ 142 ≤ 142 ∧ 1 ≤ 1 ∧ 6 ≤ 6; omega) rfl (hlv.1.trans hml.symm) rfl (by show 1 + (1 + 0) ≤ 8; omega) rfl (by rw [hb]; exact dl_5)
    rcases hor with ⟨hr0, hstp⟩ | ⟨hr0, a, ce, hce, hcv, hcc, hstp⟩
    · have hB : sx_AT p e (headSpec ll_ws ll_rm).room s m ([.inr (.inr 0), .inl w, .inl q, .inr (.inr 171)].map (sx_tv X.2.2.2.2.1)).toArray below meth c 1 6 (MQ below (ll_Q X r σ1) ([.inr (.inr 0), .inl w, .inl q, .inr (.inr 171)].map (sx_tv X.2.2.2.2.1)).toArray s 1 6 (sx_A X)) X ll_mt.2.2.1 8 (ll_L w q) [.inl r.1, .inl 0, .inr (.inr 171)] shM σ1 := by
        refine sx_sq_ok (gx_Fx hF (by show 1 ≤ 1 ∧ 6 ≤ 6; omega)) ll_b2 8 _ _ _ ll_b2_ok (k := fun L' st' _ σ' => L' = ll_L w q ∧ st' = [] ∧ σ' = sx_up σ1 171 0 r.1) ?_ (fun L2 st2 σ2 hk => ?_)
        · exact ⟨sx_ixI (show sx_lk shM 171 = (2, 1) from rfl) (by decide) (by decide), rfl, rfl, rfl⟩
        · obtain ⟨rfl, rfl, rfl⟩ := hk
          intro ls2 H2 locs2 hG2 hO2
          refine lv_goto hx hb dl_10 (tgt := 21) (by decide) ?_
          refine lv_iconst hx hb dl_21 rfl ?_
          exact W.iret (Qc := ll_Q X r σ1) (free := sx_A X) hx hb hrt (fun t ht _ => ⟨⟨by rw [hr0], by rw [if_pos hr0, ht]; exact hG2.1⟩, hG2.2.2.2.2.F ht⟩) hG2.2.2.2.2.2.2 dl_22
      obtain ⟨t, z1, z2⟩ := hB ls T'.heap (locs ++ L9) ⟨hsim', hlv, hLl, hLo, hS'⟩ (fun v hv => by
        simp only [List.mem_cons, List.not_mem_nil, or_false] at hv
        rcases hv with rfl | rfl | rfl
        · exact hv32
        · exact gx_b32
        · trivial) T' rfl X'
      exact ⟨t, hstp t z1, z2⟩
    · have hr12 : r.2 = 1 ∨ r.2 = 2 := h012.resolve_left hr0
      obtain ⟨vm', hWv, hfind⟩ := ct_find X' hown hF.2.2.2.2.1 (hVx s hKx) htab (g := F0 m 5 ls [.int (Int32.ofInt 0), sx_tv X.2.2.2.2.1 (.inr (.inr 171))]) rfl rfl hce hcv hr12 hcc
      have hQ9 : ∀ t : State, t.heap = T'.heap → s.WarmedH t.vm → ll_Q X r σ1 ([.inr (.inr 0), .inl w, .inl q, .inr (.inr 171)].map (sx_tv X.2.2.2.2.1)).toArray s (.returned (some (.int (Int32.ofInt r.2)))) t := fun t ht _ => ⟨⟨rfl, by rw [if_neg hr0, ht]; exact hsim'⟩, hS'.F ht⟩
      have hW9 : W p X.1 e (headSpec ll_ws ll_rm).room s m ([.inr (.inr 0), .inl w, .inl q, .inr (.inr 171)].map (sx_tv X.2.2.2.2.1)).toArray below meth c T'.heap (locs ++ L9) 1 6 (MQ below (ll_Q X r σ1) ([.inr (.inr 0), .inl w, .inl q, .inr (.inr 171)].map (sx_tv X.2.2.2.2.1)).toArray s 1 6 (sx_A X)) (F0 m (if r.2 = 1 then 13 else 17) ls [.ref a]) := by
        rcases hr12 with h1 | h1
        · rw [if_pos h1]
          rw [h1] at hQ9
          refine lv_astore hx hb dl_13 hlv (show 4 < 5 by decide) rfl (fun ls' h' => ?_)
          refine lv_iconst hx hb dl_15 rfl ?_
          exact W.iret (Qc := ll_Q X r σ1) (free := sx_A X) hx hb hrt hQ9 hS'.2.2 dl_16
        · rw [if_neg (by rw [h1]; decide)]
          rw [h1] at hQ9
          refine lv_astore hx hb dl_17 hlv (show 4 < 5 by decide) rfl (fun ls' h' => ?_)
          refine lv_iconst hx hb dl_19 rfl ?_
          exact W.iret (Qc := ll_Q X r σ1) (free := sx_A X) hx hb hrt hQ9 hS'.2.2 dl_20
      obtain ⟨t, z1, z2⟩ := hW9 (T'.setVm vm') rfl (X'.noted hWv)
      exact ⟨t, hstp t (ct_caught X'.here hfind z1), z2⟩
  have hl := lv_entry ([.inr (.inr 0), .inl w, .inl q, .inr (.inr 171)].map (sx_tv X.2.2.2.2.1)) (n := 5) (by rw [sx_args_len]; show 4 ≤ 5; omega)
  rw [lg_entry_eq]
  refine hA _ s.heap [] ⟨hsim, sx_lv_mono hl (fun y hy => ?_), rfl, ?_, va_S.rf⟩ (fun v hv => by cases hv)
  · obtain ⟨v, hv, he⟩ := sx_as_mem.mp hy
    have hv' : (sx_args [.inr (.inr 0), .inl w, .inl q, .inr (.inr 171)])[y.1]? = some (some v) := by
      match hy1 : y.1, hv with
      | 0, hv => exact hv
      | 1, hv => exact hv
      | 2, hv => exact hv
      | 3, hv => exact hv
      | 4, hv => cases hv
      | j + 5, hv => cases hv
    have h5 := sx_ent_args _ X.2.2.2.2.1 y.1 v hv'
    rw [← he] at h5
    exact h5
  · intro j v hv
    match j, hv with
    | 0, hv => cases hv; trivial
    | 1, hv => cases hv; exact hvs _ (by simp)
    | 2, hv => cases hv; exact hvs _ (by simp)
    | 3, hv => cases hv; trivial
    | 4, hv => cases hv
    | j + 5, hv => cases hv
end LL2
