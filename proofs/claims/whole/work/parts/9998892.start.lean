/-! THE LAW: from its entry to its loop -/
section WSW
variable {p : Program} {e : Env} {s : State} {m : MethodId} {args : Array Value} {below : List Frame} {meth : Method} {c : Code} {nc ns : Nat} {Q : State → Prop} {X : sx_X} {b Ln : Nat} {xs : Nat → Int32}
variable {st : List sx_V} {σ : sx_S} {pc a1 a2 : Nat} {sh : sx_H}
theorem ws_1 (hF : sx_Fx p s m args meth c room_1 nc ns X 14 (lw_mt meth.name)) {I : Instr} {len : Nat} {w : List Nat} {L L' : sx_L} {st' : List sx_V} (hd : decode code pc = .ok (I, len)) (hok : sx_ok1 14 (lw_mt meth.name) pc (len, I, w) = true) (h : sx_st (sx_Run X) (len, I, w) L st sh σ (fun L2 st2 _ σ2 => L2 = L' ∧ st2 = st' ∧ σ2 = σ)) (hn : sx_AT p e room_1 s m args below meth c nc ns Q X 7 (pc + len) L' st' sh σ) : sx_AT p e room_1 s m args below meth c nc ns Q X 7 pc L st sh σ :=
  sx_st_ok hF (I := (len, I, w)) hd hok h (fun L2 st2 σ2 hk => by obtain ⟨rfl, rfl, rfl⟩ := hk; exact hn)
theorem ws_d : lw_dB [(.new 8, 3), (.dup, 1), (.invokespecial 17, 3), (.astore_n 1, 1), (.new 18, 3), (.dup, 1), (.invokespecial 20, 3), (.astore_n 2, 1), (.iconst 1, 1), (.newarray .long, 2), (.astore_n 3, 1), (.iconst 0, 1), (.istore 4, 2)] 0 = true := by decide +kernel
theorem ws_z0 : gx_z 0 = 0 := by decide +kernel
theorem ws_z1 : gx_z 1 ≤ 20000 := by decide +kernel
theorem ws_z2 : gx_z 124 ≤ 20000 := by decide +kernel
theorem ws_z3 : gx_z 125 ≤ 20000 := by decide +kernel
theorem ws_z4 : gx_z 171 ≤ 20000 := by decide +kernel
theorem ws_z5 : gx_z 172 ≤ 20000 := by decide +kernel
theorem ws_t : gx_TC.all (fun q => decide (q.2.1 ≠ 124)) = true := by decide +kernel
theorem ws_take : shM.take (171 + 1) = shM := List.take_of_length_le (by rw [shM_len]; decide)
/-- what stands before the walk -/
abbrev ws_L (w1 w2 w3 w4 : Option sx_V) : sx_L := [some (.inr (.inr 172)), w1, w2, w3, w4, none, none]
set_option maxHeartbeats 2000000 in
set_option maxRecDepth 20000 in
theorem ws_walk (hK : lw_K p s m #[Value.ref b] meth c X b Ln xs) (hXg : gx_X X) (hN : gx_N X) (hb0 : X.2.2.2.1 = s.heap.size) (hrt : meth.sig.returnType = ret) (hlk : meth.locks = false) (hfl : X.1.flags = flags0) (hT2 : lk_T X a1 a2) (hVx : ∀ U : State, X.2.2.2.2.2 U → ct_V U) (hWT : sx_WT X) : sx_AT p e room_1 s m #[Value.ref b] below meth c (0 - 0) (gx_z 0 - gx_z 0) (lw_Z below #[Value.ref b] s) X 7 0 (ws_L none none none none) [] (shM.take 0) (gx_s []) := by
  have hst : sx_stb X := hK.1.2.2.2.2.2.2.2.1
  have hs : s.heap.size = X.2.2.2.1 + 0 := by omega
  obtain ⟨d1, hd⟩ := lw_dB_c ws_d
  obtain ⟨d2, hd⟩ := lw_dB_c hd
  obtain ⟨d3, hd⟩ := lw_dB_c hd
  obtain ⟨d4, hd⟩ := lw_dB_c hd
  obtain ⟨d5, hd⟩ := lw_dB_c hd
  obtain ⟨d6, hd⟩ := lw_dB_c hd
  obtain ⟨d7, hd⟩ := lw_dB_c hd
  obtain ⟨d8, hd⟩ := lw_dB_c hd
  obtain ⟨d9, hd⟩ := lw_dB_c hd
  obtain ⟨d10, hd⟩ := lw_dB_c hd
  obtain ⟨d11, hd⟩ := lw_dB_c hd
  obtain ⟨d12, hd⟩ := lw_dB_c hd
  obtain ⟨d13, hd⟩ := lw_dB_c hd
  have Rm : ∀ k : Nat, k ≤ 172 → gx_z k ≤ 20000 → k - 0 ≤ room_1.cells ∧ gx_z k - gx_z 0 ≤ room_1.slots := fun k h1 h2 => ⟨show k - 0 ≤ 601024 by omega, show gx_z k - gx_z 0 ≤ 7293034 by omega⟩
  have F : ∀ k : Nat, k ≤ 172 → gx_z k ≤ 20000 → sx_Fx p s m #[Value.ref b] meth c room_1 (k - 0) (gx_z k - gx_z 0) X 14 (lw_mt meth.name) := fun k h1 h2 => gx_Fx hK.1 (Rm k h1 h2)
  -- the program's object
  refine gx_o_new (k := 0) (k0 := 0) (idx := 8) (ci := 11) (F 0 (by omega) (by rw [ws_z0]; omega)) hXg hs (Nat.le_refl _) d1 (sx_words (i := 154) (by decide +kernel) rfl) (sx_words (i := 155) (by decide +kernel) rfl) (sx_words (i := 129) (by decide +kernel) rfl) (by decide) (by decide +kernel) rfl (Rm 1 (by omega) ws_z1) ?_
  refine ws_1 (w := []) (L' := ws_L none none none none) (st' := [.inr (.inr 0), .inr (.inr 0)]) (F 1 (by omega) ws_z1) d2 rfl ⟨rfl, rfl, rfl⟩ ?_
  refine gx_o_callI (k := 1) (k0 := 0) (k1 := 124) (idx := 17) (i := 122) (n := 0) (a := 0) (as := []) (r := [.inr (.inr 0)]) (F 1 (by omega) ws_z1) hXg hs (by omega) (by omega) (by omega) d3 (by decide +kernel) (by decide +kernel) (by decide +kernel) (.inl (sx_words (i := 156) (by decide +kernel) rfl)) (by decide +kernel) (show (sx_M 122).2.2.2.2.1 + 1 ≤ 14 by decide +kernel) (show 8 + ((sx_M 122).2.2.1 + 11) + (sx_M 122).2.2.2.2.2.1 ≤ 528 by decide +kernel) rfl (by decide) (by decide) (gx_ok hXg hN hst 5 122 _ 1 124 [] _ gx_C1) (Rm 124 (by omega) ws_z2) (fun σ1 e1 => ?_)
  subst e1
  refine ws_1 (w := []) (L' := ws_L (some (.inr (.inr 0))) none none none) (st' := []) (F 124 (by omega) ws_z2) d4 rfl ⟨rfl, rfl, rfl⟩ ?_
  -- the reference's object
  refine gx_o_new (k := 124) (k0 := 0) (idx := 18) (ci := 12) (F 124 (by omega) ws_z2) hXg hs (by omega) d5 (sx_words (i := 1491) (by decide +kernel) rfl) (sx_words (i := 1492) (by decide +kernel) rfl) (sx_words (i := 142) (by decide +kernel) rfl) (by decide) (by decide +kernel) (gx_s_un ws_t) (Rm 125 (by omega) ws_z3) ?_
  refine ws_1 (w := []) (L' := ws_L (some (.inr (.inr 0))) none none none) (st' := [.inr (.inr 124), .inr (.inr 124)]) (F 125 (by omega) ws_z3) d6 rfl ⟨rfl, rfl, rfl⟩ ?_
  refine gx_o_callI (k := 125) (k0 := 0) (k1 := 171) (idx := 20) (i := 175) (n := 0) (a := 124) (as := []) (r := [.inr (.inr 124)]) (F 125 (by omega) ws_z3) hXg hs (by omega) (by omega) (by omega) d7 (by decide +kernel) (by decide +kernel) (by decide +kernel) (.inl (sx_words (i := 1493) (by decide +kernel) rfl)) (by decide +kernel) (show (sx_M 175).2.2.2.2.1 + 1 ≤ 14 by decide +kernel) (show 8 + ((sx_M 175).2.2.1 + 11) + (sx_M 175).2.2.2.2.2.1 ≤ 528 by decide +kernel) rfl (by decide) (by decide) (gx_Model hXg hN hst) (Rm 171 (by omega) ws_z4) (fun σ2 e2 => ?_)
  obtain ⟨I, h171⟩ := e2
  refine ws_1 (w := []) (L' := ws_L (some (.inr (.inr 0))) (some (.inr (.inr 124))) none none) (st' := []) (F 171 (by omega) ws_z4) d8 rfl ⟨rfl, rfl, rfl⟩ ?_
  refine ws_1 (w := []) (L' := ws_L (some (.inr (.inr 0))) (some (.inr (.inr 124))) none none) (st' := [.inl 1]) (F 171 (by omega) ws_z4) d9 rfl ⟨rfl, rfl, rfl⟩ ?_
  refine gx_o_newa (k := 171) (k0 := 0) (t := 2) (n := 1) (F 171 (by omega) ws_z4) hXg hs (by omega) d10 (by decide) gx_ac2 (by decide) (by decide +kernel) h171 (Rm 172 (by omega) ws_z5) ?_
  rw [ws_take]
  refine ws_1 (w := []) (L' := ws_L (some (.inr (.inr 0))) (some (.inr (.inr 124))) (some (.inr (.inr 171))) none) (st' := []) (F 172 (by omega) ws_z5) d11 rfl ⟨rfl, rfl, rfl⟩ ?_
  refine ws_1 (w := []) (L' := ws_L (some (.inr (.inr 0))) (some (.inr (.inr 124))) (some (.inr (.inr 171))) none) (st' := [.inl 0]) (F 172 (by omega) ws_z5) d12 rfl ⟨rfl, rfl, rfl⟩ ?_
  refine ws_1 (w := []) (L' := ws_L (some (.inr (.inr 0))) (some (.inr (.inr 124))) (some (.inr (.inr 171))) (some (.inl 0))) (st' := []) (F 172 (by omega) ws_z5) d13 rfl ⟨rfl, rfl, rfl⟩ ?_
  have h := lw_loop (e := e) (below := below) hK hb0 hrt hlk hfl hT2 hVx hWT (Ln / 6) 0 σ2 none none (by omega) (by omega) I
  rw [show 171 + 1 - 0 = 172 + 0 from rfl, ws_z0, show gx_z (171 + 1) - 0 = gx_z 172 + 6 * 0 from rfl]
  exact h
end WSW
theorem ws_key : ∀ (i : Nat) (v : sx_V), (ws_L none none none none)[i]? = some (some v) → i = 0 ∧ v = .inr (.inr 172) := fun i v h => by
  match i, h with
  | 0, h => exact ⟨rfl, (Option.some.inj (Option.some.inj (show some (some (.inr (.inr 172))) = some (some v) from h))).symm⟩
  | 1, h => exact absurd (show some none = some (some v) from h) (by simp)
  | 2, h => exact absurd (show some none = some (some v) from h) (by simp)
  | 3, h => exact absurd (show some none = some (some v) from h) (by simp)
  | 4, h => exact absurd (show some none = some (some v) from h) (by simp)
  | 5, h => exact absurd (show some none = some (some v) from h) (by simp)
  | 6, h => exact absurd (show some none = some (some v) from h) (by simp)
  | n + 7, h => exact absurd h (by simp)
theorem whole_start {p : Program} {e : Env} {s : State} {m : MethodId} {below : List Frame} {meth : Method} {c : Code} (l : Launch) (hflags : l.flags = flags0) {b L : Nat} {xs : Nat → Int32} (hL : L ≤ 3072) (C0 : lw_At p s m meth c b L xs) : W p l e room_1 s m #[Value.ref b] below meth c s.heap [] 0 0 (lw_Z below #[Value.ref b] s) (entryFrame m ([Value.ref b] : List Value).toArray 7) := by
  obtain ⟨hx, hcd, hret, hml, hown, hts, hX, hbl, hlk, hgv⟩ := C0
  obtain ⟨D, AC, aK, aV, a1, a2, hKn, hRs⟩ := ws_rest hts hgv
  obtain ⟨X, eX⟩ : ∃ X : sx_X, X = (l, D, AC, s.heap.size, (List.range 172).map (s.heap.size + ·) ++ [b], ws_R s.heap.size aK aV a1 a2 AC) := ⟨_, rfl⟩
  have e1 : X.1 = l := by rw [eX]
  have e4 : X.2.2.2.1 = s.heap.size := by rw [eX]
  have e5 : X.2.2.2.2.1 = (List.range 172).map (s.heap.size + ·) ++ [b] := by rw [eX]
  have e6 : X.2.2.2.2.2 = ws_R s.heap.size aK aV a1 a2 AC := by rw [eX]
  have hst : sx_stb X := fun s1 U hW hq h => by
    rw [e6] at h ⊢
    exact h.mv hW (fun q hlt => hq q (by rw [e4]; exact hlt))
  have hF : sx_Fx p s m #[Value.ref b] meth c room_1 0 0 X 14 (lw_mt meth.name) := ⟨hx, hcd, hml, hown, fun w hw => hts w (List.mem_filter.mp hw).1, by rw [eX]; exact hKn, by rw [e6]; exact hRs, hst, by rw [e4]; exact Nat.le_refl _, Nat.le_refl _, Nat.le_refl _, ⟨Nat.zero_le _, Nat.zero_le _⟩, rfl⟩
  have h172 : X.2.2.2.2.1.getD 172 0 = b := by
    rw [e5, List.getD_eq_getElem?_getD, List.getElem?_append_right (by simp)]
    simp
  have hXg : gx_X X := by
    refine ⟨by rw [e5]; simp, fun a ha => ?_⟩
    rw [e5, e4, List.getD_eq_getElem?_getD, List.getElem?_append_left (by simpa using ha), List.getElem?_map, List.getElem?_range ha]
    rfl
  have hN : gx_N X := fun U h => by
    rw [e6] at h
    rw [eX]
    exact h.2.2.2.2.2.2
  have hT2 : lk_T X a1 a2 := fun U h => by
    rw [e6] at h
    rw [e4]
    exact ⟨h.2.2.1, h.2.2.2.1, h.2.2.2.2.1⟩
  have hVx : ∀ U : State, X.2.2.2.2.2 U → ct_V U := fun U h => by
    rw [e6] at h
    exact h.2.2.2.2.2.1
  have hz : zW X aK aV := fun U h => by
    rw [e6] at h
    rw [e4]
    exact ⟨h.1, h.2.1⟩
  have hA := ws_walk (e := e) (below := below) (⟨hF, hX, by rw [e4]; exact hbl, h172, hL⟩ : lw_K p s m #[Value.ref b] meth c X b L xs) hXg hN e4 hret hlk (by rw [e1]; exact hflags) hT2 hVx (c_WT hz)
  have hl := lv_entry [Value.ref b] (n := 7) (Nat.le_of_ble_eq_true rfl)
  rw [lg_entry_eq]
  rw [Nat.sub_self, Nat.sub_self] at hA
  rw [← e1]
  refine hA _ s.heap [] ⟨⟨Nat.zero_le _, fun a ha => absurd ha (Nat.not_lt_zero _), fun k q hq => absurd hq (by simp [sx_wd]), ⟨fun i j p q hq => absurd hq (by simp [sx_wd]), fun k q hq => absurd hq (by simp [sx_wd])⟩⟩, ?_, rfl, ?_, va_S.rf⟩ (fun v hv => by cases hv)
  · refine sx_lv_mono hl (fun q hq => ?_)
    obtain ⟨v, hv, he⟩ := sx_as_mem.mp hq
    obtain ⟨q1, q2⟩ := q
    obtain ⟨h1, h2⟩ := ws_key _ _ hv
    have he : q2 = sx_tv X.2.2.2.2.1 v := he
    rw [h2, sx_tv_ref (by decide), show (172 : Int).toNat = 172 from rfl, h172] at he
    have h1 : q1 = 0 := h1
    rw [h1, he]
    exact List.mem_cons_self
  · intro i v h
    rw [(ws_key i v h).2]
    trivial
