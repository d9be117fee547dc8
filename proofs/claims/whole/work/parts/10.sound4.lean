/-! SOUNDNESS: arithmetic, locals, calls; then a block, then a run -/
theorem sx_td {x y : Int} (hx : sx_r32 x) (hy : sx_r32 y) : Int32.ofInt (x.tdiv y) = Int32.ofInt x / Int32.ofInt y := Int32.ofInt_tdiv (show (-2147483648 : Int) ≤ x from hx.1) (show x ≤ (2147483647 : Int) from hx.2) (show (-2147483648 : Int) ≤ y from hy.1) (show y ≤ (2147483647 : Int) from hy.2)
theorem sx_tdJ {x y : Int} (hx : sx_r64 x) (hy : sx_r64 y) : Int64.ofInt (x.tdiv y) = Int64.ofInt x / Int64.ofInt y := Int64.ofInt_tdiv (show (-9223372036854775808 : Int) ≤ x from hx.1) (show x ≤ (9223372036854775807 : Int) from hx.2) (show (-9223372036854775808 : Int) ≤ y from hy.1) (show y ≤ (9223372036854775807 : Int) from hy.2)
theorem sx_tm {x y : Int} (hx : sx_r32 x) (hy : sx_r32 y) : Int32.ofInt (x.tmod y) = Int32.ofInt x - Int32.ofInt x / Int32.ofInt y * Int32.ofInt y := by
  have h : x.tmod y = x - x.tdiv y * y := by have := Int.tmod_add_mul_tdiv x y; rw [Int.mul_comm] at this; omega
  rw [h, Int32.ofInt_sub, Int32.ofInt_mul, sx_td hx hy]
theorem sx_tmJ {x y : Int} (hx : sx_r64 x) (hy : sx_r64 y) : Int64.ofInt (x.tmod y) = Int64.ofInt x - Int64.ofInt x / Int64.ofInt y * Int64.ofInt y := by
  have h : x.tmod y = x - x.tdiv y * y := by have := Int.tmod_add_mul_tdiv x y; rw [Int.mul_comm] at this; omega
  rw [h, Int64.ofInt_sub, Int64.ofInt_mul, sx_tdJ hx hy]
theorem sx_tmr {x y B : Int} (hx : -B - 1 ≤ x ∧ x ≤ B) : -B - 1 ≤ x.tmod y ∧ x.tmod y ≤ B := by
  rcases Int.le_total 0 x with h | h
  · have h1 := Int.tmod_nonneg y h
    have h2 : x.tmod y ≤ x := by
      have h5 := Int.natAbs_tmod x y
      have h6 := Nat.mod_le x.natAbs y.natAbs
      omega
    omega
  · have h3 : (x.tmod y) = -((-x).tmod y) := by rw [Int.neg_tmod]; omega
    have h1 := Int.tmod_nonneg y (show 0 ≤ -x by omega)
    have h2 : (-x).tmod y ≤ -x := by
      have h5 := Int.natAbs_tmod (-x) y
      have h6 := Nat.mod_le (-x).natAbs y.natAbs
      omega
    omega
theorem sx_cmp_lg {x y : Int} (hx : sx_r64 x) (hy : sx_r64 y) : lg_cmp (Int64.ofInt x) (Int64.ofInt y) = Int32.ofInt (sx_cmp x y) := by
  unfold lg_cmp sx_cmp
  by_cases h : y < x
  · rw [if_pos h, if_pos ((sx_jlt hy hx).mpr h)]; rfl
  · rw [if_neg h, if_neg (fun q => h ((sx_jlt hy hx).mp q))]
    by_cases h2 : x = y
    · rw [if_pos h2, if_pos (by rw [h2])]; rfl
    · rw [if_neg h2, if_neg (fun q => h2 ((sx_jeq hx hy).mp q))]; rfl
theorem sx_cmp_r (x y : Int) : sx_r32 (sx_cmp x y) := by
  unfold sx_cmp
  split
  · exact ⟨by omega, by omega⟩
  · split <;> exact ⟨by omega, by omega⟩
theorem sx_ne0 {y : Int} (hy : sx_r32 y) (h : y ≠ 0) : ¬ Int32.ofInt y = 0 := fun q => h ((sx_ieq hy (show sx_r32 0 from ⟨by omega, by omega⟩)).mp q)
theorem sx_ne0J {y : Int} (hy : sx_r64 y) (h : y ≠ 0) : ¬ Int64.ofInt y = 0 := fun q => h ((sx_jeq hy (show sx_r64 0 from ⟨by omega, by omega⟩)).mp q)
theorem sx_mw_len : sx_mw.length = sx_Ms.length := by decide +kernel
theorem sx_zipall {α β : Type} {f : α × β → Bool} : ∀ (as : List α) (bs : List β), (as.zip bs).all f = true → ∀ (i : Nat) (a : α) (b : β), as[i]? = some a → bs[i]? = some b → f (a, b) = true := by
  intro as bs h i a b ha hb
  refine List.all_eq_true.mp h (a, b) ?_
  apply List.mem_of_getElem? (i := i)
  rw [List.getElem?_zip_eq_some]
  exact ⟨ha, hb⟩
theorem sx_mok_all : (sx_Ms.zip sx_mw).all (fun q => sx_mok q.1 q.2) = true := by
  have zapp : ∀ {a1 a2 : List sx_Mt} {b1 b2 : List (Nat × Nat × Nat × Nat × Nat)}, a1.length = b1.length → (a1.zip b1).all (fun q => sx_mok q.1 q.2) = true → (a2.zip b2).all (fun q => sx_mok q.1 q.2) = true → ((a1 ++ a2).zip (b1 ++ b2)).all (fun q => sx_mok q.1 q.2) = true := by
    intro a1 a2 b1 b2 h h1 h2
    rw [List.zip_append h, List.all_append, h1, h2]
    rfl
  unfold sx_Ms sx_mw
  exact zapp (by decide +kernel) sx_mok0 (zapp (by decide +kernel) sx_mok1 (zapp (by decide +kernel) sx_mok2 (zapp (by decide +kernel) sx_mok3 (zapp (by decide +kernel) sx_mok4 (zapp (by decide +kernel) sx_mok5 (zapp (by decide +kernel) sx_mok6 (zapp (by decide +kernel) sx_mok7 (zapp (by decide +kernel) sx_mok8 sx_mok9))))))))
theorem sx_mcs_all : ∀ m ∈ sx_Ms, Cond.code m.1 m.2.1 m.2.2.1 m.2.2.2.1 ∈ lw_tbl := by
  unfold sx_Ms
  exact List.forall_mem_append.mpr ⟨sx_mcs0, List.forall_mem_append.mpr ⟨sx_mcs1, List.forall_mem_append.mpr ⟨sx_mcs2, List.forall_mem_append.mpr ⟨sx_mcs3, List.forall_mem_append.mpr ⟨sx_mcs4, List.forall_mem_append.mpr ⟨sx_mcs5, List.forall_mem_append.mpr ⟨sx_mcs6, List.forall_mem_append.mpr ⟨sx_mcs7, List.forall_mem_append.mpr ⟨sx_mcs8, sx_mcs9⟩⟩⟩⟩⟩⟩⟩⟩⟩
/-- a method's words, by its number -/
theorem sx_mwords {i : Nat} (h : i < sx_Ms.length) : Cond.code (sx_M i).1 (sx_M i).2.1 (sx_M i).2.2.1 (sx_M i).2.2.2.1 ∈ sx_TB ∧ (sx_kd i = 1 → Cond.static (sx_M i).1 ∈ sx_TB) ∧ (sx_kd i = 2 → Cond.instanceMethod (sx_M i).1 ∈ sx_TB ∧ (sx_M i).1.name = "<init>") ∧ (sx_kd i = 0 → Cond.instanceMethod (sx_M i).1 ∈ sx_TB ∧ Cond.selects (sx_M i).1.cls (sx_M i).1 (sx_M i).1 ∈ sx_TB) ∧ Cond.initialized (sx_M i).1.cls ∈ sx_TB ∧ plainName (sx_M i).1.cls = true ∧ ((sx_M i).1.cls ≠ "java/lang/invoke/MethodHandle" ∧ (sx_M i).1.cls ≠ "java/lang/invoke/VarHandle") := by
  have e1 : sx_Ms[i]? = some (sx_M i) := by
    unfold sx_M
    rw [List.getD_eq_getElem?_getD, List.getElem?_eq_getElem h]
    rfl
  have h2 : i < sx_mw.length := by rw [sx_mw_len]; exact h
  have e2 : sx_mw[i]? = some (sx_mw.getD i (9, 0, 0, 0, 0)) := by
    rw [List.getD_eq_getElem?_getD, List.getElem?_eq_getElem h2]
    rfl
  have k := sx_zipall _ _ sx_mok_all i _ _ e1 e2
  have kc := sx_mcs_all _ (List.mem_of_getElem? e1)
  unfold sx_kd
  generalize sx_mw.getD i (9, 0, 0, 0, 0) = w at k ⊢
  generalize sx_M i = mt at k kc ⊢
  obtain ⟨w1, w2, w3, w4, w5⟩ := w
  unfold sx_mok at k
  simp only [Bool.and_eq_true, decide_eq_true_eq] at k
  obtain ⟨⟨⟨k1, k2⟩, k3⟩, k4⟩ := k
  refine ⟨List.mem_filter.mpr ⟨kc, rfl⟩, fun e => ?_, fun e => ?_, fun e => ?_, sx_words k2 rfl, k3, k4⟩
  · simp only at e
    subst e
    exact sx_words (of_decide_eq_true k1) rfl
  · simp only at e
    subst e
    simp only [Bool.and_eq_true, decide_eq_true_eq] at k1
    exact ⟨sx_words k1.1 rfl, k1.2⟩
  · simp only at e
    subst e
    simp only [Bool.and_eq_true, decide_eq_true_eq] at k1
    exact ⟨sx_words k1.1 rfl, sx_words k1.2 rfl⟩
theorem sx_ml_mem {q : Nat × Nat × Nat × Nat} (h : q ∈ sx_ml) : sx_mlok q = true := by
  have key : ∀ q ∈ sx_ml, sx_mlok q = true := by
    unfold sx_ml
    intro q h
    simp only [List.mem_append] at h
    rcases h with h | h | h | h
    · exact List.all_eq_true.mp sx_mlok0 q h
    · exact List.all_eq_true.mp sx_mlok1 q h
    · exact List.all_eq_true.mp sx_mlok2 q h
    · exact List.all_eq_true.mp sx_mlok3 q h
  exact key q h
theorem sx_TBg {w : Cond} (h : w ∈ sx_TB) : (w.onTables && w.keeps) = true ∨ ∃ ty, w = .arrayClass ty := good_of_word (List.mem_filter.mp h).2
theorem sx_good_ws {i : Nat} (h : i < sx_Ms.length) : GoodIn sx_TB (sx_ws (sx_M i)) := by
  intro w hw
  have hm : w ∈ sx_TB := by
    rcases List.mem_cons.mp hw with rfl | hw
    · exact (sx_mwords h).1
    · exact hw
  exact ⟨hm, sx_TBg hm⟩
theorem sx_blind {X : sx_X} {vs : List sx_V} {sh : sx_H} {σ : sx_S} (hst : sx_stb X) : FrameBlind (sx_Pc X vs sh σ) := by
  intro a U g mk h
  obtain ⟨h1, h2, h3, h4, h5, h6⟩ := h
  exact ⟨h1, h2, va_K.moved (u := U) (U := U.calling g mk a) (Vm.Alike.refl U.vm) h3, h4, hst U (U.calling g mk a) (State.WarmedH.refl U) (fun _ _ => rfl) h5, h6⟩
section SXC
variable {p : Program} {e : Env} {R : Room} {s : State} {m : MethodId} {args : Array Value} {below : List Frame} {meth : Method} {c : Code} {nc ns : Nat} {Q : State → Prop} {X : sx_X} {own : Nat} {mt : sx_Mt}
variable {L : sx_L} {st : List sx_V} {sh : sx_H} {σ : sx_S} {pc : Nat}
theorem sx_after {nL : Nat} {R' : sx_R} {rest : List sx_V} {st0 : List Value} {ls : Array Slot} {H : Heap} {locs : List Loc} {a : Array Value}
    (hr : va_Run p X.1 e R s m args below meth c H locs nc ns 0 0 (F0 m pc ls st0) (rest.map (sx_tv X.2.2.2.2.1)) (sx_Qc X sh R' a) (sx_A X))
    (hlv : lv_has ls nL (sx_as X.2.2.2.2.1 L)) (hLl : L.length = nL) (hLo : sx_okL L) (hS : va_S (sx_A X) s.heap H locs) (hO : sx_okS rest)
    (h : ∀ (r : Option sx_V) (σ' : sx_S), R' r sh σ' → sx_AT p e R s m args below meth c nc ns Q X nL (pc + 3) L (sx_psh r rest) sh σ') : W p X.1 e R s m args below meth c H locs nc ns Q (F0 m pc ls st0) := by
  intro T hT X0
  obtain ⟨v, st₀, t, T', L1, h0, X', hL, e1, e2, ⟨⟨r, σ', hv, hR, hok, hsim⟩, hz, hk⟩, stp⟩ := hr T hT X0
  have hv : v = r.map (sx_tv X.2.2.2.2.1) := Outcome.returned.inj hv
  subst hv
  rw [h0] at hz hk
  have hS' : va_S (sx_A X) s.heap T'.heap (locs ++ L1) := ⟨Nat.le_trans hS.1 (by rw [e1]; exact hz), fun q h1 h2 => by rw [e1, hk q (Nat.lt_of_lt_of_le h1 hS.1) h2]; exact hS.2.1 q h1 h2, fun q hq => by
      rcases List.mem_append.mp hq with h | h
      · exact hS.2.2 q h
      · exact hL q h⟩
  have hO' : sx_okS (sx_psh r rest) := by
    cases r with
    | none => exact hO
    | some v => exact sx_okS_cons (hok v (by simp)) hO
  obtain ⟨t2, a1, b1⟩ := h r σ' hR ls T'.heap (locs ++ L1) ⟨by rw [e1]; exact hsim, hlv, hLl, hLo, hS'⟩ hO' T' rfl X'
  refine ⟨t2, stp t2 ?_, b1⟩
  have e3 : (r.map (sx_tv X.2.2.2.2.1)).toList ++ rest.map (sx_tv X.2.2.2.2.1) = (sx_psh r rest).map (sx_tv X.2.2.2.2.1) := by cases r <;> rfl
  show Steps p.tables e below (T'.setTop (F0 m (pc + 3) ls ((r.map (sx_tv X.2.2.2.2.1)).toList ++ rest.map (sx_tv X.2.2.2.2.1)))) t2
  rw [e3]
  exact a1
theorem sx_pre {H : Heap} {locs : List Loc} {vs : List sx_V} (hF : sx_Fx p s m args meth c R nc ns X own mt) (hsim : sx_sim X sh σ H) (hS : va_S (sx_A X) s.heap H locs) (hv : sx_okS vs) : ∀ U : State, U.heap = H → s.WarmedH U.vm → sx_Pc X vs sh σ (vs.map (sx_tv X.2.2.2.2.1)).toArray U := by
  obtain ⟨hx, hb, hml, hown, hts, hK, hKx, hst, hbs, -⟩ := hF
  intro U hU hW
  refine ⟨rfl, by rw [hU]; exact hsim, va_K.moved hW.alike hK, hv, hst s U hW (fun q hq => ?_) hKx, ?_⟩
  · rw [hU]
    exact hS.2.1 q (by omega) (fun z => by unfold sx_A at z; omega)
  · rw [hU]
    exact Nat.le_trans hbs hS.1
theorem sx_okc_el {idx kd i n : Nat} (h : sx_okc own mt idx kd i n = true) : Cond.methodLink (sx_rn own) idx (sx_M i).1 ∈ sx_TB ∧ i < sx_Ms.length ∧ sx_kd i = kd ∧ (parseMethodDescriptor (sx_M i).1.desc).map (fun d => d.parameters.length + (if kd = 0 then 1 else 0)) = some n ∧ (sx_M i).2.2.2.2.1 + 1 ≤ mt.2.2.2.2.1 ∧ 8 + ((sx_M i).2.2.1 + 11) + (sx_M i).2.2.2.2.2.1 ≤ mt.2.2.2.2.2.1 := by
  unfold sx_okc at h
  simp only [Bool.and_eq_true, decide_eq_true_eq, beq_iff_eq] at h
  obtain ⟨h1, h2, h3, h4, h5, h6⟩ := h
  obtain ⟨pl, hpl⟩ := sx_has4_el h1
  have k := sx_ml_mem hpl
  unfold sx_mlok at k
  exact ⟨sx_words (of_decide_eq_true k) rfl, h2, h3, h4, h5, h6⟩
theorem sx_o_callS {idx i n : Nat} {R' : sx_R} (hF : sx_Fx p s m args meth c R nc ns X own mt) (hd : decode mt.2.1 pc = .ok (.invokestatic idx, 3)) (hc : sx_okc own mt idx 1 i n = true) (hn : n ≤ st.length) (hcat : sx_cat (st.drop n) ≤ 8) (hrun : sx_Run X i (st.take n).reverse sh σ R')
    (h : ∀ (r : Option sx_V) (σ' : sx_S), R' r sh σ' → sx_AT p e R s m args below meth c nc ns Q X mt.2.2.1 (pc + 3) L (sx_psh r (st.drop n)) sh σ') : sx_AT p e R s m args below meth c nc ns Q X mt.2.2.1 pc L st sh σ := by
  have hF' := hF
  obtain ⟨hx, hb, hml, hown, hts, hK, hKx, hst, hbs, hRf, hRl, hnc, -⟩ := hF'
  obtain ⟨hl, hi, hkd, hpd, hfr, hlo⟩ := sx_okc_el hc
  obtain ⟨w1, w2, w3, w4, w5, w6, w7⟩ := sx_mwords hi
  intro ls H locs hG hO
  obtain ⟨hsim, hlv, hLl, hLo, hS⟩ := hG
  have hOt : sx_okS (st.take n).reverse := fun v hv => hO v (List.mem_of_mem_take (List.mem_reverse.mp hv))
  have hOd : sx_okS (st.drop n) := fun v hv => hO v (List.mem_of_mem_drop hv)
  refine sx_after (a := ((st.take n).reverse.map (sx_tv X.2.2.2.2.1)).toArray) (rest := st.drop n) (va_runS (As := (st.take n).reverse.map (sx_tv X.2.2.2.2.1)) (Ts := sx_TB) ⟨hx, hb, hml, hown, hts⟩ (hrun hst) ⟨callB_of (ws' := sx_TB) n hts (sx_good_ws hi) rfl rfl rfl (hts _ w5) (hts _ hl) ⟨w7.1, w7.2, by simpa using hpd⟩ ⟨by show _ + 1 ≤ _; exact Nat.le_trans hfr hRf, Nat.le_trans hlo hRl⟩, hts _ (w2 hkd)⟩ ⟨sx_blind hst, sx_pre hF hsim hS hOt⟩ rfl ?_ hlv.1 ?_ ?_ hd hnc) hlv hLl hLo hS hOd h
  · simp; omega
  · show st.map (sx_tv X.2.2.2.2.1) = _
    rw [← List.map_reverse, List.reverse_reverse, ← List.map_append, List.take_append_drop]
  · have := sx_catS (ad := X.2.2.2.2.1) (st.drop n)
    show 2 * 0 + _ ≤ 8
    omega
theorem sx_o_callV {idx i n ci : Nat} {R' : sx_R} (hF : sx_Fx p s m args meth c R nc ns X own mt) (hd : decode mt.2.1 pc = .ok (.invokevirtual idx, 3)) (hc : sx_okc own mt idx 0 i n = true) (hcn : sx_rn ci = (sx_M i).1.cls) (hci : ci < 13) (hn : n ≤ st.length) (hcat : sx_cat (st.drop n) ≤ 8) (hrc : sx_rc (st.drop (n - 1)) sh ci) (hrun : sx_Run X i (st.take n).reverse sh σ R')
    (h : ∀ (r : Option sx_V) (σ' : sx_S), R' r sh σ' → sx_AT p e R s m args below meth c nc ns Q X mt.2.2.1 (pc + 3) L (sx_psh r (st.drop n)) sh σ') : sx_AT p e R s m args below meth c nc ns Q X mt.2.2.1 pc L st sh σ := by
  have hF' := hF
  obtain ⟨hx, hb, hml, hown, hts, hK, hKx, hst, hbs, hRf, hRl, hnc, -⟩ := hF'
  obtain ⟨hl, hi, hkd, hpd, hfr, hlo⟩ := sx_okc_el hc
  obtain ⟨w1, w2, w3, w4, w5, w6, w7⟩ := sx_mwords hi
  intro ls H locs hG hO
  obtain ⟨hsim, hlv, hLl, hLo, hS⟩ := hG
  have hOt : sx_okS (st.take n).reverse := fun v hv => hO v (List.mem_of_mem_take (List.mem_reverse.mp hv))
  have hOd : sx_okS (st.drop n) := fun v hv => hO v (List.mem_of_mem_drop hv)
  obtain ⟨k, hpk⟩ : ∃ k, n = k + 1 := by
    simp only [if_pos] at hpd
    cases hp : parseMethodDescriptor (sx_M i).1.desc with
    | none => rw [hp] at hpd; cases hpd
    | some d => rw [hp] at hpd; exact ⟨d.parameters.length, (Option.some.inj hpd).symm⟩
  subst hpk
  obtain ⟨a, r9, er9, hrc⟩ : ∃ a r9, st.drop k = .inr (.inr a) :: r9 ∧ sx_lk sh a = (0, ci) := by
    rw [Nat.add_sub_cancel] at hrc
    unfold sx_rc at hrc
    split at hrc
    · rename_i a r9 er
      exact ⟨a, r9, er, hrc⟩
    · exact hrc.elim
  have edr : st.drop (k + 1) = r9 := by rw [← List.drop_drop, er9]; rfl
  have etk : st.take (k + 1) = st.take k ++ [.inr (.inr a)] := by
    have : st[k]? = some (.inr (.inr a)) := by
      have := List.getElem?_drop (xs := st) (i := k) (j := 0)
      rw [er9] at this
      simpa using this.symm
    rw [List.take_succ, this]
    rfl
  obtain ⟨hat, hlt, ea, ha0, hsh⟩ := sx_ent_at (X := X) (σ := σ) hrc (by omega)
  obtain ⟨cellB, q1, q2, q3⟩ := va_recv (q := (sx_rn ci, sx_cT ci, sx_nf ci)) hK hsim.2.2.1 (sx_cls ci hci) hat
  have emap : ((st.take (k + 1)).reverse.map (sx_tv X.2.2.2.2.1)).toArray = (Value.ref (X.2.2.2.2.1.getD a.toNat 0) :: ((st.take k).reverse.map (sx_tv X.2.2.2.2.1))).toArray := by
    rw [etk, List.reverse_append]
    show (sx_tv X.2.2.2.2.1 (.inr (.inr a)) :: _).toArray = _
    rw [sx_tv_ref ha0]
    rfl
  have hpre := sx_pre (σ := σ) hF hsim hS hOt
  rw [emap] at hpre
  refine sx_after (a := (Value.ref (X.2.2.2.2.1.getD a.toNat 0) :: ((st.take k).reverse.map (sx_tv X.2.2.2.2.1))).toArray) (rest := st.drop (k + 1)) (va_runV (C := sx_rn ci) (b := X.2.2.2.2.1.getD a.toNat 0) (As := (st.take k).reverse.map (sx_tv X.2.2.2.2.1)) (Ts := sx_TB) ⟨hx, hb, hml, hown, hts⟩ (hrun hst) ⟨callB_of (ws' := sx_TB) k hts (sx_good_ws hi) rfl rfl rfl (hts _ w5) (hts _ hl) ⟨w7.1, w7.2, ?_⟩ ⟨by show _ + 1 ≤ _; exact Nat.le_trans hfr hRf, Nat.le_trans hlo hRl⟩, hts _ (w4 hkd).1, by rw [hcn]; exact hts _ (w4 hkd).2⟩ ⟨sx_blind hst, ⟨cellB, q1, q2, q3⟩, hpre⟩ rfl ?_ hlv.1 ?_ ?_ hd hnc) hlv hLl hLo hS hOd h
  · simp only [if_pos] at hpd
    cases hp : parseMethodDescriptor (sx_M i).1.desc with
    | none => rw [hp] at hpd; cases hpd
    | some d =>
      rw [hp] at hpd
      have h9 : d.parameters.length + 1 = k + 1 := Option.some.inj hpd
      simp only [Option.map_some]
      congr 1
      omega
  · simp; omega
  · show st.map (sx_tv X.2.2.2.2.1) = _
    rw [← List.map_reverse, List.reverse_reverse, ← sx_tv_ref ha0, edr]
    have : st = st.take k ++ .inr (.inr a) :: r9 := by rw [← er9, List.take_append_drop]
    conv => lhs; rw [this]
    rw [List.map_append]
    rfl
  · have := sx_catS (ad := X.2.2.2.2.1) (st.drop (k + 1))
    show 2 * 0 + _ ≤ 8
    omega
end SXC
