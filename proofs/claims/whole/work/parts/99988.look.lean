/-! THE CLASS'S look: it answers, or throws one of two -/
def sx_sq (Rn : sx_C) (k : sx_K) : List sx_I → sx_K
  | [] => k
  | I :: is => fun L st sh σ => sx_st Rn I L st sh σ (fun L st sh σ => sx_sq Rn k is L st sh σ)
def sx_sqB (own : Nat) (mt : sx_Mt) : List sx_I → Nat → Bool
  | [], _ => true
  | I :: is, pc => decide (decode mt.2.1 pc = .ok (I.2.1, I.1)) && (sx_ok1 own mt pc I && sx_sqB own mt is (pc + I.1))
theorem sx_sim_kept {X : sx_X} {sh : sx_H} {σ : sx_S} {H H1 : Heap} (h : sx_sim X sh σ H) (hq : ∀ q, q < H.size → H1[q]? = H[q]?) : sx_sim X sh σ H1 := ⟨h.1, h.2.1, h.2.2.1.kept (fun k x hx => hq _ ((h.2.2.1 k x hx).lt)), h.2.2.2⟩
section LK1
variable {p : Program} {e : Env} {R : Room} {s : State} {m : MethodId} {args : Array Value} {below : List Frame} {meth : Method} {c : Code} {nc ns : Nat} {Q : State → Prop} {X : sx_X} {own : Nat} {mt : sx_Mt}
variable {sh : sx_H}
/-- straight code, any end -/
theorem sx_sq_ok (hF : sx_Fx p s m args meth c R nc ns X own mt) {k : sx_K} : ∀ (is : List sx_I) (pc : Nat) (L : sx_L) (st : List sx_V) (σ : sx_S), sx_sqB own mt is pc = true → sx_sq (sx_Run X) k is L st sh σ → (∀ L st σ, k L st sh σ → sx_AT p e R s m args below meth c nc ns Q X mt.2.2.1 (pc + gx_ln is) L st sh σ) → sx_AT p e R s m args below meth c nc ns Q X mt.2.2.1 pc L st sh σ := by
  intro is
  induction is with
  | nil => intro pc L st σ _ h hk; exact hk L st σ h
  | cons I is ih =>
    intro pc L st σ hB h hk
    unfold sx_sqB at hB
    simp only [Bool.and_eq_true, decide_eq_true_eq] at hB
    refine sx_st_ok hF (I := I) hB.1 hB.2.1 h (fun L1 st1 σ1 h1 => ih _ _ _ _ hB.2.2 h1 (fun L2 st2 σ2 h2 => ?_))
    have := hk L2 st2 σ2 h2
    rw [show pc + gx_ln (I :: is) = pc + I.1 + gx_ln is from (by show pc + (I.1 + gx_ln is) = _; omega)] at this
    exact this
theorem sx_jtab {nL pc len : Nat} {L : sx_L} {st : List sx_V} {σ : sx_S} (hF : sx_Fx p s m args meth c R nc ns X own mt) {d lo hi x : Int} {os : Array Int} {t : Nat} {ts : List Nat} (hd : decode mt.2.1 pc = .ok (.tableswitch d lo hi os, len)) (ht : (pc : Int) + d = (t : Int)) (hm : os.toList.map (fun o => (pc : Int) + o) = ts.map (fun (x : Nat) => (x : Int))) (hlen : hi - lo + 1 = (ts.length : Int))
    (h0 : x < lo ∨ hi < x → sx_AT p e R s m args below meth c nc ns Q X nL t L st sh σ) (h1 : ∀ (j t' : Nat), ts[j]? = some t' → x = lo + (j : Int) → sx_AT p e R s m args below meth c nc ns Q X nL t' L st sh σ) : sx_AT p e R s m args below meth c nc ns Q X nL pc L (.inl x :: st) sh σ := by
  obtain ⟨hx, hb, -⟩ := hF
  intro ls H locs hG hO
  have hxr : sx_r32 x := sx_okS_hd hO
  have ex : (Int32.ofInt x).toInt = x := sx_ti hxr
  by_cases hout : x < lo ∨ hi < x
  · exact lv_tableOut hx hb hd (by rw [ex]; exact hout) ht (h0 hout ls H locs hG (sx_okS_tl hO))
  · have hj : (x - lo).toNat < ts.length := by omega
    have hts : ts[(x - lo).toNat]? = some ts[(x - lo).toNat] := List.getElem?_eq_getElem hj
    have hos : os.toList.length = ts.length := by have := congrArg List.length hm; simpa using this
    have hj2 : (x - lo).toNat < os.toList.length := by omega
    have hoe : os.toList[(x - lo).toNat]? = some os.toList[(x - lo).toNat] := List.getElem?_eq_getElem hj2
    have hmm : (pc : Int) + os.toList[(x - lo).toNat] = ((ts[(x - lo).toNat] : Nat) : Int) := by
      have := congrArg (fun l => l[(x - lo).toNat]?) hm
      simp only [List.getElem?_map, hts, hoe, Option.map_some, Option.some.injEq] at this
      exact this
    refine lv_tableIn hx hb hd (by rw [ex]; omega) (by rw [ex]; omega) (off := os.toList[(x - lo).toNat]) ?_ hmm (h1 _ _ hts (by omega) ls H locs hG (sx_okS_tl hO))
    rw [ex, ← Array.getElem?_toList]
    exact hoe
end LK1
def lk_C (r : Int) : String := if r = 1 then nIO else nNS
/-- how look ends -/
def lk_Q (X : sx_X) (r : Int × Int) (σ : sx_S) : Array Value → State → Outcome → State → Prop := fun _ st oc t => va_F (sx_A X) st t ∧ sx_sim X shM σ t.heap ∧ st.WarmedH t.vm ∧ (∃ L, st.sameButNew ({ t with vm := st.vm } : State) L 1 6 ∧ ∀ q ∈ L, sx_A X q.base) ∧
  ((r.2 = 0 ∧ oc = .returned (some (.int (Int32.ofInt r.1)))) ∨ (¬ r.2 = 0 ∧ ∃ (a : Addr) (ce : Cell), oc = .threw a ∧ t.heap[a]? = some ce ∧ ce.vm = .none ∧ st.vm.findClass (lk_C r.2) = some ce.cls))
def lk_rm : Room := { frames := 6, cells := 1, slots := 6, locals := 120 }
/-- the texts of the two exceptions -/
def lk_T (X : sx_X) (a1 a2 : Nat) : Prop := ∀ U : State, X.2.2.2.2.2 U → th_Z X.2.2.2.1 U ∧ vk_R "SnowScore" 137 "no such walker" a1 U ∧ vk_R "SnowScore" 160 "no such what" a2 U
section LK2
variable {p : Program} {e : Env} {s : State} {m : MethodId} {args : Array Value} {below : List Frame} {meth : Method} {c : Code} {X : sx_X} {L : sx_L} {σ : sx_S} {r : Int × Int} {a1 a2 : Nat} {R : Room}
abbrev lk_E (below : List Frame) (args : Array Value) (s : State) (X : sx_X) (r : Int × Int) (σ : sx_S) : State → Prop := fun t => ∃ o, t.status = .running ∧ Ended t below o ∧ lk_Q X r σ args s o t
theorem lk_ret {pc : Nat} {v : Int} (hF : sx_Fx p s m args meth c R 0 0 X 11 (sx_M 128)) (hr : meth.sig.returnType = some .int) (hlk : meth.locks = false) (hd : decode (sx_M 128).2.1 pc = .ok (.ireturn, 1)) (hv : r = (v, 0)) : sx_AT p e R s m args below meth c 0 0 (lk_E below args s X r σ) X (sx_M 128).2.2.1 pc L [.inl v] shM σ := by
  intro ls H locs hG hO
  obtain ⟨hsim, hlv, hLl, hLo, hS⟩ := hG
  have h9 := W.iret (p := p) (l := X.1) (e := e) (R := R) (s := s) (m := m) (args := args) (below := below) (meth := meth) (c := c) (H := H) (locs := locs) (cells := 0) (slots := 0) (Qc := fun _ st oc t => oc = .returned (some (.int (Int32.ofInt v))) ∧ va_F (sx_A X) st t ∧ sx_sim X shM σ t.heap) (free := sx_A X) (v := Int32.ofInt v) hF.1 hF.2.1 hr (fun t ht _ => ⟨rfl, hS.F ht, by rw [ht]; exact hsim⟩) hS.2.2 (pc := pc) (ls := ls) hd hlk
  intro T hT X0
  obtain ⟨t, a9, o, b1, b2, ⟨b3, b4, b5⟩, L1, ⟨-, b6, b7⟩, b8⟩ := h9 T hT X0
  refine ⟨t, a9, o, b1, b2, b4, b5, b6, ⟨L1, b7.mono (by omega) (by omega), b8⟩, Or.inl ⟨by rw [hv], by rw [hv]; exact b3⟩⟩
set_option maxHeartbeats 2000000 in
theorem lk_thr {pc ic ix it a : Nat} {cls tx : String} {bytes : ByteArray} (hF : sx_Fx p s m args meth c R 0 0 X 11 (sx_M 128)) (hR : 6 ≤ R.frames ∧ 120 ≤ R.locals ∧ 1 ≤ R.cells ∧ 6 ≤ R.slots) (hlk : meth.locks = false) (hfl : X.1.flags = flags0) (hne : c.exceptionTable.isEmpty = true) (hT2 : lk_T X a1 a2)
    (hd : decode (sx_M 128).2.1 pc = .ok (.new ix, 3)) (hd3 : decode (sx_M 128).2.1 (pc + 3) = .ok (.dup, 1)) (hd4 : decode (sx_M 128).2.1 (pc + 4) = .ok (.ldc it, 2)) (hd6 : decode (sx_M 128).2.1 (pc + 6) = .ok (.invokespecial ic, 3)) (hd9 : decode (sx_M 128).2.1 (pc + 9) = .ok (.athrow, 1))
    (hw1 : Cond.classLink "SnowScore" ix cls ∈ sx_TB) (hw2 : Cond.instantiable cls 6 ∈ sx_TB) (hw3 : Cond.initialized cls ∈ sx_TB) (hfit : Bundle.fit cls = true) (hB : ∀ x ∈ th_B "SnowScore" ic cls bytes, x.before args s = true) (hch : ∀ pl : Platform, pl.magicAccessors = ({} : Platform).magicAccessors → th_ch pl s cls) (hvr : vk_R "SnowScore" it tx a s) (hr0 : ¬ r.2 = 0) (hrc : lk_C r.2 = cls) :
    sx_AT p e R s m args below meth c 0 0 (lk_E below args s X r σ) X (sx_M 128).2.2.1 pc L [] shM σ := by
  obtain ⟨hx, hb, hml, hown, hts, hK, hKx, hst, hbs, hRf, hRl, hnc, hmn⟩ := hF
  have hown : s.vm.findClass "SnowScore" = some m.cls := hown
  intro ls H locs hG hO
  obtain ⟨hsim, hlv, hLl, hLo, hS⟩ := hG
  have hZ := (hT2 s hKx).1
  obtain ⟨cX, kX, hfX, hkX, -⟩ := Cond.instantiable_spec (hts _ hw2)
  refine W.newcK hx hb hown (hts _ hw1) (hts _ hw2) (hts _ hw3) rfl hd hR.2.2.1 hR.2.2.2 hfX rfl fun H1 kC hkC e1 z1 o1 => ?_
  refine lv_dup hx hb hd3 rfl ?_
  refine va_ldcS hx hb hown hvr hd4 ?_
  intro T hT X0
  have htr : e.platform.stackTraces = false := by
    rw [X0.admits.platform]
    show X.1.stackTraces = false
    unfold Launch.stackTraces
    rw [hfl]
    decide +kernel
  have hbs2 : X.2.2.2.1 ≤ H.size := Nat.le_trans hbs hS.1
  obtain ⟨U, u1, u2, u3, u4, u5, u6, ce, u7, u8, u9⟩ := th_own (b := X.2.2.2.1) X0 hZ.1 hS.2.2 hx htr hown hfit (th_wA hts hZ) (th_wS hts hZ) hB (hch _ (by rw [X0.admits.platform])) hfX hkC (a := H.size) (by rw [hT]; exact e1) hS.1 (msg := .ref a) rfl (pc := pc + 6) (ls := ls) (hlv.1.trans hml.symm) (by rw [hb]; exact hd6) (by rw [hb]; exact hd9) (fun x hx9 => by
      have : c.exceptionTable.toList = [] := by simpa using hne
      rw [this] at hx9
      cases hx9) (by omega) hR.2.1 hlk
  have hold : ∀ q, q < H.size → U.heap[q]? = H[q]? := fun q hq => by
    rw [u6 q (Nat.ne_of_lt hq), hT]
    exact o1 q hq
  refine ⟨U, u1, _, u2, u3, ⟨u5.2.1, fun q h1 h2 => ?_⟩, sx_sim_kept hsim hold, u4, ⟨locs, u5, hS.2.2⟩, Or.inr ⟨hr0, H.size, ce, rfl, u7, u9, by rw [hrc, u8]; exact hfX⟩⟩
  rw [hold q (Nat.lt_of_lt_of_le h1 hS.1)]
  exact hS.2.1 q h1 h2
def lk_b1 : List sx_I := [(1, .aload_n 0, []), (3, .getfield 22, [11, 2, 2]), (1, .iload_n 1, []), (3, .invokevirtual 131, [0, 48, 2, 5])]
def lk_g0 : List sx_I := [(1, .aload_n 0, []), (3, .getfield 50, [11, 6, 2]), (3, .getfield 142, [9, 2, 2]), (1, .iload_n 1, []), (1, .iaload, [])]
def lk_g1 : List sx_I := [(1, .aload_n 0, []), (3, .getfield 22, [11, 2, 2]), (3, .getfield 146, [5, 8, 2]), (1, .iload_n 1, []), (1, .iaload, [])]
def lk_g2 : List sx_I := [(1, .aload_n 0, []), (3, .getfield 50, [11, 6, 2]), (3, .getfield 149, [9, 3, 2]), (1, .iload_n 1, []), (1, .iaload, [])]
def lk_g3 : List sx_I := [(1, .aload_n 0, []), (3, .getfield 50, [11, 6, 2]), (3, .getfield 152, [9, 4, 2]), (1, .iload_n 1, []), (1, .iaload, [])]
def lk_g4 : List sx_I := [(1, .aload_n 0, []), (3, .getfield 22, [11, 2, 2]), (3, .getfield 155, [5, 11, 2]), (1, .iload_n 1, []), (1, .iaload, [])]
theorem lk_b1_ok : sx_sqB 11 (sx_M 128) lk_b1 0 = true := by decide +kernel
theorem lk_g0_ok : sx_sqB 11 (sx_M 128) lk_g0 56 = true := by decide +kernel
theorem lk_g1_ok : sx_sqB 11 (sx_M 128) lk_g1 66 = true := by decide +kernel
theorem lk_g2_ok : sx_sqB 11 (sx_M 128) lk_g2 76 = true := by decide +kernel
theorem lk_g3_ok : sx_sqB 11 (sx_M 128) lk_g3 86 = true := by decide +kernel
theorem lk_g4_ok : sx_sqB 11 (sx_M 128) lk_g4 96 = true := by decide +kernel
variable {P : aP} {A : aM} {W9 : aW} {pl w q : Int}
abbrev lk_L (w q : Int) : sx_L := [some (.inr (.inr 0)), some (.inl w), some (.inl q)]
/-- a number out of a row of the field now -/
theorem lk_get {is : List sx_I} {pc i1 i2 f2 : Nat} {a v : Int} (his : is = [(1, .aload_n 0, []), (3, .getfield i1, [11, 6, 2]), (3, .getfield i2, [9, f2, 2]), (1, .iload_n 1, []), (1, .iaload, [])]) (hok : sx_sqB 11 (sx_M 128) is pc = true) (hF : sx_Fx p s m args meth c R 0 0 X 11 (sx_M 128)) (hr : meth.sig.returnType = some .int) (hlk : meth.locks = false) (hT : PT σ) (hd : decode (sx_M 128).2.1 (pc + 9) = .ok (.ireturn, 1)) (ha : σ 40 (f2 : Int) = a) (hl : sx_lk shM a = (1, 5)) (hw : 0 ≤ w ∧ w < 5) (hv : σ a w = v) (hrr : r = (v, 0)) : sx_AT p e R s m args below meth c 0 0 (lk_E below args s X r σ) X (sx_M 128).2.2.1 pc (lk_L w q) [] shM σ := by
  subst his
  refine sx_sq_ok hF _ pc _ _ _ hok (k := fun L' st' _ σ' => L' = lk_L w q ∧ st' = [.inl v] ∧ σ' = σ) ?_ (fun L1 st1 σ1 hk => ?_)
  · refine ⟨rfl, ?_⟩
    have e9 : σ (σ 0 6) (f2 : Int) = a := by rw [pt_0_6 hT]; exact ha
    have e8 : sx_lk shM (σ 0 6) = (0, 9) := by rw [pt_0_6 hT]; rfl
    refine ⟨e8, ?_⟩
    show sx_ix shM 1 (σ (σ 0 6) (f2 : Int)) w ∧ (lk_L w q = lk_L w q ∧ ([.inl (σ (σ (σ 0 6) (f2 : Int)) w)] : List sx_V) = [.inl v] ∧ σ = σ)
    rw [e9, hv]
    exact ⟨sx_ixI hl hw.1 (show w < ((5 : Nat) : Int) by omega), rfl, rfl, rfl⟩
  · obtain ⟨rfl, rfl, rfl⟩ := hk
    exact lk_ret hF hr hlk hd hrr
theorem lk_getP {is : List sx_I} {pc i1 i2 f2 : Nat} {a v : Int} (his : is = [(1, .aload_n 0, []), (3, .getfield i1, [11, 2, 2]), (3, .getfield i2, [5, f2, 2]), (1, .iload_n 1, []), (1, .iaload, [])]) (hok : sx_sqB 11 (sx_M 128) is pc = true) (hF : sx_Fx p s m args meth c R 0 0 X 11 (sx_M 128)) (hr : meth.sig.returnType = some .int) (hlk : meth.locks = false) (hp : isP pl) (e2 : σ 0 2 = pl) (hd : decode (sx_M 128).2.1 (pc + 9) = .ok (.ireturn, 1)) (ha : σ pl (f2 : Int) = a) (hl : sx_lk shM a = (1, 5)) (hw : 0 ≤ w ∧ w < 5) (hv : σ a w = v) (hrr : r = (v, 0)) : sx_AT p e R s m args below meth c 0 0 (lk_E below args s X r σ) X (sx_M 128).2.2.1 pc (lk_L w q) [] shM σ := by
  subst his
  refine sx_sq_ok hF _ pc _ _ _ hok (k := fun L' st' _ σ' => L' = lk_L w q ∧ st' = [.inl v] ∧ σ' = σ) ?_ (fun L1 st1 σ1 hk => ?_)
  · refine ⟨rfl, ?_⟩
    have e9 : σ (σ 0 2) (f2 : Int) = a := by rw [e2]; exact ha
    have e8 : sx_lk shM (σ 0 2) = (0, 5) := by rw [e2]; exact lkP0 hp
    refine ⟨e8, ?_⟩
    show sx_ix shM 1 (σ (σ 0 2) (f2 : Int)) w ∧ (lk_L w q = lk_L w q ∧ ([.inl (σ (σ (σ 0 2) (f2 : Int)) w)] : List sx_V) = [.inl v] ∧ σ = σ)
    rw [e9, hv]
    exact ⟨sx_ixI hl hw.1 (show w < ((5 : Nat) : Int) by omega), rfl, rfl, rfl⟩
  · obtain ⟨rfl, rfl, rfl⟩ := hk
    exact lk_ret hF hr hlk hd hrr
theorem lk_walk (hF : sx_Fx p s m args meth c R 0 0 X 11 (sx_M 128)) (hR : 6 ≤ R.frames ∧ 120 ≤ R.locals ∧ 1 ≤ R.cells ∧ 6 ≤ R.slots) (hr : meth.sig.returnType = some .int) (hlk : meth.locks = false) (hfl : X.1.flags = flags0) (hne : c.exceptionTable.isEmpty = true) (hT2 : lk_T X a1 a2) (hp : isP pl) (e2 : σ 0 2 = pl) (g : GC 40 pl P A σ) (gw : cW P 40 σ W9) (wp : wP P) : sx_AT p e R s m args below meth c 0 0 (lk_E below args s X (fLoo P W9 w q) σ) X (sx_M 128).2.2.1 0 (lk_L w q) [] shM σ := by
  have hT := g.pt
  have ewa := g.cp.wa
  have hwa := wp.wa
  have hts := hF.2.2.2.2.1
  have hKx := hF.2.2.2.2.2.2.1
  obtain ⟨hZ, hv1, hv2⟩ := hT2 s hKx
  refine sx_sq_ok hF lk_b1 0 _ _ _ lk_b1_ok (k := fun L' st' _ σ' => L' = lk_L w q ∧ σ' = σ ∧ ((st' = [.inl 1] ∧ (0 ≤ w ∧ w < P.wa)) ∨ (st' = [.inl 0] ∧ ¬ (0 ≤ w ∧ w < P.wa)))) ?_ (fun L1 st1 σ1 hk => ?_)
  · refine ⟨rfl, ?_⟩
    refine ⟨Nat.le_refl _, by show (0 : Nat) ≤ 8; omega, ?_, ?_⟩
    · show sx_lk shM (σ 0 2) = (0, 5)
      rw [e2]
      exact lkP0 hp
    · show sx_Run X 48 [.inr (.inr (σ 0 2)), .inl w] shM σ _
      rw [e2]
      exact c_Phaswalker hp (fun h0 h1 => ⟨rfl, rfl, Or.inl ⟨rfl, h0, by rw [← ewa]; exact h1⟩⟩) (fun h => ⟨rfl, rfl, Or.inr ⟨rfl, fun z => h ⟨z.1, by rw [ewa]; exact z.2⟩⟩⟩)
  obtain ⟨rfl, rfl, hk⟩ := hk
  rcases hk with ⟨rfl, hw⟩ | ⟨rfl, hw⟩
  · refine sx_jif hF (pc := 8) (t := 21) (cc := .ne) (off := 13) (by decide +kernel) (by decide) (fun _ => ?_) (fun z => absurd (show ¬ (1 : Int) = 0 by decide) z)
    have hw5 : 0 ≤ w ∧ w < 5 := ⟨hw.1, by omega⟩
    refine sx_st_ok hF (I := (1, .iload_n 2, [])) (k := fun L' st' _ σ' => L' = lk_L w q ∧ st' = [.inl q] ∧ σ' = σ1) (by decide +kernel) (by decide +kernel) ⟨rfl, rfl, rfl⟩ (fun L2 st2 σ2 hk => ?_)
    obtain ⟨rfl, rfl, rfl⟩ := hk
    have hpos : ¬ ¬ (0 ≤ w ∧ w < P.wa) := fun z => z hw
    refine sx_jtab hF (pc := 22) (len := 34) (t := 106) (d := 84) (lo := 0) (hi := 4) (os := #[34, 44, 54, 64, 74]) (ts := [56, 66, 76, 86, 96]) (by decide +kernel) (by decide) (by decide) (by decide) (fun hq => ?_) (fun j t hj hq => ?_)
    · have e9 : fLoo P W9 w q = (0, 2) := by
        unfold fLoo
        rw [if_neg hpos, if_neg (by omega), if_neg (by omega), if_neg (by omega), if_neg (by omega), if_neg (by omega)]
      exact lk_thr hF hR hlk hfl hne hT2 (by decide +kernel) (by decide +kernel) (by decide +kernel) (by decide +kernel) (by decide +kernel) th_wN1 th_wN2 th_wN3 (by decide) (th_wN hts hZ) (fun pl9 h9 => th_chN h9 hts hZ) hv2 (by rw [e9]; decide) (by rw [e9]; rfl)
    · match j, hj with
      | 0, hj =>
        cases hj
        have hq : q = 0 := hq
        exact lk_get rfl lk_g0_ok hF hr hlk hT (by decide +kernel) (pt_40_2 hT) rfl hw5 (gw.at1 w hw.1 hw.2) (by unfold fLoo; rw [if_neg hpos, if_pos hq])
      | 1, hj =>
        cases hj
        have hq : q = 1 := hq
        exact lk_getP rfl lk_g1_ok hF hr hlk hp e2 (by decide +kernel) (ptP_8 hT hp) (lkP5 hp) hw5 (g.cp.fo w hw.1 hw.2) (by unfold fLoo; rw [if_neg hpos, if_neg (by omega), if_pos hq])
      | 2, hj =>
        cases hj
        have hq : q = 2 := hq
        exact lk_get rfl lk_g2_ok hF hr hlk hT (by decide +kernel) (pt_40_3 hT) rfl hw5 (gw.st w hw.1 hw.2) (by unfold fLoo; rw [if_neg hpos, if_neg (by omega), if_neg (by omega), if_pos hq])
      | 3, hj =>
        cases hj
        have hq : q = 3 := hq
        exact lk_get rfl lk_g3_ok hF hr hlk hT (by decide +kernel) (pt_40_4 hT) rfl hw5 (gw.bt w hw.1 hw.2) (by unfold fLoo; rw [if_neg hpos, if_neg (by omega), if_neg (by omega), if_neg (by omega), if_pos hq])
      | 4, hj =>
        cases hj
        have hq : q = 4 := hq
        exact lk_getP rfl lk_g4_ok hF hr hlk hp e2 (by decide +kernel) (ptP_11 hT hp) (lkP8 hp) hw5 (g.cp.ho w hw.1 hw.2) (by unfold fLoo; rw [if_neg hpos, if_neg (by omega), if_neg (by omega), if_neg (by omega), if_neg (by omega), if_pos hq])
      | j + 5, hj => cases hj
  · refine sx_jif hF (pc := 8) (t := 21) (cc := .ne) (off := 13) (by decide +kernel) (by decide) (fun z => absurd (rfl : (0 : Int) = 0) z) (fun _ => ?_)
    have e9 : fLoo P W9 w q = (0, 1) := by
      unfold fLoo
      rw [if_pos hw]
    exact lk_thr hF hR hlk hfl hne hT2 (by decide +kernel) (by decide +kernel) (by decide +kernel) (by decide +kernel) (by decide +kernel) th_wI1 th_wI2 th_wI3 (by decide) (th_wI hts hZ) (fun pl9 h9 => th_chI h9 hts hZ) hv1 (by rw [e9]; decide) (by rw [e9]; rfl)
/-- THE CONTRACT of the class's look -/
theorem c_look (hst : sx_stb X) (hfl : X.1.flags = flags0) (hT2 : lk_T X a1 a2) (hp : isP pl) (e2 : σ 0 2 = pl) (g : GC 40 pl P A σ) (gw : cW P 40 σ W9) (wp : wP P) : MetFree X.1 (sx_M 128).1 (headSpec (sx_ws (sx_M 128)) lk_rm) (sx_Pc X [.inr (.inr 0), .inl w, .inl q] shM σ) (fun _ _ _ _ _ => True) (lk_Q X (fLoo P W9 w q) σ) := by
  have hi : 128 < sx_Ms.length := by decide +kernel
  obtain ⟨w1, w2, w3, w4, w5, w6, w7⟩ := sx_mwords hi
  refine MetFree.of_bodyS (code := (sx_M 128).2.1) (maxLocals := (sx_M 128).2.2.1) (ret := (sx_M 128).2.2.2.1) w6 ?_ ?_
  · intro args s m h hn
    obtain ⟨meth, c, h1, h2, h3, h4, h5, h6, -, -⟩ := Cond.code_spec hn (atoms_spec (ws := sx_ws (sx_M 128)) h _ List.mem_cons_self)
    exact ⟨meth, c, h1, h2, h3, h4, h5, h6⟩
  · intro p e s m args below meth c s₁ B hml hv _
    obtain ⟨rfl, hsim, hK9, hvs, hKx, hbs⟩ := hv
    have hts : ∀ w ∈ sx_ws (sx_M 128), w.before _ s = true := atoms_spec (ws := sx_ws (sx_M 128)) B.pre
    have hown : s.vm.findClass (sx_M 128).1.cls = some m.cls := findClass_of_methodNamed B.named
    have hin : meth.name = (sx_M 128).1.name := (name_of_methodNamed B.named B.method).1
    have hne := B.noHandlers (hts _ List.mem_cons_self)
    have hF : sx_Fx p s m ([.inr (.inr 0), .inl w, .inl q].map (sx_tv X.2.2.2.2.1)).toArray meth c (headSpec (sx_ws (sx_M 128)) lk_rm).room 0 0 X 11 (sx_M 128) := ⟨B.exec, B.bytes, hml, hown, fun w hw => hts w (List.mem_cons_of_mem _ hw), hK9, hKx, hst, hbs, by decide +kernel, by decide +kernel, ⟨Nat.zero_le _, Nat.zero_le _⟩, hin⟩
    have hA := lk_walk (e := e) (below := below) hF (by show 6 ≤ 6 ∧ 120 ≤ 120 ∧ 1 ≤ 1 ∧ 6 ≤ 6; omega) (B.returns.trans (by decide +kernel)) B.notSynchronized hfl hne hT2 hp e2 g gw wp (w := w) (q := q)
    have hl := lv_entry ([.inr (.inr 0), .inl w, .inl q].map (sx_tv X.2.2.2.2.1)) (n := (sx_M 128).2.2.1) (by rw [sx_args_len]; show 3 ≤ (sx_M 128).2.2.1; decide +kernel)
    have h9 := hA _ s.heap [] ⟨hsim, sx_lv_mono hl (fun y hy => ?_), (by show 3 = (sx_M 128).2.2.1; decide +kernel), ?_, va_S.rf⟩ (fun v hv => by cases hv)
    · have hh0 : s₁.heap = s.heap := by rw [B.state]; rfl
      obtain ⟨t, z1, o, z2, z3, z4⟩ := h9 s₁ hh0 (Stand.of_body B)
      refine ⟨t, o, ?_, z2, z3, z4⟩
      rw [lg_entry_eq]
      exact z1
    · obtain ⟨v, hv, he⟩ := sx_as_mem.mp hy
      have h5 := sx_ent_args [.inr (.inr 0), .inl w, .inl q] X.2.2.2.2.1 y.1 v hv
      rw [← he] at h5
      exact h5
    · intro j v hv
      match j, hv with
      | 0, hv => cases hv; trivial
      | 1, hv => cases hv; exact hvs _ (by simp)
      | 2, hv => cases hv; exact hvs _ (by simp)
      | j + 3, hv => cases hv
end LK2
