/-! SOUNDNESS: a block, a run, a method -/
section SXE
variable {p : Program} {e : Env} {R : Room} {s : State} {m : MethodId} {args : Array Value} {below : List Frame} {meth : Method} {c : Code} {nc ns : Nat} {Q : State → Prop} {X : sx_X} {own : Nat} {mt : sx_Mt}
variable {L : sx_L} {st : List sx_V} {sh : sx_H} {σ : sx_S} {pc : Nat}
theorem sx_s_invokestatic {i : Nat} (hF : sx_Fx p s m args meth c R nc ns X own mt) {len : Nat} {w : List Nat} (hd : decode mt.2.1 pc = .ok (.invokestatic i, len)) (hok : sx_ok1 own mt pc (len, .invokestatic i, w) = true) {k : sx_K} (h : sx_st (sx_Run X) (len, .invokestatic i, w) L st sh σ k) (hk : ∀ L st σ, k L st sh σ → sx_AT p e R s m args below meth c nc ns Q X mt.2.2.1 (pc + len) L st sh σ) : sx_AT p e R s m args below meth c nc ns Q X mt.2.2.1 pc L st sh σ := by
  have h0 : sx_call (sx_Run X) w st sh σ (fun st sh σ => k L st sh σ) := h
  simp only [sx_ok1, Bool.and_eq_true, beq_iff_eq] at hok
  obtain ⟨rfl, hl⟩ := hok
  split at hl
  · simp only [sx_call] at h0
    obtain ⟨h1, h2, h3⟩ := h0
    exact sx_o_callS hF hd hl h1 h2 h3 (fun r σ' hr => hk _ _ _ hr)
  · rename_i q
    simp only [Bool.and_eq_true, decide_eq_true_eq] at hl
    obtain ⟨k1, k2, k3, k4⟩ := hl
    match q, k2, k1, h0 with
    | 0, _, k1, h0 =>
      obtain ⟨y, r1, e1, g1⟩ := sx_pI_el h0
      obtain ⟨x, r2, e2, g2, g3⟩ := sx_pI_el g1
      subst e2; subst e1
      exact sx_b_max hF hd k1 k3 k4 g2 (hk _ _ _ g3)
    | 1, _, k1, h0 =>
      obtain ⟨y, r1, e1, g1⟩ := sx_pI_el h0
      obtain ⟨x, r2, e2, g2, g3⟩ := sx_pI_el g1
      subst e2; subst e1
      exact sx_b_min hF hd k1 k3 k4 g2 (hk _ _ _ g3)
    | 2, _, k1, h0 =>
      obtain ⟨x, r2, e2, g2, g4, g3⟩ := sx_pI_el h0
      subst e2
      exact sx_b_abs hF hd k1 k3 k4 g2 g4 (hk _ _ _ g3)
    | 3, _, k1, h0 =>
      obtain ⟨y, r1, e1, g1⟩ := sx_pJ_el h0
      obtain ⟨x, r2, e2, g2, g3⟩ := sx_pJ_el g1
      subst e2; subst e1
      exact sx_b_maxl hF hd k1 k3 k4 g2 (hk _ _ _ g3)
    | 4, _, k1, h0 =>
      obtain ⟨y, r1, e1, g1⟩ := sx_pJ_el h0
      obtain ⟨x, r2, e2, g2, g3⟩ := sx_pJ_el g1
      subst e2; subst e1
      exact sx_b_minl hF hd k1 k3 k4 g2 (hk _ _ _ g3)
    | 5, _, k1, h0 =>
      obtain ⟨x, r2, e2, g2, g4, g3⟩ := sx_pJ_el h0
      subst e2
      exact sx_b_absl hF hd k1 k3 k4 g2 g4 (hk _ _ _ g3)
    | n + 6, k2, _, _ => omega
  · simp only [Bool.and_eq_true, decide_eq_true_eq] at hl
    obtain ⟨k1, k3, k4⟩ := hl
    obtain ⟨n, r1, e1, g1⟩ := sx_pI_el h0
    obtain ⟨j, r2, e2, g2⟩ := sx_pI_el g1
    obtain ⟨b, r3, e3, g3⟩ := sx_pA_el g2
    obtain ⟨i9, r4, e4, g4⟩ := sx_pI_el g3
    obtain ⟨a, r5, e5, g5⟩ := sx_pA_el g4
    subst e5; subst e4; subst e3; subst e2; subst e1
    obtain ⟨q1, q2, q3, q4, q5, q6, q7, q8, q9⟩ := g5
    exact sx_o_copy hF hd k1 k3 k4 q1 q2 q3 q4 q5 q6 q7 q8 (hk _ _ _ q9)
  · cases hl
theorem sx_st_ok (hF : sx_Fx p s m args meth c R nc ns X own mt) {I : sx_I} (hd : decode mt.2.1 pc = .ok (I.2.1, I.1)) (hok : sx_ok1 own mt pc I = true) {k : sx_K} (h : sx_st (sx_Run X) I L st sh σ k) (hk : ∀ L st σ, k L st sh σ → sx_AT p e R s m args below meth c nc ns Q X mt.2.2.1 (pc + I.1) L st sh σ) : sx_AT p e R s m args below meth c nc ns Q X mt.2.2.1 pc L st sh σ := by
  obtain ⟨len, ins, w⟩ := I
  cases ins with
  | iconst n => exact sx_s_iconst hF hd hok h hk
  | bipush n => exact sx_s_bipush hF hd hok h hk
  | sipush n => exact sx_s_sipush hF hd hok h hk
  | lconst n => exact sx_s_lconst hF hd hok h hk
  | ldc i => exact sx_s_ldc hF hd hok h hk
  | ldc2_w i => exact sx_s_ldc2_w hF hd hok h hk
  | iload i => exact sx_s_iload hF hd hok h hk
  | lload i => exact sx_s_lload hF hd hok h hk
  | iload_n i => exact sx_s_iload_n hF hd hok h hk
  | lload_n i => exact sx_s_lload_n hF hd hok h hk
  | aload i => exact sx_s_aload hF hd hok h hk
  | aload_n i => exact sx_s_aload_n hF hd hok h hk
  | istore i => exact sx_s_istore hF hd hok h hk
  | istore_n i => exact sx_s_istore_n hF hd hok h hk
  | lstore i => exact sx_s_lstore hF hd hok h hk
  | lstore_n i => exact sx_s_lstore_n hF hd hok h hk
  | astore i => exact sx_s_astore hF hd hok h hk
  | astore_n i => exact sx_s_astore_n hF hd hok h hk
  | iinc i n => exact sx_s_iinc hF hd hok h hk
  | iadd => exact sx_s_iadd hF hd hok h hk
  | isub => exact sx_s_isub hF hd hok h hk
  | imul => exact sx_s_imul hF hd hok h hk
  | ladd => exact sx_s_ladd hF hd hok h hk
  | lsub => exact sx_s_lsub hF hd hok h hk
  | lmul => exact sx_s_lmul hF hd hok h hk
  | idiv => exact sx_s_idiv hF hd hok h hk
  | ldiv => exact sx_s_ldiv hF hd hok h hk
  | irem => exact sx_s_irem hF hd hok h hk
  | lrem => exact sx_s_lrem hF hd hok h hk
  | iand => exact sx_s_iand hF hd hok h hk
  | ior => exact sx_s_ior hF hd hok h hk
  | ishl => exact sx_s_ishl hF hd hok h hk
  | ishr => exact sx_s_ishr hF hd hok h hk
  | land => exact sx_s_land hF hd hok h hk
  | lor => exact sx_s_lor hF hd hok h hk
  | lxor => exact sx_s_lxor hF hd hok h hk
  | lshl => exact sx_s_lshl hF hd hok h hk
  | lshr => exact sx_s_lshr hF hd hok h hk
  | lushr => exact sx_s_lushr hF hd hok h hk
  | ineg => exact sx_s_ineg hF hd hok h hk
  | lneg => exact sx_s_lneg hF hd hok h hk
  | lcmp => exact sx_s_lcmp hF hd hok h hk
  | i2l => exact sx_s_i2l hF hd hok h hk
  | l2i => exact sx_s_l2i hF hd hok h hk
  | i2b => exact sx_s_i2b hF hd hok h hk
  | dup => exact sx_s_dup hF hd hok h hk
  | pop => exact sx_s_pop hF hd hok h hk
  | dup2 => exact sx_s_dup2 hF hd hok h hk
  | getfield i => exact sx_s_getfield hF hd hok h hk
  | putfield i => exact sx_s_putfield hF hd hok h hk
  | iaload => exact sx_s_iaload hF hd hok h hk
  | laload => exact sx_s_laload hF hd hok h hk
  | aaload => exact sx_s_aaload hF hd hok h hk
  | baload => exact sx_s_baload hF hd hok h hk
  | iastore => exact sx_s_iastore hF hd hok h hk
  | lastore => exact sx_s_lastore hF hd hok h hk
  | bastore => exact sx_s_bastore hF hd hok h hk
  | arraylength => exact sx_s_arraylength hF hd hok h hk
  | invokevirtual i => exact sx_s_invokevirtual hF hd hok h hk
  | invokestatic i => exact sx_s_invokestatic hF hd hok h hk
  | _ => exact False.elim h
theorem sx_jif {nL : Nat} (hF : sx_Fx p s m args meth c R nc ns X own mt) {cc : ClassFile.Cond} {off x : Int} {t : Nat} (hd : decode mt.2.1 pc = .ok (.ifCond cc off, 3)) (ht : (pc : Int) + off = (t : Int))
    (h1 : sx_cc cc x 0 → sx_AT p e R s m args below meth c nc ns Q X nL t L st sh σ) (h2 : ¬ sx_cc cc x 0 → sx_AT p e R s m args below meth c nc ns Q X nL (pc + 3) L st sh σ) : sx_AT p e R s m args below meth c nc ns Q X nL pc L (.inl x :: st) sh σ := by
  obtain ⟨hx, hb, -⟩ := hF
  intro ls H locs hG hO
  have hr : sx_r32 x := sx_okS_hd hO
  have hz : sx_r32 0 := ⟨by omega, by omega⟩
  have k1 := fun q => h1 q ls H locs hG (sx_okS_tl hO)
  have k2 := fun q => h2 q ls H locs hG (sx_okS_tl hO)
  cases cc with
  | eq => exact lv_if_eq hx hb hd ht (fun q => k1 ((sx_ieq hr hz).mp q)) (fun q => k2 (fun z => q ((sx_ieq hr hz).mpr z)))
  | ne => exact lv_if_ne hx hb hd ht (fun q => k1 (fun z => q ((sx_ieq hr hz).mpr z))) (fun q => k2 (fun z => z ((sx_ieq hr hz).mp q)))
  | lt => exact lv_if_lt hx hb hd ht (fun q => k1 ((sx_ilt hr hz).mp q)) (fun q => k2 (fun z => q ((sx_ilt hr hz).mpr z)))
  | ge => exact lv_if_ge hx hb hd ht (fun q => k1 ((sx_ile hz hr).mp q)) (fun q => k2 (fun z => q ((sx_ile hz hr).mpr z)))
  | gt => exact lv_if_gt hx hb hd ht (fun q => k1 ((sx_ilt hz hr).mp q)) (fun q => k2 (fun z => q ((sx_ilt hz hr).mpr z)))
  | le => exact lv_if_le hx hb hd ht (fun q => k1 ((sx_ile hr hz).mp q)) (fun q => k2 (fun z => q ((sx_ile hr hz).mpr z)))
theorem sx_jcmp {nL : Nat} (hF : sx_Fx p s m args meth c R nc ns X own mt) {cc : ClassFile.Cond} {off x y : Int} {t : Nat} (hd : decode mt.2.1 pc = .ok (.if_icmp cc off, 3)) (ht : (pc : Int) + off = (t : Int))
    (h1 : sx_cc cc x y → sx_AT p e R s m args below meth c nc ns Q X nL t L st sh σ) (h2 : ¬ sx_cc cc x y → sx_AT p e R s m args below meth c nc ns Q X nL (pc + 3) L st sh σ) : sx_AT p e R s m args below meth c nc ns Q X nL pc L (.inl y :: .inl x :: st) sh σ := by
  obtain ⟨hx, hb, -⟩ := hF
  intro ls H locs hG hO
  have hz : sx_r32 y := sx_okS_hd hO
  have hr : sx_r32 x := sx_okS_hd (sx_okS_tl hO)
  have k1 := fun q => h1 q ls H locs hG (sx_okS_tl (sx_okS_tl hO))
  have k2 := fun q => h2 q ls H locs hG (sx_okS_tl (sx_okS_tl hO))
  cases cc with
  | eq => exact lv_icmp_eq hx hb hd ht (fun q => k1 ((sx_ieq hr hz).mp q)) (fun q => k2 (fun z => q ((sx_ieq hr hz).mpr z)))
  | ne => exact lv_icmp_ne hx hb hd ht (fun q => k1 (fun z => q ((sx_ieq hr hz).mpr z))) (fun q => k2 (fun z => z ((sx_ieq hr hz).mp q)))
  | lt => exact lv_icmp_lt hx hb hd ht (fun q => k1 ((sx_ilt hr hz).mp q)) (fun q => k2 (fun z => q ((sx_ilt hr hz).mpr z)))
  | ge => exact lv_icmp_ge hx hb hd ht (fun q => k1 ((sx_ile hz hr).mp q)) (fun q => k2 (fun z => q ((sx_ile hz hr).mpr z)))
  | gt => exact lv_icmp_gt hx hb hd ht (fun q => k1 ((sx_ilt hz hr).mp q)) (fun q => k2 (fun z => q ((sx_ilt hz hr).mpr z)))
  | le => exact lv_icmp_le hx hb hd ht (fun q => k1 ((sx_ile hr hz).mp q)) (fun q => k2 (fun z => q ((sx_ile hr hz).mpr z)))
theorem sx_tab_el {x : Int} {k : Nat → Prop} : ∀ {ts : List Nat} {lo : Int}, sx_tab x k lo ts → ∀ (j t : Nat), ts[j]? = some t → x = lo + j → k t
  | [], _, _, j, t, h, _ => by cases h
  | t :: ts, lo, h, 0, t', ht, e => by
    cases ht
    exact h.1 (by omega)
  | t :: ts, lo, h, j + 1, t', ht, e => sx_tab_el h.2 j t' ht (by omega)
theorem sx_lks_el {x : Int} {k : Nat → Prop} {d : Nat} {dd q : Int} : ∀ {ps : List (Int × Int)} {ts : List Nat}, ps.map (fun o => q + o.2) = ts.map (fun (z : Nat) => (z : Int)) → q + dd = (d : Int) → sx_lks x k d ps ts → ∃ t : Nat, q + Op.lookupswitch.offset ps dd x = (t : Int) ∧ k t
  | [], [], _, hd, h => ⟨d, by rw [show Op.lookupswitch.offset [] dd x = dd from rfl]; exact hd, h⟩
  | [], t :: ts, hm, _, _ => by cases hm
  | p :: ps, [], hm, _, _ => by cases hm
  | (v, o) :: ps, t :: ts, hm, hd, h => by
    simp only [List.map_cons, List.cons.injEq] at hm
    rw [Op.lookupswitch.offset_cons]
    by_cases e : x = v
    · rw [if_pos (by first | exact e | exact e.symm)]
      exact ⟨t, hm.1, h.1 e⟩
    · rw [if_neg (by first | exact e | exact fun z => e z.symm)]
      exact sx_lks_el hm.2 hd (h.2 e)
/-- what a return needs -/
theorem sx_bk_ok (hF : sx_Fx p s m args meth c R 0 0 X own mt) (hr : meth.sig.returnType = mt.2.2.2.1) (hlk : meth.locks = false) {J : Nat → sx_K} {R' : sx_R} (hJ : ∀ t L st σ, J t L st sh σ → sx_AT p e R s m args below meth c 0 0 (MQ below (sx_Qc X sh R') args s 0 0 (sx_A X)) X mt.2.2.1 t L st sh σ) :
    ∀ (is : List sx_I) (pc : Nat) (L : sx_L) (st : List sx_V) (σ : sx_S), sx_okB own mt is pc = true → sx_bk (sx_Run X) J R' is L st sh σ → sx_AT p e R s m args below meth c 0 0 (MQ below (sx_Qc X sh R') args s 0 0 (sx_A X)) X mt.2.2.1 pc L st sh σ := by
  intro is
  induction is with
  | nil => intro pc L st σ _ h; exact False.elim h
  | cons I is ih =>
    intro pc L st σ hB h
    obtain ⟨len, ins, w⟩ := I
    have hB0 : (sx_isn ins = true ∨ decode mt.2.1 pc = .ok (ins, len)) ∧ sx_ok1 own mt pc (len, ins, w) = true ∧ sx_okB own mt is (pc + len) = true := by
      simpa [sx_okB, Bool.and_eq_true, Bool.or_eq_true] using hB
    obtain ⟨hd0, hok, hrest⟩ := hB0
    have hgen : sx_isn ins = false → sx_st (sx_Run X) (len, ins, w) L st sh σ (fun L st sh σ => sx_bk (sx_Run X) J R' is L st sh σ) → sx_AT p e R s m args below meth c 0 0 (MQ below (sx_Qc X sh R') args s 0 0 (sx_A X)) X mt.2.2.1 pc L st sh σ := by
      intro hn hs
      have hd : decode mt.2.1 pc = .ok (ins, len) := by
        rcases hd0 with q | q
        · rw [hn] at q; cases q
        · exact q
      exact sx_st_ok (I := (len, ins, w)) hF hd hok hs (fun L st σ hk => ih (pc + len) L st σ hrest hk)
    have hF9 := hF
    obtain ⟨hx, hb, hml, hown, hts, hK, -⟩ := hF9
    have hend : ∀ {ls : Array Slot} {H : Heap} {locs : List Loc} {r : Option sx_V} {ov : Option Value}, sx_G X s mt.2.2.1 ls H locs L sh σ → R' r sh σ → sx_okS r.toList → ov = r.map (sx_tv X.2.2.2.2.1) → ∀ t : State, t.heap = H → s.WarmedH t.vm → sx_Qc X sh R' args s (.returned ov) t := by
      intro ls H locs r ov hG hR ho hov t ht _
      exact ⟨⟨r, σ, by rw [hov], hR, ho, by rw [ht]; exact hG.1⟩, hG.2.2.2.2.F ht⟩
    cases ins with
    | nop =>
      have hl : len = 0 ∧ w = [pc] := by simpa [sx_ok1] using hok
      obtain ⟨rfl, rfl⟩ := hl
      exact hJ _ _ _ _ h
    | goto off =>
      have hd : decode mt.2.1 pc = .ok (.goto off, len) := hd0.resolve_left (by simp [sx_isn])
      match w, hok, h with
      | [t], hok2, h2 =>
        have hl : len = 3 ∧ (pc : Int) + off = (t : Int) := by simpa [sx_ok1] using hok2
        obtain ⟨rfl, ht⟩ := hl
        intro ls H locs hG hO
        exact lv_goto hx hb hd ht (hJ _ _ _ _ h2 ls H locs hG hO)
      | [], hok2, _ => simp [sx_ok1] at hok2
      | _ :: _ :: _, hok2, _ => simp [sx_ok1] at hok2
    | ifCond cc off =>
      have hd : decode mt.2.1 pc = .ok (.ifCond cc off, len) := hd0.resolve_left (by simp [sx_isn])
      match w, hok, h with
      | [t], hok2, h2 =>
        have hl : len = 3 ∧ (pc : Int) + off = (t : Int) := by simpa [sx_ok1] using hok2
        obtain ⟨rfl, ht⟩ := hl
        obtain ⟨x, r, e1, g1⟩ := sx_pI_el h2
        subst e1
        exact sx_jif hF hd ht (fun q => hJ _ _ _ _ (g1.1 q)) (fun q => ih _ _ _ _ hrest (g1.2 q))
      | [], hok2, _ => simp [sx_ok1] at hok2
      | _ :: _ :: _, hok2, _ => simp [sx_ok1] at hok2
    | if_icmp cc off =>
      have hd : decode mt.2.1 pc = .ok (.if_icmp cc off, len) := hd0.resolve_left (by simp [sx_isn])
      match w, hok, h with
      | [t], hok2, h2 =>
        have hl : len = 3 ∧ (pc : Int) + off = (t : Int) := by simpa [sx_ok1] using hok2
        obtain ⟨rfl, ht⟩ := hl
        obtain ⟨y, r1, e1, g1⟩ := sx_pI_el h2
        obtain ⟨x, r2, e2, g2⟩ := sx_pI_el g1
        subst e2; subst e1
        exact sx_jcmp hF hd ht (fun q => hJ _ _ _ _ (g2.1 q)) (fun q => ih _ _ _ _ hrest (g2.2 q))
      | [], hok2, _ => simp [sx_ok1] at hok2
      | _ :: _ :: _, hok2, _ => simp [sx_ok1] at hok2
    | tableswitch d lo hi os =>
      have hd : decode mt.2.1 pc = .ok (.tableswitch d lo hi os, len) := hd0.resolve_left (by simp [sx_isn])
      match w, hok, h with
      | t :: ts, hok2, h2 =>
        have hl : (pc : Int) + d = (t : Int) ∧ os.toList.map (fun o => (pc : Int) + o) = ts.map (fun (x : Nat) => (x : Int)) ∧ hi - lo + 1 = (ts.length : Int) := by simpa [sx_ok1] using hok2
        obtain ⟨ht, hm, hlen⟩ := hl
        obtain ⟨x, r, e1, g1⟩ := sx_pI_el h2
        subst e1
        intro ls H locs hG hO
        have hxr : sx_r32 x := sx_okS_hd hO
        have ex : (Int32.ofInt x).toInt = x := sx_ti hxr
        by_cases hout : x < lo ∨ hi < x
        · exact lv_tableOut hx hb hd (by rw [ex]; exact hout) ht (hJ _ _ _ _ (g1.1 hout) ls H locs hG (sx_okS_tl hO))
        · have hj : (x - lo).toNat < ts.length := by omega
          have hts : ts[(x - lo).toNat]? = some ts[(x - lo).toNat] := List.getElem?_eq_getElem hj
          have hk := sx_tab_el g1.2 (x - lo).toNat _ hts (by omega)
          have hos : os.toList.length = ts.length := by have := congrArg List.length hm; simpa using this
          have hj2 : (x - lo).toNat < os.toList.length := by omega
          have hoe : os.toList[(x - lo).toNat]? = some os.toList[(x - lo).toNat] := List.getElem?_eq_getElem hj2
          have hmm : (pc : Int) + os.toList[(x - lo).toNat] = ((ts[(x - lo).toNat] : Nat) : Int) := by
            have := congrArg (fun l => l[(x - lo).toNat]?) hm
            simp only [List.getElem?_map, hts, hoe, Option.map_some, Option.some.injEq] at this
            exact this
          refine lv_tableIn hx hb hd (by rw [ex]; omega) (by rw [ex]; omega) (off := os.toList[(x - lo).toNat]) ?_ hmm (hJ _ _ _ _ hk ls H locs hG (sx_okS_tl hO))
          rw [ex, ← Array.getElem?_toList]
          exact hoe
      | [], hok2, _ => simp [sx_ok1] at hok2
    | lookupswitch d ps =>
      have hd : decode mt.2.1 pc = .ok (.lookupswitch d ps, len) := hd0.resolve_left (by simp [sx_isn])
      match w, hok, h with
      | t :: ts, hok2, h2 =>
        have hl : (pc : Int) + d = (t : Int) ∧ ps.toList.map (fun o => (pc : Int) + o.2) = ts.map (fun (x : Nat) => (x : Int)) ∧ (ps.toList.zip (ps.toList.drop 1)).all (fun (a, next) => a.1 < next.1) = true := by
          simp only [sx_ok1, Bool.and_eq_true, decide_eq_true_eq] at hok2
          exact hok2
        obtain ⟨ht, hm, hso⟩ := hl
        obtain ⟨x, r, e1, g1⟩ := sx_pI_el h2
        subst e1
        intro ls H locs hG hO
        have hxr : sx_r32 x := sx_okS_hd hO
        have ex : (Int32.ofInt x).toInt = x := sx_ti hxr
        obtain ⟨t9, ht9, hk⟩ := sx_lks_el hm ht g1
        exact lv_lookup hx hb hd hso (by rw [ex]) ht9 (hJ _ _ _ _ hk ls H locs hG (sx_okS_tl hO))
      | [], hok2, _ => simp [sx_ok1] at hok2
    | return_ =>
      have hd : decode mt.2.1 pc = .ok (.return_, len) := hd0.resolve_left (by simp [sx_isn])
      have hl : len = 1 ∧ mt.2.2.2.1 = none := by simpa [sx_ok1] using hok
      obtain ⟨rfl, hrt⟩ := hl
      have h2 : st = [] ∧ R' none sh σ := h
      obtain ⟨rfl, hR⟩ := h2
      intro ls H locs hG hO
      exact W.vret hx hb (hr.trans hrt) (hend hG hR (fun v hv => by cases hv) rfl) hG.2.2.2.2.2.2 hd hlk
    | ireturn =>
      have hd : decode mt.2.1 pc = .ok (.ireturn, len) := hd0.resolve_left (by simp [sx_isn])
      match st, h with
      | [.inl x], h2 =>
        have h3 : (w = [1] → x = 0 ∨ x = 1) ∧ R' (some (.inl x)) sh σ := h2
        have hl : len = 1 ∧ (w = [0] ∧ mt.2.2.2.1 = some .int ∨ w = [1] ∧ mt.2.2.2.1 = some .boolean) := by simpa [sx_ok1] using hok
        obtain ⟨rfl, hl⟩ := hl
        intro ls H locs hG hO
        rcases hl with ⟨rfl, hrt⟩ | ⟨rfl, hrt⟩
        · exact W.iret hx hb (hr.trans hrt) (hend hG h3.2 (fun v hv => by simp at hv; subst hv; exact sx_okS_hd hO) rfl) hG.2.2.2.2.2.2 hd hlk
        · refine W.zret hx hb (hr.trans hrt) ?_ (hend hG h3.2 (fun v hv => by simp at hv; subst hv; exact sx_okS_hd hO) rfl) hG.2.2.2.2.2.2 hd hlk
          rcases h3.1 rfl with rfl | rfl <;> rfl
    | lreturn =>
      have hd : decode mt.2.1 pc = .ok (.lreturn, len) := hd0.resolve_left (by simp [sx_isn])
      match st, h with
      | [.inr (.inl x)], h2 =>
        have h3 : R' (some (.inr (.inl x))) sh σ := h2
        have hl : len = 1 ∧ mt.2.2.2.1 = some .long := by simpa [sx_ok1] using hok
        obtain ⟨rfl, hrt⟩ := hl
        intro ls H locs hG hO
        exact W.lret hx hb (hr.trans hrt) (hend hG h3 (fun v hv => by simp at hv; subst hv; exact sx_okS_hd hO) rfl) hG.2.2.2.2.2.2 hd hlk
    | areturn =>
      have hd : decode mt.2.1 pc = .ok (.areturn, len) := hd0.resolve_left (by simp [sx_isn])
      match st, h with
      | [.inr (.inr x)], h2 =>
        have h3 : R' (some (.inr (.inr x))) sh σ := h2
        have hl : len = 1 ∧ mt.2.2.2.1 = some (.array .int) := by simpa [sx_ok1] using hok
        obtain ⟨rfl, hrt⟩ := hl
        intro ls H locs hG hO
        refine W.aret hx hb (hr.trans hrt) (Or.inr ⟨_, rfl⟩) ?_ (hend hG h3 (fun v hv => by simp at hv; subst hv; trivial) rfl) hG.2.2.2.2.2.2 hd hlk
        show (if x < 0 then Value.null else Value.ref (X.2.2.2.2.1.getD x.toNat 0)) = .null ∨ ∃ a, (if x < 0 then Value.null else Value.ref (X.2.2.2.2.1.getD x.toNat 0)) = .ref a
        split
        · exact Or.inl rfl
        · exact Or.inr ⟨_, rfl⟩
    | _ => exact hgen rfl h
theorem sx_go_ok (hF : sx_Fx p s m args meth c R 0 0 X own mt) (hr : meth.sig.returnType = mt.2.2.2.1) (hlk : meth.locks = false) {cd : Nat → List sx_I} (hcd : ∀ t, sx_okB own mt (cd t) t = true) {cuts : List Nat} {K : Nat → sx_K} {R' : sx_R} (hK : ∀ t L st σ, K t L st sh σ → sx_AT p e R s m args below meth c 0 0 (MQ below (sx_Qc X sh R') args s 0 0 (sx_A X)) X mt.2.2.1 t L st sh σ) :
    ∀ (n t : Nat) (L : sx_L) (st : List sx_V) (σ : sx_S), sx_go (sx_Run X) cd cuts K R' n t L st sh σ → sx_AT p e R s m args below meth c 0 0 (MQ below (sx_Qc X sh R') args s 0 0 (sx_A X)) X mt.2.2.1 t L st sh σ := by
  intro n
  induction n with
  | zero => intro t L st σ h; exact False.elim h
  | succ n ih =>
    intro t L st σ h
    refine sx_bk_ok hF hr hlk (J := fun t L st sh σ => if cuts.contains t = true then K t L st sh σ else sx_go (sx_Run X) cd cuts K R' n t L st sh σ) ?_ (cd t) t L st σ (hcd t) h
    intro t L st σ hj
    by_cases hc : cuts.contains t = true
    · simp only [hc, if_true] at hj
      exact hK t L st σ hj
    · simp only [hc, if_false] at hj
      exact ih t L st σ hj
end SXE
theorem sx_ent_args : ∀ (vs : List sx_V) (ad : List Nat) (i : Nat) (v : sx_V), (sx_args vs)[i]? = some (some v) → (i, sx_tv ad v) ∈ lv_args 0 (vs.map (sx_tv ad)) := by
  have key : ∀ (vs : List sx_V) (ad : List Nat) (o i : Nat) (v : sx_V), (sx_args vs)[i]? = some (some v) → (o + i, sx_tv ad v) ∈ lv_args o (vs.map (sx_tv ad)) := by
    intro vs ad
    induction vs with
    | nil => intro o i v h; simp [sx_args] at h
    | cons u us ih =>
      intro o i v h
      rcases u with x | x | x
      · have e1 : sx_args (.inl x :: us) = some (.inl x) :: sx_args us := rfl
        rw [e1] at h
        show _ ∈ (o, Value.int (Int32.ofInt x)) :: lv_args (o + 1) (us.map (sx_tv ad))
        cases i with
        | zero => cases h; exact List.mem_cons_self
        | succ j =>
          have := ih (o + 1) j v h
          rw [show o + 1 + j = o + (j + 1) by omega] at this
          exact List.mem_cons_of_mem _ this
      · have e1 : sx_args (.inr (.inl x) :: us) = some (.inr (.inl x)) :: none :: sx_args us := rfl
        rw [e1] at h
        show _ ∈ (o, Value.long (Int64.ofInt x)) :: lv_args (o + 2) (us.map (sx_tv ad))
        match i, h with
        | 0, h => cases h; exact List.mem_cons_self
        | 1, h => cases h
        | j + 2, h =>
          have := ih (o + 2) j v h
          rw [show o + 2 + j = o + (j + 2) by omega] at this
          exact List.mem_cons_of_mem _ this
      · have e1 : sx_args (.inr (.inr x) :: us) = some (.inr (.inr x)) :: sx_args us := rfl
        rw [e1] at h
        have e2 : lv_args o (List.map (sx_tv ad) (.inr (.inr x) :: us)) = (o, sx_tv ad (.inr (.inr x))) :: lv_args (o + 1) (us.map (sx_tv ad)) := by
          show lv_args o ((if x < 0 then Value.null else Value.ref (ad.getD x.toNat 0)) :: us.map (sx_tv ad)) = (o, if x < 0 then Value.null else Value.ref (ad.getD x.toNat 0)) :: lv_args (o + 1) (us.map (sx_tv ad))
          split <;> rfl
        rw [e2]
        cases i with
        | zero => cases h; exact List.mem_cons_self
        | succ j =>
          have := ih (o + 1) j v h
          rw [show o + 1 + j = o + (j + 1) by omega] at this
          exact List.mem_cons_of_mem _ this
  intro vs ad i v h
  have := key vs ad 0 i v h
  rw [Nat.zero_add] at this
  exact this
theorem sx_args_len : ∀ (vs : List sx_V) (ad : List Nat), (lg_sl (vs.map (sx_tv ad))).length = (sx_args vs).length
  | [], _ => rfl
  | .inl x :: us, ad => by
    have := sx_args_len us ad
    show (lg_sl (Value.int (Int32.ofInt x) :: us.map (sx_tv ad))).length = _
    simp only [lg_sl, List.flatMap_cons, List.length_append] at this ⊢
    rw [this]; simp [Value.category, sx_args]; omega
  | .inr (.inl x) :: us, ad => by
    have := sx_args_len us ad
    show (lg_sl (Value.long (Int64.ofInt x) :: us.map (sx_tv ad))).length = _
    simp only [lg_sl, List.flatMap_cons, List.length_append] at this ⊢
    rw [this]; simp [Value.category, sx_args]; omega
  | .inr (.inr x) :: us, ad => by
    have := sx_args_len us ad
    show (lg_sl ((if x < 0 then Value.null else Value.ref (ad.getD x.toNat 0)) :: us.map (sx_tv ad))).length = _
    simp only [lg_sl, List.flatMap_cons, List.length_append] at this ⊢
    rw [this]
    split <;> simp [Value.category, sx_args] <;> omega
/-- THE RULE OF A METHOD: its code, cuts with what holds there and a measure that falls, and what must hold from the entry and from each cut -/
theorem sx_rule {X : sx_X} {own i : Nat} {cd : List (Nat × List sx_I)} (hi : i < sx_Ms.length) (hcls : (sx_M i).1.cls = sx_rn own) (hcode : sx_okM own (sx_M i) cd = true) {vs : List sx_V} {sh : sx_H} {σ : sx_S} {R' : sx_R} (hlen : (sx_args vs).length ≤ (sx_M i).2.2.1) (cuts : List Nat) (fuel : Nat) (K : Nat → Nat → sx_K)
    (h0 : sx_go (sx_Run X) (sx_cd cd) cuts (fun t L st sh σ => ∃ n, K n t L st sh σ) R' fuel 0 (sx_ent vs (sx_M i).2.2.1) [] sh σ)
    (hK : ∀ n t L st σ, K n t L st sh σ → sx_go (sx_Run X) (sx_cd cd) cuts (fun t L st sh σ => ∃ n', n' < n ∧ K n' t L st sh σ) R' fuel t L st sh σ) : sx_Run X i vs sh σ R' := by
  intro hst
  obtain ⟨w1, w2, w3, w4, w5, w6, w7⟩ := sx_mwords hi
  refine Met.ofW (cc := (sx_M i).2.1) (maxL := (sx_M i).2.2.1) (ret := (sx_M i).2.2.2.1) w6 rfl ?_
  intro p e s m args below meth c s₁ B hml hv
  obtain ⟨rfl, hsim, hK9, hvs, hKx, hbs⟩ := hv
  have hts : ∀ w ∈ sx_ws (sx_M i), w.before _ s = true := atoms_spec (ws := sx_ws (sx_M i)) B.pre
  have hown : s.vm.findClass (sx_M i).1.cls = some m.cls := findClass_of_methodNamed B.named
  have hin : meth.name = (sx_M i).1.name := (name_of_methodNamed B.named B.method).1
  have hF : sx_Fx p s m (vs.map (sx_tv X.2.2.2.2.1)).toArray meth c (headSpec (sx_ws (sx_M i)) (sx_rm (sx_M i))).room 0 0 X own (sx_M i) := ⟨B.exec, B.bytes, hml, by rw [← hcls]; exact hown, fun w hw => hts w (List.mem_cons_of_mem _ hw), hK9, hKx, hst, hbs, Nat.le_refl _, Nat.le_refl _, ⟨Nat.zero_le _, Nat.zero_le _⟩, hin⟩
  have hcd := sx_cd_ok hcode
  have main : ∀ (n t : Nat) (L : sx_L) (st : List sx_V) (σ : sx_S), K n t L st sh σ → sx_AT p e (headSpec (sx_ws (sx_M i)) (sx_rm (sx_M i))).room s m (vs.map (sx_tv X.2.2.2.2.1)).toArray below meth c 0 0 (MQ below (sx_Qc X sh R') (vs.map (sx_tv X.2.2.2.2.1)).toArray s 0 0 (sx_A X)) X (sx_M i).2.2.1 t L st sh σ := by
    intro n
    induction n using Nat.strongRecOn with
    | _ n ih =>
      intro t L st σ hk
      exact sx_go_ok hF B.returns B.notSynchronized hcd (fun t L st σ ⟨n', h1, h2⟩ => ih n' h1 t L st σ h2) fuel t L st σ (hK n t L st σ hk)
  have hentry := sx_go_ok hF B.returns B.notSynchronized hcd (fun t L st σ ⟨n, h⟩ => main n t L st σ h) fuel 0 _ _ σ h0
  have hl := lv_entry (vs.map (sx_tv X.2.2.2.2.1)) (n := (sx_M i).2.2.1) (by rw [sx_args_len]; exact hlen)
  rw [lg_entry_eq]
  refine hentry _ s.heap [] ⟨hsim, ?_, ?_, ?_, va_S.rf⟩ (fun v hv => by cases hv)
  · refine sx_lv_mono hl (fun q hq => ?_)
    obtain ⟨v, hv, he⟩ := sx_as_mem.mp hq
    have : (sx_args vs)[q.1]? = some (some v) := by
      unfold sx_ent at hv
      by_cases hlt : q.1 < (sx_args vs).length
      · rw [List.getElem?_append_left hlt] at hv; exact hv
      · rw [List.getElem?_append_right (by omega), List.getElem?_replicate] at hv
        split at hv <;> cases hv
    have h5 := sx_ent_args vs X.2.2.2.2.1 q.1 v this
    rw [← he] at h5
    exact h5
  · unfold sx_ent
    simp
    omega
  · intro j v hv
    have h6 : (sx_args vs)[j]? = some (some v) := by
      unfold sx_ent at hv
      by_cases hlt : j < (sx_args vs).length
      · rw [List.getElem?_append_left hlt] at hv; exact hv
      · rw [List.getElem?_append_right (by omega), List.getElem?_replicate] at hv
        split at hv <;> cases hv
    have h7 : ∀ (us : List sx_V) (j : Nat), (sx_args us)[j]? = some (some v) → v ∈ us := by
      intro us
      induction us with
      | nil => intro j h; simp [sx_args] at h
      | cons u us ih =>
        intro j h
        rcases u with x | x | x
        · cases j with
          | zero => cases h; exact List.mem_cons_self
          | succ j => exact List.mem_cons_of_mem _ (ih j h)
        · match j, h with
          | 0, h => cases h; exact List.mem_cons_self
          | 1, h => cases h
          | j + 2, h => exact List.mem_cons_of_mem _ (ih j h)
        · cases j with
          | zero => cases h; exact List.mem_cons_self
          | succ j => exact List.mem_cons_of_mem _ (ih j h)
    exact hvs v (h7 vs j h6)
/-- a weaker end -/
theorem sx_mono {X : sx_X} {i : Nat} {vs : List sx_V} {sh : sx_H} {σ : sx_S} {R1 R2 : sx_R} (h : sx_Run X i vs sh σ R1) (hr : ∀ r σ', R1 r sh σ' → R2 r sh σ') : sx_Run X i vs sh σ R2 := by
  intro hst
  have hM := h hst
  unfold Met at hM ⊢
  intro p e ha hc hk s m args below hf hap hpc ht
  obtain ⟨k, o, h1, h2, h3, ⟨⟨r, σ', a1, a2, a3, a4⟩, a5⟩, h5⟩ := hM p e ha hc hk s m args below hf hap hpc ht
  exact ⟨k, o, h1, h2, h3, ⟨⟨r, σ', a1, hr r σ' a2, a3, a4⟩, a5⟩, h5⟩
