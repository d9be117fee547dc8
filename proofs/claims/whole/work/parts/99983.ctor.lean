/-! CONSTRUCTORS: calls of them, and a run of straight code -/
def gx_Pc (X : sx_X) (vs : List sx_V) (k : Nat) (σ : sx_S) : Array Value → State → Prop := fun v U => sx_Pc X vs (shM.take k) σ v U ∧ U.heap.size = X.2.2.2.1 + k
def gx_Qc (X : sx_X) (k1 : Nat) (P : sx_S → Prop) : Array Value → State → Outcome → State → Prop := fun _ st oc t => (∃ σ' : sx_S, oc = .returned none ∧ P σ' ∧ sx_sim X (shM.take k1) σ' t.heap) ∧ va_F (sx_A X) st t
def gx_rm (mt : sx_Mt) (mc ms : Nat) : Room := { frames := mt.2.2.2.2.1, cells := mc, slots := ms, locals := mt.2.2.2.2.2.1 }
/-- THE CONTRACT of a constructor: from k cells to k1 -/
def gx_Run (X : sx_X) (i : Nat) (vs : List sx_V) (k k1 : Nat) (σ : sx_S) (P : sx_S → Prop) : Prop := Met X.1 (sx_M i).1 (sx_ws (sx_M i)) (gx_rm (sx_M i) (k1 - k) (gx_z k1 - gx_z k)) (gx_Pc X vs k σ) (gx_Qc X k1 P) (k1 - k) (gx_z k1 - gx_z k) (sx_A X)
def gx_nl : List (Nat × Nat × Nat) := [(5, 38, 8), (11, 40, 55), (9, 23, 31), (11, 66, 24), (11, 73, 0), (11, 80, 64), (11, 87, 69)]
def gx_nw (q : Nat × Nat × Nat) : Cond := .methodLinkNest (sx_rn q.1) q.2.1 (sx_M q.2.2).1 "SnowScore"
/-- what the rest must say: links between nest mates, the rows of the log -/
def gx_N (X : sx_X) : Prop := ∀ U : State, X.2.2.2.2.2 U → (∀ q ∈ gx_nl, va_Nw (gx_nw q) U) ∧ ∃ kA : Class, U.vm.classes[X.2.2.1 5]? = some kA ∧ kA.kind = .array (X.2.2.1 1) (.array .int)
theorem gx_blind {X : sx_X} {vs : List sx_V} {k : Nat} {σ : sx_S} (hst : sx_stb X) : FrameBlind (gx_Pc X vs k σ) := fun a U g mk h => ⟨sx_blind hst a U g mk h.1, h.2⟩
theorem gm_cg {cI : ClassId} {n : Nat} {f g : Nat → Value} (h : ∀ j, j < n → f j = g j) : arrV cI n f = arrV cI n g := by
  have e : (fun j : Fin n => f j.val) = fun j => g j.val := funext fun j => h j.val j.isLt
  unfold arrV
  rw [e]
section GXC
variable {p : Program} {e : Env} {R : Room} {s : State} {m : MethodId} {args : Array Value} {below : List Frame} {meth : Method} {c : Code} {nc ns : Nat} {Q : State → Prop} {X : sx_X} {own : Nat} {mt : sx_Mt}
variable {L : sx_L} {st : List sx_V} {sh : sx_H} {σ : sx_S} {pc k k0 k1 : Nat}
theorem gx_Fx (hF : sx_Fx p s m args meth c R 0 0 X own mt) (h : nc ≤ R.cells ∧ ns ≤ R.slots) : sx_Fx p s m args meth c R nc ns X own mt := by
  obtain ⟨h1, h2, h3, h4, h5, h6, h7, h8, h9, h10, h11, -, h13⟩ := hF
  exact ⟨h1, h2, h3, h4, h5, h6, h7, h8, h9, h10, h11, h, h13⟩
theorem gx_o_obj {idx : Nat} {a : Int} (hF : sx_Fx p s m args meth c R nc ns X own mt) (hd : decode mt.2.1 pc = .ok (.invokespecial idx, 3)) (hw : Cond.methodLink (sx_rn own) idx Lib.objectInit ∈ sx_TB) (hw2 : Cond.instanceMethod Lib.objectInit ∈ sx_TB) (hw3 : Cond.code Lib.objectInit ⟨#[0xb1]⟩ 1 none ∈ sx_TB) (hfr : 1 ≤ mt.2.2.2.2.1) (hlo : 20 ≤ mt.2.2.2.2.2.1) (h0 : 0 ≤ a) (hcat : sx_cat st ≤ 8)
    (h : sx_AT p e R s m args below meth c nc ns Q X mt.2.2.1 (pc + 3) L st sh σ) : sx_AT p e R s m args below meth c nc ns Q X mt.2.2.1 pc L (.inr (.inr a) :: st) sh σ := by
  obtain ⟨hx, hb, hml, hown, hts, hK, hKx, hst, hbs, hRf, hRl, hnc, -⟩ := hF
  intro ls H locs hG hO
  have hlv := hG.2.1
  show W p X.1 e R s m args below meth c H locs nc ns Q (F0 m pc ls (sx_tv X.2.2.2.2.1 (.inr (.inr a)) :: st.map (sx_tv X.2.2.2.2.1)))
  rw [sx_tv_ref h0]
  refine W.objInit hx hb hown (hts _ hw) (hts _ hw2) (hts _ hw3) rfl (hlv.1.trans hml.symm) rfl hd (Nat.le_trans hfr hRf) ?_ (h ls H locs hG (sx_okS_tl hO))
  have := sx_catS (ad := X.2.2.2.2.1) st
  show 2 * 0 + _ + 12 ≤ R.locals
  omega
theorem gx_after {nL mc ms : Nat} {P : sx_S → Prop} {rest : List sx_V} {st0 : List Value} {ls : Array Slot} {H : Heap} {locs : List Loc} {a : Array Value}
    (hr : va_Run p X.1 e R s m args below meth c H locs nc ns mc ms (F0 m pc ls st0) (rest.map (sx_tv X.2.2.2.2.1)) (gx_Qc X k1 P a) (sx_A X))
    (hlv : lv_has ls nL (sx_as X.2.2.2.2.1 L)) (hLl : L.length = nL) (hLo : sx_okL L) (hS : va_S (sx_A X) s.heap H locs) (hO : sx_okS rest)
    (h : ∀ σ', P σ' → sx_AT p e R s m args below meth c (nc + mc) (ns + ms) Q X nL (pc + 3) L rest (shM.take k1) σ') : W p X.1 e R s m args below meth c H locs nc ns Q (F0 m pc ls st0) := by
  intro T hT X0
  obtain ⟨v, st₀, t, T', L1, h0, X', hL, e1, e2, ⟨⟨σ', hv, hR, hsim⟩, hz, hk⟩, stp⟩ := hr T hT X0
  have hv : v = none := Outcome.returned.inj hv
  subst hv
  rw [h0] at hz hk
  have hS' : va_S (sx_A X) s.heap T'.heap (locs ++ L1) := ⟨Nat.le_trans hS.1 (by rw [e1]; exact hz), fun q h1 h2 => by rw [e1, hk q (Nat.lt_of_lt_of_le h1 hS.1) h2]; exact hS.2.1 q h1 h2, fun q hq => by
      rcases List.mem_append.mp hq with h | h
      · exact hS.2.2 q h
      · exact hL q h⟩
  obtain ⟨t2, a1, b1⟩ := h σ' hR ls T'.heap (locs ++ L1) ⟨by rw [e1]; exact hsim, hlv, hLl, hLo, hS'⟩ hO T' rfl X'
  exact ⟨t2, stp t2 a1, b1⟩
/-- a constructor called -/
theorem gx_o_callI {idx i n : Nat} {a : Int} {as r : List sx_V} {P : sx_S → Prop} (hF : sx_Fx p s m args meth c R (k - k0) (gx_z k - gx_z k0) X own mt) (hX : gx_X X) (hs : s.heap.size = X.2.2.2.1 + k0) (hk0 : k0 ≤ k) (hk : k ≤ 172) (hk1 : k ≤ k1) (hd : decode mt.2.1 pc = .ok (.invokespecial idx, 3)) (hi : i < sx_Ms.length) (hkd : sx_kd i = 2) (hret : (sx_M i).2.2.2.1 = none)
    (hl : Cond.methodLink (sx_rn own) idx (sx_M i).1 ∈ sx_TB ∨ va_Nw (.methodLinkNest (sx_rn own) idx (sx_M i).1 "SnowScore") s) (hpd : (parseMethodDescriptor (sx_M i).1.desc).map (fun d => d.parameters.length) = some n) (hfr : (sx_M i).2.2.2.2.1 + 1 ≤ mt.2.2.2.2.1) (hlo : 8 + ((sx_M i).2.2.1 + 11) + (sx_M i).2.2.2.2.2.1 ≤ mt.2.2.2.2.2.1)
    (hn : as.length = n) (h0 : 0 ≤ a) (hcat : sx_cat r ≤ 8) (hrun : gx_Run X i (.inr (.inr a) :: as.reverse) k k1 σ P) (hR : k1 - k0 ≤ R.cells ∧ gx_z k1 - gx_z k0 ≤ R.slots)
    (h : ∀ σ', P σ' → sx_AT p e R s m args below meth c (k1 - k0) (gx_z k1 - gx_z k0) Q X mt.2.2.1 (pc + 3) L r (shM.take k1) σ') : sx_AT p e R s m args below meth c (k - k0) (gx_z k - gx_z k0) Q X mt.2.2.1 pc L (as ++ .inr (.inr a) :: r) (shM.take k) σ := by
  have hF' := hF
  obtain ⟨hx, hb, hml, hown, hts, hK, hKx, hst, hbs, hRf, hRl, hnc, -⟩ := hF'
  obtain ⟨w1, w2, w3, w4, w5, w6, w7⟩ := sx_mwords hi
  intro ls H locs hG hO
  obtain ⟨hsim, hlv, hLl, hLo, hS⟩ := hG
  refine W_size (fun hu => ?_)
  have hz := gx_size hX hk hsim hs hS.1 hk0 hu
  have hOr : sx_okS r := fun v hv => hO v (List.mem_append_right _ (List.mem_cons_of_mem _ hv))
  have hOt : sx_okS (.inr (.inr a) :: as.reverse) := sx_okS_cons trivial (fun v hv => hO v (List.mem_append_left _ (List.mem_reverse.mp hv)))
  have ev : ((.inr (.inr a) :: as.reverse : List sx_V).map (sx_tv X.2.2.2.2.1)).toArray = (Value.ref (X.2.2.2.2.1.getD a.toNat 0) :: as.reverse.map (sx_tv X.2.2.2.2.1)).toArray := by
    rw [List.map_cons, sx_tv_ref h0]
  have hpre : ∀ U : State, U.heap = H → s.WarmedH U.vm → gx_Pc X (.inr (.inr a) :: as.reverse) k σ (Value.ref (X.2.2.2.2.1.getD a.toNat 0) :: as.reverse.map (sx_tv X.2.2.2.2.1)).toArray U := fun U hU hW => by
    have h1 := sx_pre (σ := σ) hF hsim hS hOt U hU hW
    rw [ev] at h1
    exact ⟨h1, by rw [hU]; exact hz⟩
  have hz1 := gx_z_le hk0
  have hz2 := gx_z_le hk1
  have ec : k - k0 + (k1 - k) = k1 - k0 := by omega
  have es : gx_z k - gx_z k0 + (gx_z k1 - gx_z k) = gx_z k1 - gx_z k0 := by omega
  have hws : sx_ws (sx_M i) = Cond.code (sx_M i).1 (sx_M i).2.1 (sx_M i).2.2.1 none :: sx_TB := by unfold sx_ws; rw [hret]
  have hstk : (as ++ .inr (.inr a) :: r).map (sx_tv X.2.2.2.2.1) = (as.reverse.map (sx_tv X.2.2.2.2.1)).reverse ++ .ref (X.2.2.2.2.1.getD a.toNat 0) :: r.map (sx_tv X.2.2.2.2.1) := by
    rw [List.map_append, List.map_cons, sx_tv_ref h0, ← List.map_reverse, List.reverse_reverse]
  have hcat9 : 2 * (F0 m pc ls ((as ++ .inr (.inr a) :: r).map (sx_tv X.2.2.2.2.1))).monitorRoom + ((r.map (sx_tv X.2.2.2.2.1)).map fun v => v.category).sum ≤ 8 := by
    have := sx_catS (ad := X.2.2.2.2.1) r
    show 2 * 0 + _ ≤ 8
    omega
  refine gx_after (mc := k1 - k) (ms := gx_z k1 - gx_z k) (a := (Value.ref (X.2.2.2.2.1.getD a.toNat 0) :: as.reverse.map (sx_tv X.2.2.2.2.1)).toArray) (rest := r) ?_ hlv hLl hLo hS hOr (fun σ' hP => by rw [ec, es]; exact h σ' hP)
  rcases hl with hl | hl
  · exact va_runI (b := X.2.2.2.2.1.getD a.toNat 0) (As := as.reverse.map (sx_tv X.2.2.2.2.1)) (Ts := sx_TB) ⟨hx, hb, hml, hown, hts⟩ hrun ⟨callB_of (ws' := sx_TB) n hts (sx_good_ws hi) hws rfl rfl (hts _ w5) (hts _ hl) ⟨w7.1, w7.2, hpd⟩ ⟨Nat.le_trans hfr hRf, Nat.le_trans hlo hRl⟩, (w3 hkd).2, hts _ (w3 hkd).1⟩ ⟨gx_blind hst, hpre⟩ rfl (by simp [hn]) hlv.1 hstk hcat9 hd ⟨by rw [ec]; exact hR.1, by rw [es]; exact hR.2⟩
  · exact va_runIN (b := X.2.2.2.2.1.getD a.toNat 0) (As := as.reverse.map (sx_tv X.2.2.2.2.1)) (Ts := sx_TB) ⟨hx, hb, hml, hown, hts⟩ hrun ⟨va_cnB (ws' := sx_TB) n hts (sx_good_ws hi) hws rfl rfl hl (hts _ w5) ⟨w7.1, w7.2, hpd⟩ ⟨Nat.le_trans hfr hRf, Nat.le_trans hlo hRl⟩, (w3 hkd).2, hts _ (w3 hkd).1⟩ ⟨gx_blind hst, hpre⟩ rfl (by simp [hn]) hlv.1 hstk hcat9 hd ⟨by rw [ec]; exact hR.1, by rw [es]; exact hR.2⟩
/-- a method of an object that is being made; it makes nothing -/
theorem gx_o_callV {idx i ci : Nat} {a : Int} {r : List sx_V} {P : sx_S → Prop} (hF : sx_Fx p s m args meth c R (k - k0) (gx_z k - gx_z k0) X own mt) (hX : gx_X X) (hs : s.heap.size = X.2.2.2.1 + k0) (hk0 : k0 ≤ k) (hk : k ≤ 172) (hd : decode mt.2.1 pc = .ok (.invokevirtual idx, 3)) (hc : sx_okc own mt idx 0 i 1 = true) (hcn : sx_rn ci = (sx_M i).1.cls) (hci : ci < 13)
    (ha : sx_lk (shM.take k) a = (0, ci)) (hcat : sx_cat r ≤ 8) (hrun : gx_Run X i [.inr (.inr a)] k k σ P)
    (h : ∀ σ', P σ' → sx_AT p e R s m args below meth c (k - k0) (gx_z k - gx_z k0) Q X mt.2.2.1 (pc + 3) L r (shM.take k) σ') : sx_AT p e R s m args below meth c (k - k0) (gx_z k - gx_z k0) Q X mt.2.2.1 pc L (.inr (.inr a) :: r) (shM.take k) σ := by
  have hF' := hF
  obtain ⟨hx, hb, hml, hown, hts, hK, hKx, hst, hbs, hRf, hRl, hnc, -⟩ := hF'
  obtain ⟨hl, hi, hkd, hpd, hfr, hlo⟩ := sx_okc_el hc
  obtain ⟨w1, w2, w3, w4, w5, w6, w7⟩ := sx_mwords hi
  intro ls H locs hG hO
  obtain ⟨hsim, hlv, hLl, hLo, hS⟩ := hG
  refine W_size (fun hu => ?_)
  have hz := gx_size hX hk hsim hs hS.1 hk0 hu
  have hOr : sx_okS r := sx_okS_tl hO
  obtain ⟨hat, hlt, ea, h0, hsh⟩ := sx_ent_at (X := X) (σ := σ) ha (by omega)
  obtain ⟨cellB, q1, q2, q3⟩ := va_recv (q := (sx_rn ci, sx_cT ci, sx_nf ci)) hK hsim.2.2.1 (sx_cls ci hci) hat
  have hOt : sx_okS [.inr (.inr a)] := sx_okS_cons trivial (fun v hv => by cases hv)
  have hpre : ∀ U : State, U.heap = H → s.WarmedH U.vm → gx_Pc X [.inr (.inr a)] k σ (Value.ref (X.2.2.2.2.1.getD a.toNat 0) :: []).toArray U := fun U hU hW => by
    have h1 := sx_pre (σ := σ) hF hsim hS hOt U hU hW
    rw [List.map_cons, sx_tv_ref h0] at h1
    exact ⟨h1, by rw [hU]; exact hz⟩
  have hpd : (parseMethodDescriptor (sx_M i).1.desc).map (fun d => d.parameters.length) = some 0 := by
    simp only [if_pos] at hpd
    cases hp : parseMethodDescriptor (sx_M i).1.desc with
    | none => rw [hp] at hpd; cases hpd
    | some d =>
      rw [hp] at hpd
      have h9 : d.parameters.length + 1 = 1 := Option.some.inj hpd
      simp only [Option.map_some]
      congr 1
      omega
  have hcat9 : 2 * (F0 m pc ls (.ref (X.2.2.2.2.1.getD a.toNat 0) :: r.map (sx_tv X.2.2.2.2.1))).monitorRoom + ((r.map (sx_tv X.2.2.2.2.1)).map fun v => v.category).sum ≤ 8 := by
    have := sx_catS (ad := X.2.2.2.2.1) r
    show 2 * 0 + _ ≤ 8
    omega
  show W p X.1 e R s m args below meth c H locs _ _ Q (F0 m pc ls (sx_tv X.2.2.2.2.1 (.inr (.inr a)) :: r.map (sx_tv X.2.2.2.2.1)))
  rw [sx_tv_ref h0]
  refine gx_after (mc := k - k) (ms := gx_z k - gx_z k) (a := (Value.ref (X.2.2.2.2.1.getD a.toNat 0) :: []).toArray) (rest := r) (va_runV (C := sx_rn ci) (b := X.2.2.2.2.1.getD a.toNat 0) (As := []) (Ts := sx_TB) ⟨hx, hb, hml, hown, hts⟩ hrun ⟨callB_of (ws' := sx_TB) 0 hts (sx_good_ws hi) rfl rfl rfl (hts _ w5) (hts _ hl) ⟨w7.1, w7.2, hpd⟩ ⟨Nat.le_trans hfr hRf, Nat.le_trans hlo hRl⟩, hts _ (w4 hkd).1, by rw [hcn]; exact hts _ (w4 hkd).2⟩ ⟨gx_blind hst, ⟨cellB, q1, q2, q3⟩, hpre⟩ rfl rfl hlv.1 rfl hcat9 hd ⟨by rw [Nat.sub_self]; exact hnc.1, by rw [Nat.sub_self]; exact hnc.2⟩) hlv hLl hLo hS hOr (fun σ' hP => by rw [Nat.sub_self, Nat.sub_self]; exact h σ' hP)
/-- many cells at once -/
theorem gx_sim_n (hX : gx_X X) (hk : k ≤ k1) (hk1 : k1 ≤ 172) {σ' : sx_S} {H H1 : Heap} (hsim : sx_sim X (shM.take k) σ H) (o1 : ∀ q, q < H.size → H1[q]? = H[q]?) (he : ∀ a : Nat, a < k → σ' (a : Int) = σ (a : Int)) (hok : ∀ a : Nat, k ≤ a → a < k1 → sx_oke (shM.getD a (9, 0)) (σ' (a : Int))) (hnew : ∀ a : Nat, k ≤ a → a < k1 → va_at X.2.1 vwCl (X.2.2.2.1 + a, sx_ce X (shM.getD a (9, 0)) (σ' (a : Int))) H1) : sx_sim X (shM.take k1) σ' H1 := by
  obtain ⟨-, hwf, hP, -⟩ := hsim
  have l1 := gx_len (k := k) (by omega)
  have l2 := gx_len hk1
  have hat : ∀ (j : Nat) (q : Nat × va_E), (sx_wd X (shM.take k1) σ')[j]? = some q → j < k1 ∧ q = (X.2.2.2.1 + j, sx_ce X (shM.getD j (9, 0)) (σ' (j : Int))) := fun j q hq => by
    have hj : j < k1 := by
      have := (List.getElem?_eq_some_iff.mp hq).1
      rw [sx_wd_len, l2] at this
      exact this
    rw [sx_wd_at (by rw [l2]; exact hj), gx_get hj, hX.2 j (by omega)] at hq
    exact ⟨hj, (Option.some.inj hq).symm⟩
  refine ⟨by rw [l2]; have := hX.1; omega, fun a ha => ?_, fun j q hq => ?_, fun i j q1 q2 h1 h2 h3 => ?_, fun j q hq => ?_⟩
  · rw [l2] at ha
    rw [gx_get ha]
    by_cases q : a < k
    · have := hwf a (by rw [l1]; exact q)
      rw [gx_get q] at this
      rw [he a q]
      exact this
    · exact hok a (by omega) ha
  · obtain ⟨hj, rfl⟩ := hat j q hq
    by_cases q : j < k
    · have h5 := hP j _ (sx_wd_at (by rw [l1]; exact q))
      rw [gx_get q, hX.2 j (by omega)] at h5
      rw [he j q]
      exact h5.kept (o1 _ h5.lt)
    · exact hnew j (by omega) hj
  · obtain ⟨-, rfl⟩ := hat i q1 h1
    obtain ⟨-, rfl⟩ := hat j q2 h2
    simp only at h3
    omega
  · obtain ⟨-, rfl⟩ := hat j q hq
    show X.2.2.2.1 ≤ X.2.2.2.1 + j
    omega
theorem gx_sh89 : shM.getD 89 (9, 0) = (5, 20) := rfl
theorem gx_sh90 : ∀ j : Nat, j < 20 → shM.getD (90 + j) (9, 0) = (1, 8) := by decide
/-- the rows of the log -/
theorem gx_o_multi {nL : Nat} {σ' : sx_S} (hF : sx_Fx p s m args meth c R (89 - k0) (gx_z 89 - gx_z k0) X own mt) (hX : gx_X X) (hs : s.heap.size = X.2.2.2.1 + k0) (hk0 : k0 ≤ 89) (hd : decode mt.2.1 pc = .ok (.multianewarray 28 2, 4)) (hw : Cond.classLink (sx_rn own) 28 "[[I" ∈ sx_TB) (hN : gx_N X) (hT : ∀ a : Nat, 89 < a → a < 110 → σ' (a : Int) = gx_0 (a : Int)) (hR : 110 - k0 ≤ R.cells ∧ gx_z 110 - gx_z k0 ≤ R.slots) (he : ∀ a : Nat, a < 89 → σ' (a : Int) = σ (a : Int)) (h89 : ∀ j : Nat, j < 20 → σ' 89 (j : Int) = 90 + (j : Int))
    (h : sx_AT p e R s m args below meth c (110 - k0) (gx_z 110 - gx_z k0) Q X nL (pc + 4) L (.inr (.inr 89) :: st) (shM.take 110) σ') : sx_AT p e R s m args below meth c (89 - k0) (gx_z 89 - gx_z k0) Q X nL pc L (.inl 8 :: .inl 20 :: st) (shM.take 89) σ := by
  obtain ⟨hx, hb, hml, hown, hts, hK, hKx, -⟩ := hF
  intro ls H locs hG hO
  obtain ⟨hsim, hlv, hLl, hLo, hS⟩ := hG
  refine W_size (fun hu => ?_)
  have hz := gx_size hX (by omega) hsim hs hS.1 hk0 hu
  obtain ⟨-, kA, hkA, hkindA⟩ := hN s hKx
  have hf5 : s.vm.findClass "[[I" = some (X.2.2.1 5) := (hK.2 5 _ rfl).2
  obtain ⟨-, kC, hkC, c0, hkindC⟩ := (hK.2 1 _ rfl).1 0 (fun _ => .null)
  have hz89 : gx_z 110 = gx_z 89 + 180 := by decide
  have hzk := gx_z_le hk0
  refine gm_W hx hb hown (hts _ hw) hf5 hkA hkindA hkC hkindC hd (by omega) (by omega) hz (fun H1 L1 e1 e2 o1 z1 hL1 => ?_)
  rw [show 89 - k0 + 21 = 110 - k0 by omega, show gx_z 89 - gx_z k0 + 180 = gx_z 110 - gx_z k0 by omega]
  have h9 := h ls H1 (locs ++ L1) ⟨gx_sim_n hX (by omega) (by omega) hsim (fun q hq => o1 q (by rw [← hz]; exact hq)) he ?_ ?_, hlv, hLl, hLo, ⟨Nat.le_trans hS.1 (by omega), fun x h1 h2 => (o1 x (by have := hS.1; omega)).trans (hS.2.1 x h1 h2), fun q hq => by
      rcases List.mem_append.mp hq with h | h
      · exact hS.2.2 q h
      · show X.2.2.2.1 ≤ q.base
        rw [hL1 q h]
        omega⟩⟩ (sx_okS_cons trivial (sx_okS_tl (sx_okS_tl hO)))
  · rw [List.map_cons] at h9
    have e9 := gx_tv_new hX (k := 89) (by omega)
    have e10 : sx_tv X.2.2.2.2.1 (.inr (.inr 89)) = .ref (X.2.2.2.1 + 89) := e9
    rw [e10] at h9
    exact h9
  · intro a ha0 ha1
    by_cases q : a = 89
    · subst q
      rw [gx_sh89]
      exact (by decide : 20 < 2147483648)
    · obtain ⟨j, rfl⟩ : ∃ j, a = 90 + j := ⟨a - 90, by omega⟩
      rw [hT _ (by omega) ha1, gx_sh90 j (by omega)]
      refine ⟨by decide, fun i => ?_⟩
      unfold gx_0
      rw [show (((90 + j : Nat) : Int)).toNat = 90 + j by omega, gx_sh90 j (by omega)]
      exact gx_b32
  · intro a ha0 ha1
    by_cases q : a = 89
    · subst q
      rw [gx_sh89]
      show H1[X.2.2.2.1 + 89]? = some (arrV (X.2.2.1 5) 20 (fun j => va_rf (sx_rf X.2.2.2.2.1 (σ' 89 (j : Int)))))
      rw [e1]
      refine congrArg some (gm_cg (fun j hj => ?_))
      rw [h89 j hj]
      unfold sx_rf
      rw [if_neg (by omega), show ((90 + (j : Int))).toNat = 90 + j by omega, hX.2 _ (by omega)]
      show Value.ref (X.2.2.2.1 + 89 + 1 + j) = Value.ref (X.2.2.2.1 + (90 + j))
      rw [show X.2.2.2.1 + 89 + 1 + j = X.2.2.2.1 + (90 + j) by omega]
    · obtain ⟨j, rfl⟩ : ∃ j, a = 90 + j := ⟨a - 90, by omega⟩
      rw [hT _ (by omega) ha1, gx_sh90 j (by omega)]
      have h5 := e2 j (by omega)
      show H1[X.2.2.2.1 + (90 + j)]? = some (arrV (X.2.2.1 1) 8 (fun i => .int (Int32.ofInt (gx_0 ((90 + j : Nat) : Int) (i : Int)))))
      rw [show X.2.2.2.1 + (90 + j) = X.2.2.2.1 + 89 + 1 + j by omega, h5]
      unfold gx_0
      rw [show (((90 + j : Nat) : Int)).toNat = 90 + j by omega, gx_sh90 j (by omega)]
      rfl
end GXC
