/-! THE LAW'S OWN look: it calls the class's, and says how that ended -/
def ll_hh : List (Nat × Nat × Nat × Nat) := [(0, 10, 13, 13), (0, 10, 17, 15)]
def ll_ws : List Cond := Cond.codeWith yL_look cL_look 5 (some .int) ll_hh :: sx_TB
def ll_rm : Room := { frames := 7, cells := 1, slots := 6, locals := 142 }
def ll_mt : sx_Mt := (yL_look, cL_look, 5, some .int, 7, 142, 0, 0)
def ll_Q (X : sx_X) (r : Int × Int) (σ : sx_S) : Array Value → State → Outcome → State → Prop := fun _ st oc t => (oc = .returned (some (.int (Int32.ofInt r.2))) ∧ sx_sim X shM (if r.2 = 0 then sx_up σ 171 0 r.1 else σ) t.heap) ∧ va_F (sx_A X) st t
section LL1
variable {p : Program} {e : Env} {R : Room} {s : State} {m : MethodId} {args : Array Value} {below : List Frame} {meth : Method} {c : Code} {X : sx_X} {σ : sx_S} {r : Int × Int} {T : State} {locs : List Loc}
set_option maxHeartbeats 2000000 in
/-- the class's look called: it comes back, or throws into this frame -/
theorem ll_call {g : JFrame} {w q : Int} {rest : List Value} (X0 : Stand p X.1 e R s m args below meth c T locs 0 0) (hexec : p.tables.exec = Jvm.exec) (hown : s.vm.findClass RL = some m.cls) (hts : ∀ w ∈ sx_TB, w.before args s = true) (hst : sx_stb X) (hM : MetFree X.1 (sx_M 128).1 (headSpec (sx_ws (sx_M 128)) lk_rm) (sx_Pc X [.inr (.inr 0), .inl w, .inl q] shM σ) (fun _ _ _ _ _ => True) (lk_Q X r σ))
    (hK : va_K X.2.1 vwCl (sx_tys X) s) (hKx : X.2.2.2.2.2 s) (hbs : X.2.2.2.1 ≤ s.heap.size) (hS : va_S (sx_A X) s.heap T.heap locs) (hsim : sx_sim X shM σ T.heap) (hok : sx_okS [.inr (.inr 0), .inl w, .inl q]) (hR : 7 ≤ R.frames ∧ 142 ≤ R.locals ∧ 1 ≤ R.cells ∧ 6 ≤ R.slots) (hg : g.method = m) (hsize : g.locals.size = c.maxLocals) (hstack : g.stack = .int (Int32.ofInt q) :: .int (Int32.ofInt w) :: .ref (X.2.2.2.2.1.getD 0 0) :: rest) (hrest : (rest.map fun v => v.category).sum ≤ 8) (hmr : g.monitorRoom = 0) (hd : decode c.code g.pc = .ok (.invokevirtual 7, 3)) :
    ∃ (T' : State) (L : List Loc), Stand p X.1 e R s m args below meth c T' (locs ++ L) 1 6 ∧ sx_sim X shM σ T'.heap ∧ va_S (sx_A X) s.heap T'.heap (locs ++ L) ∧
      ((r.2 = 0 ∧ ∀ target, Steps p.tables e below (T'.setTop { g with pc := g.pc + 3, stack := .int (Int32.ofInt r.1) :: rest }) target → Steps p.tables e below (T.setTop g) target) ∨
       (¬ r.2 = 0 ∧ ∃ (a : Addr) (ce : Cell), T'.heap[a]? = some ce ∧ ce.vm = .none ∧ s.vm.findClass (lk_C r.2) = some ce.cls ∧ ∀ target, Steps p.tables e below ((T'.setTop { g with stack := rest }).pushFrame (.throwing a)) target → Steps p.tables e below (T.setTop g) target)) := by
  have hi : 128 < sx_Ms.length := by decide +kernel
  obtain ⟨w1, w2, w3, w4, w5, w6, w7⟩ := sx_mwords hi
  have hkd : sx_kd 128 = 0 := by decide +kernel
  have hlk0 : sx_lk shM 0 = (0, 11) := rfl
  obtain ⟨hat, hlt, ea, ha0, hsh⟩ := sx_ent_at (X := X) (σ := σ) hlk0 (by omega)
  obtain ⟨cellB, q1, q2, q3⟩ := va_recv (q := (sx_rn 11, sx_cT 11, sx_nf 11)) hK hsim.2.2.1 (sx_cls 11 (by omega)) hat
  have q1 : T.heap[X.2.2.2.2.1.getD 0 0]? = some cellB := q1
  obtain ⟨mk, methM, hnamed, hmethM, hstM, habM⟩ := Cond.instanceMethod_spec (hts _ (w4 hkd).1)
  obtain ⟨methM', cM, hmethM', hcM, -, hlM, -, -, -, hsigM⟩ := Cond.code_spec hnamed (hts _ w1)
  cases hmethM.symm.trans hmethM'
  obtain ⟨c2, r2, m2, y1, y2, y3, y4, kP, hkP, hkPi⟩ := Cond.selects_spec (hts _ (w4 hkd).2)
  have q3 : s.vm.findClass (sx_M 128).1.cls = some cellB.cls := q3
  cases q3.symm.trans y1
  cases (State.methodFound?_of_named hnamed w7).symm.trans y2
  cases hnamed.symm.trans y3
  have hselP : selectMethod e.platform s.vm cellB.cls mk = .method mk := by rw [Launch.admits_selectMethod X0.admits]; exact y4
  have hsl : methM.sig.parameters.length = 2 := by
    have : parseMethodDescriptor (sx_M 128).1.desc = some ⟨[.int, .int], some .int⟩ := by decide +kernel
    rw [this] at hsigM
    rw [← Option.some.inj hsigM]
    rfl
  obtain ⟨vm₁, X₁, hstep₁⟩ := X0.invokevirtual hexec hown (hts _ ct_w7) hnamed hmethM hstM hkP hkPi w7 (a := X.2.2.2.2.1.getD 0 0) (cell := cellB) q1 (fun z h => by rw [h] at q2; cases q2) hselP hmethM habM hkP hkPi (g := g) hg (argsL := [.int (Int32.ofInt w), .int (Int32.ofInt q)]) (rest := rest) hsl.symm hstack hd
  have hg2 : ({ g with stack := rest } : JFrame).method = m := hg
  have h : At (T.setVm vm₁) ({ g with stack := rest } : JFrame).method c below := by rw [hg2]; exact X₁.here
  have hW1 := X₁.warmed
  have hn1 : (T.setVm vm₁).methodNamed? (sx_M 128).1 = some mk := X₁.named hnamed
  have hm1 : (T.setVm vm₁).vm.method? mk = some methM := by rw [hW1.alike.method?]; exact hmethM
  obtain ⟨kY, hkY, -⟩ := className_of_methodNamed hn1
  have hinitY : kY.init = .initialized := Cond.initialized_spec (findClass_of_methodNamed hn1) hkY (word_at (a' := args) hW1 (sx_TBg w5) (hts _ w5))
  have hpre9 : (headSpec (sx_ws (sx_M 128)) lk_rm).pre.before (Value.ref (X.2.2.2.2.1.getD 0 0) :: [.int (Int32.ofInt w), .int (Int32.ofInt q)]).toArray (T.setVm vm₁) = true := atoms_intro (fun w hw => by
    have h5 := (sx_good_ws hi w hw)
    exact word_at hW1 h5.2 (hts _ h5.1))
  have happ : (headSpec (sx_ws (sx_M 128)) lk_rm).appliesLoose (sx_M 128).1 e.platform ((T.setVm vm₁).calling { g with stack := rest } mk (Value.ref (X.2.2.2.2.1.getD 0 0) :: [.int (Int32.ofInt w), .int (Int32.ofInt q)]).toArray) = true :=
    Spec.appliesLoose_calling (g := { g with stack := rest }) h hd hn1 hkY hinitY (X₁.room_calling (g := { g with stack := rest }) (R' := lk_rm) hsize hm1 hcM (by show 6 + 1 ≤ R.frames; omega) (by
      rw [hlM]
      show 2 * g.monitorRoom + (rest.map fun v => v.category).sum + (3 + 11) + 120 ≤ R.locals
      omega) (by show 0 + 1 ≤ R.cells; omega) (by show 0 + 6 ≤ R.slots; omega)) hpre9
  have hPc : sx_Pc X [.inr (.inr 0), .inl w, .inl q] shM σ (Value.ref (X.2.2.2.2.1.getD 0 0) :: [.int (Int32.ofInt w), .int (Int32.ofInt q)]).toArray (T.setVm vm₁) := ⟨rfl, hsim, va_K.moved hW1.alike hK, hok, hst s (T.setVm vm₁) hW1 (fun z hz => hS.2.1 z (by omega) (fun y => by unfold sx_A at y; omega)) hKx, Nat.le_trans hbs hS.1⟩
  obtain ⟨mid, hmid⟩ := h.above
  have hfr : ((T.setVm vm₁).setTop { g with stack := rest }).frames = (.java { g with stack := rest } :: mid) ++ below := by rw [State.frames_setTop' _ h.top, hmid]; rfl
  obtain ⟨o, s₂, hsteps, hrun2, hend, hq⟩ := Steps.callFree hM p X0.admits X0.cas X0.clock (acts := []) hfr happ (sx_blind hst _ _ _ _ hPc) trivial
  have hq' : lk_Q X r σ (Value.ref (X.2.2.2.2.1.getD 0 0) :: [.int (Int32.ofInt w), .int (Int32.ofInt q)]).toArray ((T.setVm vm₁).calling { g with stack := rest } mk (Value.ref (X.2.2.2.2.1.getD 0 0) :: [.int (Int32.ofInt w), .int (Int32.ofInt q)]).toArray) o s₂ := hq
  rw [State.frames_setTop' _ h.top] at hend
  obtain ⟨⟨f1, f2⟩, hsim2, hW₂, ⟨L, ⟨e2, k2, k3, k4, k5, k6⟩, hL⟩, hout⟩ := hq'
  have e3 : s₂ = ({ ((T.setVm vm₁).calling { g with stack := rest } mk (Value.ref (X.2.2.2.2.1.getD 0 0) :: [.int (Int32.ofInt w), .int (Int32.ofInt q)]).toArray).setFrames s₂.frames with heap := s₂.heap, slotsUsed := s₂.slotsUsed } : State).setVm s₂.vm := by
    have : s₂ = ({ s₂ with vm := ((T.setVm vm₁).calling { g with stack := rest } mk (Value.ref (X.2.2.2.2.1.getD 0 0) :: [.int (Int32.ofInt w), .int (Int32.ofInt q)]).toArray).vm } : State).setVm s₂.vm := rfl
    rw [e2] at this
    exact this
  have hW' : (T.setVm vm₁).WarmedH s₂.vm := hW₂
  obtain ⟨g₀, hg0⟩ := Option.isSome_iff_exists.mp h.top
  obtain ⟨rf, hrf⟩ := State.topJava?_eq_some.mp hg0
  have hrf' : (({ T.setVm vm₁ with heap := s₂.heap, slotsUsed := s₂.slotsUsed } : State).setVm s₂.vm).frames = .java g₀ :: rf := hrf
  have hsame : (T.setVm vm₁).sameButNew ({ T.setVm vm₁ with heap := s₂.heap, slotsUsed := s₂.slotsUsed } : State) L 1 6 := by
    refine ⟨?_, k2, k3, k4, k5, k6⟩
    obtain ⟨t, ht, -⟩ := State.frames_cons hrf
    show ({ T.setVm vm₁ with heap := s₂.heap, slotsUsed := s₂.slotsUsed } : State) = { (T.setVm vm₁).setFrames (T.setVm vm₁).frames with heap := s₂.heap, slotsUsed := s₂.slotsUsed }
    rw [State.setFrames_self ht]
  have hS' : va_S (sx_A X) s.heap s₂.heap (locs ++ L) := ⟨Nat.le_trans hS.1 f1, fun z h1 h2 => by rw [f2 z (Nat.lt_of_lt_of_le h1 hS.1) h2]; exact hS.2.1 z h1 h2, fun z hz => by
    rcases List.mem_append.mp hz with h9 | h9
    · exact hS.2.2 z h9
    · exact hL z h9⟩
  refine ⟨(({ T.setVm vm₁ with heap := s₂.heap, slotsUsed := s₂.slotsUsed } : State).setVm s₂.vm), L, ⟨X₁.admits, X₁.cas, X₁.clock, X₁.frames, X₁.room, X₁.hears, X₁.method, X₁.code, (X₁.here.setHeapUsed s₂.heap s₂.slotsUsed).setVm hW'.alike, X₁.tail, State.WarmedH.trans X₁.warmed hW', X₁.limits, X₁.bytes, X₁.same.trans (hsame.setVm s.vm)⟩, hsim2, hS', ?_⟩
  rcases hout with ⟨hr0, rfl⟩ | ⟨hr0, a, ce, rfl, hce, hcv, hcc⟩
  · refine Or.inl ⟨hr0, fun target hT => ?_⟩
    obtain ⟨c₂, i₂, len₂, hc₂, hd₂, hf₂⟩ := hend
    have hcc : c₂ = c := by
      have h1 : s₂.code? ({ g with stack := rest } : JFrame).method = (T.setVm vm₁).code? ({ g with stack := rest } : JFrame).method := by
        rw [State.code?_eq, State.code?_eq, hW'.alike.method?]
      exact Option.some.inj (hc₂.symm.trans (h1.trans h.code))
    subst hcc
    have hlen : len₂ = 3 := by
      have hd₂' : decode c₂.code g.pc = .ok (i₂, len₂) := hd₂
      rw [hd] at hd₂'
      cases hd₂'
      rfl
    subst hlen
    have hs₂ : s₂ = (({ T.setVm vm₁ with heap := s₂.heap, slotsUsed := s₂.slotsUsed } : State).setVm s₂.vm).setTop { g with pc := g.pc + 3, stack := .int (Int32.ofInt r.1) :: rest } := by
      refine e3.trans ?_
      rw [hf₂, State.calling_eq h.top, State.setFrames_setFrames, State.setTop_of_frames _ hrf', hrf]
      rfl
    refine hstep₁ _ (fun acts => ?_)
    rw [doInvoke_state]
    refine hsteps.trans ?_
    rw [hs₂]
    exact hT
  · refine Or.inr ⟨hr0, a, ce, hce, hcv, by rw [← hW1.alike.findClass]; exact hcc, fun target hT => ?_⟩
    have hf₂ : s₂.frames = .throwing a :: .java { g with stack := rest } :: (T.setVm vm₁).frames.tail := hend
    have hs₂ : s₂ = ((({ T.setVm vm₁ with heap := s₂.heap, slotsUsed := s₂.slotsUsed } : State).setVm s₂.vm).setTop { g with stack := rest }).pushFrame (.throwing a) := by
      refine e3.trans ?_
      rw [hf₂, State.calling_eq h.top, State.setFrames_setFrames, State.pushFrame, State.frames_setTop _ hrf', State.setTop_of_frames _ hrf', State.setFrames_setFrames, hrf]
      rfl
    refine hstep₁ _ (fun acts => ?_)
    rw [doInvoke_state]
    refine hsteps.trans ?_
    rw [hs₂]
    exact hT
end LL1
