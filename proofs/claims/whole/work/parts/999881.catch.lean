/-! A THROW CAUGHT by a handler whose class may be resolved at that moment -/
section CT1
variable {E : CtlPost} {e : Env} {d : Bool} {acts : List Action} {s : State} {f : JFrame} {a : Addr} {Q : Handler → Pre}
theorem ct_go {x : ExceptionTableEntry} {t : List ExceptionTableEntry} {c : ClassId} {cell : Cell} {vm' : Vm} (hx : covers x f.pc = true) (h0 : x.catchType ≠ 0) (hg : (Jvm.resolveClass f.method.cls x.catchType).Gives e.toSetting s.vm (.ok c) vm') (hsz : vm'.classes.size ≤ s.vm.classes.size)
    (hcell : s.heap[a]? = some cell) (hobj : ∀ k, cell.vm ≠ .statics k) (hk : ∃ k, vm'.classes[cell.cls]? = some k) (hc : ∃ k, vm'.classes[c]? = some k) :
    wp (findHandler.go f a (x :: t)) Q E e d acts s ↔ if vm'.assignable cell.cls c = true then Q (.found x.handlerPc) d acts (s.setVm vm') else wp (findHandler.go f a t) Q E e d acts (s.setVm vm') := by
  simp only [covers] at hx
  obtain ⟨ha, ht⟩ := hg.op (op := VmOp.resolveClass f.method.cls x.catchType) rfl
  cases hfit : vm'.assignable cell.cls c <;> simp [findHandler.go, hx, h0, ha, ht, hsz, hcell, hobj, hk, hc, hfit, VmOp.dirties, VmOp.acts]
end CT1
section CT2
variable {tb : Tables} {e : Env} {s target : State} {g : JFrame} {c : Code} {below : List Frame} {a : Addr}
/-- a search that leaves the tables warmer -/
def ct_F (e : Env) (s : State) (f : JFrame) (a : Addr) (pc : Nat) (vm' : Vm) : Prop := ∀ (Q : Handler → Pre) (E : CtlPost) (d : Bool) (acts : List Action), wp (findHandler f a) Q E e d acts s ↔ Q (.found pc) d acts (s.setVm vm')
theorem ct_step {f : JFrame} {r : List Frame} {pc : Nat} {vm' : Vm} (hfind : ct_F e s f a pc vm') : (stepThrowing e s a (.java f :: r)).Is ((s.setVm vm').setFrames (.java { f with pc := pc, stack := [.ref a] } :: r)) [] := by
  simp only [stepThrowing, searchFrame, vmDo]
  generalize hr : Sem.go _ e false [] s = res
  obtain ⟨as, rfl, ha⟩ := Sem.eq_ok_of hr (a := Handler.found pc) (s' := s.setVm vm') (acts' := []) (by simp [hfind _ _ _ _])
  exact ⟨rfl, ha⟩
theorem ct_caught (h : At s g.method c below) {pc : Nat} {vm' : Vm} (hfind : ct_F e ((s.setTop g).pushFrame (.throwing a)) g a pc vm') (hrest : Steps tb e below ((s.setVm vm').setTop { g with pc := pc, stack := [.ref a] }) target) :
    Steps tb e below ((s.setTop g).pushFrame (.throwing a)) target := by
  obtain ⟨hgo, hw⟩ := h.throwing a
  refine Steps.head hgo hw ?_
  rw [stepThread_throwing (frames_entered h.top _), (ct_step (s := (s.setTop g).pushFrame (.throwing a)) hfind).1]
  obtain ⟨g₀, hg⟩ := Option.isSome_iff_exists.mp h.top
  obtain ⟨r, hr⟩ := State.topJava?_eq_some.mp hg
  have hr' : (s.setVm vm').frames = .java g₀ :: r := hr
  rw [State.setTop_of_frames _ hr'] at hrest
  have e9 : ∀ F1 F2 F3 : List Frame, (((s.setFrames F1).setFrames F2).setVm vm').setFrames F3 = (s.setVm vm').setFrames F3 := fun F1 F2 F3 => by
    show (((s.setVm vm').setFrames F1).setFrames F2).setFrames F3 = _
    rw [State.setFrames_setFrames, State.setFrames_setFrames]
  rw [State.pushFrame, State.setTop_of_frames _ hr, e9, hr]
  exact hrest
end CT2
/-- what the rest must say of the two classes of exceptions -/
def ct_V (U : State) : Prop := ∃ c1 c2 : ClassId, U.vm.findClass nIO = some c1 ∧ U.vm.findClass nNS = some c2 ∧ U.vm.assignable c1 c1 = true ∧ U.vm.assignable c2 c2 = true ∧ U.vm.assignable c2 c1 = false
theorem ct_V.mv {s U : State} (h : ct_V s) (hal : s.vm.Alike U.vm) : ct_V U := by
  obtain ⟨c1, c2, h1, h2, h3, h4, h5⟩ := h
  exact ⟨c1, c2, by rw [hal.findClass]; exact h1, by rw [hal.findClass]; exact h2, by rw [hal.assignable]; exact h3, by rw [hal.assignable]; exact h4, by rw [hal.assignable]; exact h5⟩
theorem ct_V.of {s : State} {A : Array Value} (h1 : (Cond.castable nIO nIO).before A s = true) (h2 : (Cond.castable nNS nNS).before A s = true) (h3 : (Cond.not (.castable nNS nIO)).before A s = true) : ct_V s := by
  obtain ⟨c1, c1', a1, a2, a3⟩ := Cond.castable_spec h1
  obtain ⟨c2, c2', b1, b2, b3⟩ := Cond.castable_spec h2
  cases a1.symm.trans a2
  cases b1.symm.trans b2
  refine ⟨c1, c2, a1, b1, a3, b3, ?_⟩
  cases hq : s.vm.assignable c2 c1 with
  | false => rfl
  | true => simp [Cond.before, Cond.holds, Cond.value, a1, b1, hq] at h3
theorem ct_w13 : Cond.classLink RL 13 nIO ∈ sx_TB := sx_words (i := 1403) (by decide +kernel) rfl
theorem ct_w15 : Cond.classLink RL 15 nNS ∈ sx_TB := sx_words (i := 1404) (by decide +kernel) rfl
theorem ct_w7 : Cond.methodLink RL 7 (sx_M 128).1 ∈ sx_TB := sx_words (i := 1405) (by decide +kernel) rfl
section CT3
variable {p : Program} {l : Launch} {e : Env} {R : Room} {s : State} {m : MethodId} {args : Array Value} {below : List Frame} {meth : Method} {c : Code} {T : State} {locs : List Loc} {cells slots : Nat}
/-- the two handlers of the law's look: which one takes it -/
theorem ct_find (X : Stand p l e R s m args below meth c T locs cells slots) (hown : s.vm.findClass RL = some m.cls) (hts : ∀ w ∈ sx_TB, w.before args s = true) (hV : ct_V s) (htab : c.exceptionTable.toList.map (fun h => (h.startPc, h.endPc, h.handlerPc, h.catchType)) = [(0, 10, 13, 13), (0, 10, 17, 15)]) {g : JFrame} (hg : g.method = m) (hpc : g.pc = 5) {a : Addr} {ce : Cell} (hce : T.heap[a]? = some ce) (hvm : ce.vm = .none) {r : Int} (hr : r = 1 ∨ r = 2) (hcl : s.vm.findClass (lk_C r) = some ce.cls) :
    ∃ vm' : Vm, s.WarmedH vm' ∧ ct_F e ((T.setTop g).pushFrame (.throwing a)) g a (if r = 1 then 13 else 17) vm' := by
  obtain ⟨c1, c2, v1, v2, v3, v4, v5⟩ := hV
  have hpl : e.platform.magicAccessors = ({} : Platform).magicAccessors := by rw [X.admits.platform]
  obtain ⟨d1, hd1, hl1⟩ := Cond.classLink_spec hown (hts _ ct_w13) e.platform hpl
  cases v1.symm.trans hd1
  obtain ⟨d2, hd2, hl2⟩ := Cond.classLink_spec hown (hts _ ct_w15) e.platform hpl
  cases v2.symm.trans hd2
  subst hg
  obtain ⟨hg1, hW1, -⟩ := State.classEntry (e := e) X.warmed hl1
  obtain ⟨hg2, hW2, -⟩ := State.classEntry (e := e) hW1 hl2
  have hs1 : (T.vm.noted g.method.cls 13 (.cls c1)).classes.size ≤ T.vm.classes.size := by no_record
  have hs2 : ((T.vm.noted g.method.cls 13 (.cls c1)).noted g.method.cls 15 (.cls c2)).classes.size ≤ (T.vm.noted g.method.cls 13 (.cls c1)).classes.size := by no_record
  generalize T.vm.noted g.method.cls 13 (.cls c1) = vm₁ at hg1 hW1 hg2 hW2 hs1 hs2
  generalize vm₁.noted g.method.cls 15 (.cls c2) = vm₂ at hg2 hW2 hs2
  have hA1 := hW1.alike
  have hA2 := hW2.alike
  have cls1 : ∀ {n : String} {q : ClassId}, s.vm.findClass n = some q → ∃ k, vm₁.classes[q]? = some k := fun {n q} h => by
    obtain ⟨k, hk⟩ := Vm.classAt_of_findClass h
    obtain ⟨k', hk', -⟩ := hA1.2.2 _ _ hk
    exact ⟨k', hk'⟩
  have cls2 : ∀ {n : String} {q : ClassId}, s.vm.findClass n = some q → ∃ k, vm₂.classes[q]? = some k := fun {n q} h => by
    obtain ⟨k, hk⟩ := Vm.classAt_of_findClass h
    obtain ⟨k', hk', -⟩ := hA2.2.2 _ _ hk
    exact ⟨k', hk'⟩
  obtain ⟨x1, x2, htb, hx1, hx2⟩ : ∃ x1 x2, c.exceptionTable.toList = [x1, x2] ∧ (x1.startPc = 0 ∧ x1.endPc = 10 ∧ x1.handlerPc = 13 ∧ x1.catchType = 13) ∧ (x2.startPc = 0 ∧ x2.endPc = 10 ∧ x2.handlerPc = 17 ∧ x2.catchType = 15) := by
    generalize c.exceptionTable.toList = tl at htab
    match tl, htab with
    | [x1, x2], h =>
      simp only [List.map_cons, List.map_nil, List.cons.injEq, Prod.mk.injEq, and_true] at h
      exact ⟨x1, x2, rfl, h.1, h.2⟩
    | [], h => simp at h
    | [_], h => simp at h
    | _ :: _ :: _ :: _, h => simp at h
  obtain ⟨y1, y2, y3, y4⟩ := hx1
  obtain ⟨z1, z2, z3, z4⟩ := hx2
  have hc1 : covers x1 g.pc = true := by simp [covers, y1, y2, hpc]
  have hc2 : covers x2 g.pc = true := by simp [covers, z1, z2, hpc]
  have hobj : ∀ k, ce.vm ≠ .statics k := fun k => by rw [hvm]; intro h; cases h
  have hmT : ((T.setTop g).pushFrame (.throwing a)).vm.method? g.method = some meth := by
    rw [Stand.throwing_vm]
    exact X.method'
  have hce' : ((T.setTop g).pushFrame (.throwing a)).heap[a]? = some ce := by
    rw [Stand.throwing_heap]
    exact hce
  have hvmT : ((T.setTop g).pushFrame (.throwing a)).vm = T.vm := Stand.throwing_vm T g a
  rcases hr with rfl | rfl
  · have e1 : ce.cls = c1 := Option.some.inj (hcl.symm.trans v1)
    refine ⟨vm₁, hW1, fun Q E d acts => ?_⟩
    rw [W.findHandler_eq hmT X.code, htb, ct_go hc1 (by rw [y4]; decide) (by rw [y4, hvmT]; exact hg1) (by rw [hvmT]; exact hs1) hce' hobj (by rw [e1]; exact cls1 v1) (cls1 v1), if_pos (by rw [e1, hA1.assignable]; exact v3), y3]
    rfl
  · have e1 : ce.cls = c2 := Option.some.inj (hcl.symm.trans v2)
    refine ⟨vm₂, hW2, fun Q E d acts => ?_⟩
    rw [W.findHandler_eq hmT X.code, htb, ct_go hc1 (by rw [y4]; decide) (by rw [y4, hvmT]; exact hg1) (by rw [hvmT]; exact hs1) hce' hobj (by rw [e1]; exact cls1 v2) (cls1 v1), if_neg (by rw [e1, hA1.assignable, v5]; decide)]
    rw [ct_go (s := ((T.setTop g).pushFrame (.throwing a)).setVm vm₁) hc2 (by rw [z4]; decide) (by rw [z4]; exact hg2) hs2 hce' hobj (by rw [e1]; exact cls2 v2) (cls2 v2), if_pos (by rw [e1, hA2.assignable]; exact v4), z3]
    rfl
end CT3
