/-! THE LOG'S ROWS: an array of twenty arrays of eight ints, made in one step -/
def gm_out (c : ClassId) (h i : Nat) : Cell := { cls := c, slots := Array.ofFn (n := 20) fun j => if j.val < i then Value.ref (h + 1 + j.val) else Value.null, vm := .none }
def gm_row (d : ClassId) : Cell := { cls := d, slots := Array.replicate 8 (Value.int 0), vm := .none }
def gm_st (s : State) (c d : ClassId) : Nat → State
  | 0 => s.pushCell (gm_out c s.heap.size 0)
  | i + 1 => ((gm_st s c d i).pushCell (gm_row d)).setCell s.heap.size (gm_out c s.heap.size (i + 1))
theorem gm_out0 (c : ClassId) (h : Nat) : gm_out c h 0 = { cls := c, slots := Array.replicate 20 Value.null, vm := .none } := by
  unfold gm_out
  congr 1
theorem gm_outs (c : ClassId) (h i : Nat) : (gm_out c h i).setSlot i (.ref (h + 1 + i)) = gm_out c h (i + 1) := by
  have hs : (Array.ofFn (n := 20) fun j => if j.val < i then Value.ref (h + 1 + j.val) else Value.null).setIfInBounds i (.ref (h + 1 + i)) = Array.ofFn (n := 20) fun j => if j.val < i + 1 then Value.ref (h + 1 + j.val) else Value.null := by
    apply Array.ext_getElem?
    intro j
    rw [Array.getElem?_setIfInBounds, Array.getElem?_ofFn, Array.getElem?_ofFn, Array.size_ofFn]
    by_cases e : i = j
    · subst e
      by_cases hj : i < 20
      · simp [hj]
      · simp [hj]
    · have h2 : (j < i + 1) ↔ (j < i) := by omega
      simp [e, h2]
  show ({ gm_out c h i with slots := (Array.ofFn (n := 20) fun j => if j.val < i then Value.ref (h + 1 + j.val) else Value.null).setIfInBounds i (.ref (h + 1 + i)) } : Cell) = gm_out c h (i + 1)
  rw [hs]
  rfl
theorem gm_out20 (c : ClassId) (h : Nat) : gm_out c h 20 = arrV c 20 (fun j => .ref (h + 1 + j)) := by
  unfold gm_out arrV
  congr 1
theorem gm_rowV (d : ClassId) : gm_row d = arrV d 8 (fun _ => .int 0) := by
  unfold gm_row arrV
  congr 1
theorem gm_facts (s : State) (c d : ClassId) : ∀ i, (gm_st s c d i).heap.size = s.heap.size + 1 + i ∧ (gm_st s c d i).heap[s.heap.size]? = some (gm_out c s.heap.size i) ∧ (gm_st s c d i).vm = s.vm ∧ (gm_st s c d i).slotsUsed = s.slotsUsed + 20 + 8 * i ∧ (∀ q, q < s.heap.size → (gm_st s c d i).heap[q]? = s.heap[q]?) ∧ ∀ j, j < i → (gm_st s c d i).heap[s.heap.size + 1 + j]? = some (gm_row d)
  | 0 => by
    refine ⟨by simp [gm_st], by simp [gm_st], rfl, by simp [gm_st, gm_out], fun q hq => ?_, fun j hj => absurd hj (Nat.not_lt_zero _)⟩
    show (s.heap.push _)[q]? = _
    rw [Array.getElem?_push, if_neg (by omega)]
  | i + 1 => by
    obtain ⟨h1, h2, h3, h4, h5, h6⟩ := gm_facts s c d i
    have hp : ∀ q, q < s.heap.size + 1 + i → ((gm_st s c d i).pushCell (gm_row d)).heap[q]? = (gm_st s c d i).heap[q]? := fun q hq => by
      show ((gm_st s c d i).heap.push _)[q]? = _
      rw [Array.getElem?_push, if_neg (by omega)]
    have hn : ((gm_st s c d i).pushCell (gm_row d)).heap[s.heap.size + 1 + i]? = some (gm_row d) := by
      show ((gm_st s c d i).heap.push _)[s.heap.size + 1 + i]? = _
      rw [← h1]
      simp
    refine ⟨?_, heapAt_setCell_self _ ?_, h3, ?_, fun q hq => ?_, fun j hj => ?_⟩
    · show (((gm_st s c d i).heap.push _).setIfInBounds _ _).size = _
      rw [Array.size_setIfInBounds, Array.size_push, h1]
      omega
    · show _ < ((gm_st s c d i).heap.push _).size
      rw [Array.size_push, h1]
      omega
    · show (gm_st s c d i).slotsUsed + _ = _
      rw [h4]
      simp [gm_row]
      omega
    · show (((gm_st s c d i).pushCell (gm_row d)).setCell _ _).heap[q]? = _
      rw [heapAt_setCell_ne _ (show s.heap.size ≠ q by omega), hp q (by omega)]
      exact h5 q hq
    · show (((gm_st s c d i).pushCell (gm_row d)).setCell _ _).heap[_]? = _
      rw [heapAt_setCell_ne _ (show s.heap.size ≠ s.heap.size + 1 + j by omega)]
      by_cases e : j = i
      · subst e
        exact hn
      · rw [hp _ (by omega)]
        exact h6 j (by omega)
theorem gm_top (s : State) (f : JFrame) (c d : ClassId) : ∀ i, gm_st (s.setTop f) c d i = (gm_st s c d i).setTop f
  | 0 => rfl
  | i + 1 => by simp only [gm_st, gm_top s f c d i, State.heap_setTop, State.pushCell_setTop, State.setCell_setTop]
section GM1
variable {E : CtlPost} {e : Env} {d : Bool} {acts : List Action} {s : State}
theorem gm_newA {c comp : ClassId} {k : Class} {type : FieldType} {len : Nat} {v : Value} (hk : s.vm.classes[c]? = some k) (hkind : k.kind = .array comp type) (hl : ¬ len > e.platform.arrayLengthLimit) (hb : ¬ len * componentBytes type > e.platform.maxHeapBytes) (hfit : fits type v = true) (hdef : v.isDefault = true) {Q : Addr → Pre}
    (h1 : s.heap.size < e.platform.maxCells) (h2 : s.slotsUsed + len ≤ e.platform.maxSlots) (hq : Q s.heap.size d acts (s.pushCell { cls := c, slots := Array.replicate len v, vm := .none })) : wp (Jvm.newArray c len v) Q E e d acts s := by
  have hall : ((Array.replicate len v).all (·.isDefault)) = true := by
    rw [Array.all_replicate]
    split <;> simp [hdef]
  have hact : allocActs (Array.replicate len v) s.heap.size acts = acts := by
    unfold allocActs
    rw [if_pos hall]
  have hfs : ∀ i x, (Array.replicate len v)[i]? = some x → s.fitsSlot c .none i x = true := by
    intro i x hx
    rw [Array.getElem?_replicate] at hx
    split at hx
    · cases hx
      simp [State.fitsSlot, State.slotType?, hk, hkind, hfit]
    · cases hx
  simp only [Jvm.newArray, Jvm.arrayFits, wp_bind', W.ask, W.ite, hl, if_false, wp_pure', W.theClass, hk, hkind, hb, W.alloc, W.stop, Option.some.injEq, exists_eq_left', Array.size_replicate, hact]
  rw [if_neg (by omega)]
  exact ⟨h1, h2, hfs, hq⟩
theorem gm_make1 {comp c0 : ClassId} {k : Class} (hk : s.vm.classes[comp]? = some k) (hkind : k.kind = .array c0 .int) (hl : ¬ 8 > e.platform.arrayLengthLimit) (hb : ¬ 8 * 4 > e.platform.maxHeapBytes) {Q : Addr → Pre} (h1 : s.heap.size < e.platform.maxCells) (h2 : s.slotsUsed + 8 ≤ e.platform.maxSlots) (hq : Q s.heap.size d acts (s.pushCell (gm_row comp))) : wp (multianewarray.make comp [8]) Q E e d acts s := by
  rw [multianewarray.make]
  simp only [wp_bind', W.ite, show ¬ ((8 : Int32) < 0) by decide, if_false, wp_pure', W.theClass, hk, hkind, Option.some.injEq, exists_eq_left']
  exact gm_newA hk hkind hl hb rfl rfl h1 h2 hq
set_option maxRecDepth 4000 in
theorem gm_make2 {c comp c0 : ClassId} {k kc : Class} (hk : s.vm.classes[c]? = some k) (hkind : k.kind = .array comp (.array .int)) (hkc : s.vm.classes[comp]? = some kc) (hkindc : kc.kind = .array c0 .int) (hl : ¬ 20 > e.platform.arrayLengthLimit) (hb : ¬ 20 * 4 > e.platform.maxHeapBytes) {Q : Addr → Pre} (h1 : s.heap.size + 21 ≤ e.platform.maxCells) (h2 : s.slotsUsed + 180 ≤ e.platform.maxSlots) (hq : ∀ d' acts', Q s.heap.size d' acts' (gm_st s c comp 20)) : wp (multianewarray.make c [20, 8]) Q E e d acts s := by
  have hfind : (([8] : List Int32).find? (· < 0)) = none := by decide
  rw [multianewarray.make]
  simp only [wp_bind', W.ite, show ¬ ((20 : Int32) < 0) by decide, if_false, wp_pure', W.theClass, hk, hkind, Option.some.injEq, exists_eq_left']
  refine gm_newA (type := .array .int) hk hkind hl hb rfl rfl (by omega) (by show s.slotsUsed + 20 ≤ _; omega) ?_
  simp only [hfind]
  rw [ite_self, wp_bind', Std.Legacy.Range.forIn_eq_forIn_range']
  show wp (forIn (List.range' 0 20 1) PUnit.unit _) _ E e d acts _
  refine wp_forIn_inv (fun rest s' => ∃ i, i ≤ 20 ∧ rest = List.range' i (20 - i) ∧ s' = gm_st s c comp i) _ _ ⟨0, Nat.zero_le _, rfl, ?_⟩ ?_ ?_
  · show s.pushCell _ = s.pushCell _
    rw [gm_out0]
  · rintro x rest s' d' acts' Q' ⟨i, hi, hr, rfl⟩ hnext
    have hlt : i < 20 := by
      rcases Nat.lt_or_ge i 20 with h | h
      · exact h
      · rw [show 20 - i = 0 by omega] at hr
        cases hr
    rw [show 20 - i = (20 - (i + 1)) + 1 by omega, List.range'_succ] at hr
    obtain ⟨rfl, hr⟩ := List.cons.inj hr
    obtain ⟨f1, f2, f3, f4, f5, f6⟩ := gm_facts s c comp x
    simp only [wp_bind']
    refine gm_make1 (by rw [f3]; exact hkc) hkindc (by omega) (by omega) (by rw [f1]; omega) (by rw [f4]; omega) ?_
    simp only [wp_bind', W.writeLoc, wp_pure']
    refine ⟨gm_out c s.heap.size x, ?_, by simp [gm_out], by simp [gm_out]; exact hlt, ?_, hnext _ _ _ ⟨x + 1, hlt, hr, ?_⟩⟩
    · show ((gm_st s c comp x).heap.push _)[s.heap.size]? = _
      rw [Array.getElem?_push, if_neg (by omega)]
      exact f2
    · show State.fitsSlot _ c .none x _ = true
      simp [State.fitsSlot, State.slotType?, f3, hk, hkind]
      rfl
    · rw [f1, gm_outs]
      rfl
  · rintro s' d' acts' ⟨i, hi, hr, rfl⟩
    have : i = 20 := by
      rcases Nat.lt_or_ge i 20 with h | h
      · rw [show 20 - i = (20 - (i + 1)) + 1 by omega, List.range'_succ] at hr
        cases hr
      · omega
    subst this
    simp only [wp_pure']
    exact hq _ _
end GM1
section GM2
variable {p : Program} {l : Launch} {e : Env} {R : Room} {s : State} {m : MethodId} {args : Array Value} {below : List Frame} {meth : Method} {c : Code} {T : State} {locs : List Loc} {cells slots : Nat} {H : Heap} {Q : State → Prop}
theorem gm_stand (X : Stand p l e R s m args below meth c T locs cells slots) (cA comp : ClassId) : ∀ i, Stand p l e R s m args below meth c (gm_st T cA comp i) (locs ++ (List.range i).map fun j => ⟨T.heap.size, j⟩) (cells + 1 + i) (slots + 20 + 8 * i)
  | 0 => by
    have h := X.pushed (gm_out cA T.heap.size 0)
    have e1 : (gm_out cA T.heap.size 0).slots.size = 20 := by simp [gm_out]
    rw [e1] at h
    simpa [gm_st] using h
  | i + 1 => by
    have Xi := gm_stand X cA comp i
    obtain ⟨f1, f2, -⟩ := gm_facts T cA comp i
    have hcell : ((gm_st T cA comp i).pushCell (gm_row comp)).heap[T.heap.size]? = some (gm_out cA T.heap.size i) := by
      show ((gm_st T cA comp i).heap.push _)[T.heap.size]? = _
      rw [Array.getElem?_push, if_neg (by omega)]
      exact f2
    have h := (Xi.pushed (gm_row comp)).stored hcell i (.ref (T.heap.size + 1 + i))
    rw [gm_outs, show (gm_row comp).slots.size = 8 by simp [gm_row]] at h
    have e2 : (locs ++ (List.range (i + 1)).map fun j => (⟨T.heap.size, j⟩ : Loc)) = (locs ++ (List.range i).map fun j => (⟨T.heap.size, j⟩ : Loc)) ++ [⟨T.heap.size, i⟩] := by simp [List.range_succ, List.append_assoc]
    rw [e2, show slots + 20 + 8 * (i + 1) = slots + 20 + 8 * i + 8 by omega]
    exact h
theorem gm_W {cc : ByteArray} (hexec : p.tables.exec = Jvm.exec) (hb : c.code = cc) {own : String} {index : Nat} (hown : s.vm.findClass own = some m.cls) (hclink : (Cond.classLink own index "[[I").before args s = true) {cA comp c0 : ClassId} {kA kC : Class} (hfc : s.vm.findClass "[[I" = some cA) (hkA : s.vm.classes[cA]? = some kA) (hkindA : kA.kind = .array comp (.array .int)) (hkC : s.vm.classes[comp]? = some kC) (hkindC : kC.kind = .array c0 .int)
    {pc : Nat} {ls : Array Slot} {rest : List Value} (hdg : decode cc pc = .ok (.multianewarray index 2, 4)) (hcells : cells + 21 ≤ R.cells) (hslots : slots + 180 ≤ R.slots) {h : Nat} (hh : H.size = h)
    (kk : ∀ (H' : Heap) (L : List Loc), H'[h]? = some (arrV cA 20 (fun j => .ref (h + 1 + j))) → (∀ j, j < 20 → H'[h + 1 + j]? = some (arrV comp 8 (fun _ => .int 0))) → (∀ q, q < h → H'[q]? = H[q]?) → H'.size = h + 21 → (∀ x ∈ L, x.base = h) → W p l e R s m args below meth c H' (locs ++ L) (cells + 21) (slots + 180) Q (F0 m (pc + 4) ls (.ref h :: rest))) : W p l e R s m args below meth c H locs cells slots Q (F0 m pc ls (.int 8 :: .int 20 :: rest)) := by
  intro T hT X
  subst hT
  subst hb
  subst hh
  have hpl : e.platform.magicAccessors = ({} : Platform).magicAccessors := by rw [X.admits.platform]
  obtain ⟨cz, hfz, hcl⟩ := Cond.classLink_spec hown hclink e.platform hpl
  cases hfc.symm.trans hfz
  obtain ⟨hg₁, hwarm₁, hready₁⟩ := State.classEntry (e := e) X.warmed hcl
  generalize T.vm.noted m.cls index (.cls cA) = vm₁ at hg₁ hwarm₁ hready₁
  have hal : s.vm.Alike vm₁ := hwarm₁.alike
  obtain ⟨kA₁, hkA₁, heA⟩ := hal.2.2 _ _ hkA
  obtain ⟨kC₁, hkC₁, heC⟩ := hal.2.2 _ _ hkC
  have hkindA₁ : kA₁.kind = .array comp (.array .int) := by rw [heA]; exact hkindA
  have hkindC₁ : kC₁.kind = .array c0 .int := by rw [heC]; exact hkindC
  have X₁ := X.noted hwarm₁
  obtain ⟨hr1, hr2⟩ := X.roomAbove hcells hslots
  have XF := gm_stand X₁ cA comp 20
  obtain ⟨f1, f2, f3, f4, f5, f6⟩ := gm_facts (T.setVm vm₁) cA comp 20
  obtain ⟨t, a1, b1⟩ := kk (gm_st (T.setVm vm₁) cA comp 20).heap _ (by rw [← gm_out20]; exact f2) (fun j hj => by rw [← gm_rowV]; exact f6 j hj) f5 f1 (fun x hx => by
    obtain ⟨j, -, rfl⟩ := List.mem_map.mp hx
    rfl) _ rfl XF
  refine ⟨t, ?_, b1⟩
  have hl : ¬ 20 > e.platform.arrayLengthLimit := by rw [Launch.admits_arrayLengthLimit X.admits]; omega
  have hhb : ¬ 20 * 4 > e.platform.maxHeapBytes := by rw [Launch.admits_maxHeapBytes X.admits]; omega
  jvm_step X.here [hexec, hdg]
  simp only [multianewarray.sem, wp_bind', W.resolveClassAt_links (State.method?_setTop (F0 m pc ls (.int 8 :: .int 20 :: rest)) X.here.top) hg₁]
  rw [W.popN, if_neg (by decide)]
  refine ⟨F0 m pc ls (.int 8 :: .int 20 :: rest), State.topJava?_setTop' (s := T.setVm vm₁) _ X.here.top, [.int 20, .int 8], rest, rfl, rfl, ?_⟩
  simp only [List.mapM_cons, List.mapM_nil, wp_bind', wp_pure']
  refine gm_make2 (k := kA₁) (kc := kC₁) (comp := comp) (c0 := c0) hkA₁ hkindA₁ hkC₁ hkindC₁ hl hhb (by show T.heap.size + 21 ≤ _; omega) (by show T.slotsUsed + 180 ≤ _; omega) (fun d' acts' => ?_)
  have eS : ((T.setTop (F0 m pc ls (.int 8 :: .int 20 :: rest))).setVm vm₁).setTop (F0 m pc ls rest) = (T.setVm vm₁).setTop (F0 m pc ls rest) := by
    show ((T.setVm vm₁).setTop _).setTop _ = _
    rw [State.setTop_setTop]
  rw [eS, gm_top]
  simp only [wp_bind', W.mark, W.pushRef, State.topJava?_setTop' _ XF.here.top, Option.some.injEq, exists_eq_left', State.setTop_setTop, State.heap_setTop]
  intro acts
  simp [jvm, XF.here.top]
  exact a1
end GM2
