/-! THE LAW'S ENTRY: what is known there -/
section WS
variable {A : Array Value} {s : State}
theorem ws_inst : ∀ ci, ci < 13 → Cond.instantiable (sx_rn ci) (sx_nf ci) ∈ lw_tbl := by
  intro ci h
  match ci, h with
  | 0, _ => exact List.mem_of_getElem? (i := 537) (by decide +kernel)
  | 1, _ => exact List.mem_of_getElem? (i := 169) (by decide +kernel)
  | 2, _ => exact List.mem_of_getElem? (i := 298) (by decide +kernel)
  | 3, _ => exact List.mem_of_getElem? (i := 509) (by decide +kernel)
  | 4, _ => exact List.mem_of_getElem? (i := 402) (by decide +kernel)
  | 5, _ => exact List.mem_of_getElem? (i := 163) (by decide +kernel)
  | 6, _ => exact List.mem_of_getElem? (i := 379) (by decide +kernel)
  | 7, _ => exact List.mem_of_getElem? (i := 570) (by decide +kernel)
  | 8, _ => exact List.mem_of_getElem? (i := 595) (by decide +kernel)
  | 9, _ => exact List.mem_of_getElem? (i := 396) (by decide +kernel)
  | 10, _ => exact List.mem_of_getElem? (i := 292) (by decide +kernel)
  | 11, _ => exact List.mem_of_getElem? (i := 155) (by decide +kernel)
  | 12, _ => exact List.mem_of_getElem? (i := 1492) (by decide +kernel)
theorem ws_cl {c : Nat} {q : vw_C} (h : vwCl[c]? = some q) : c < 13 ∧ q = (sx_rn c, sx_cT c, sx_nf c) := by
  have hc : c < 13 := by
    have h1 := (List.getElem?_eq_some_iff.mp h).1
    have h2 : vwCl.length = 13 := rfl
    omega
  exact ⟨hc, Option.some.inj (h.symm.trans (sx_cls c hc))⟩
theorem ws_K1 (hts : ∀ w ∈ lw_tbl, w.before A s = true) : ∃ D : va_G, ∀ ci, ci < 13 → u_Kn s (sx_rn ci) (sx_cT ci) (sx_nf ci) (D.1 ci) (D.2 ci) := by
  have h : ∀ ci : Nat, ∃ q : ClassId × (Nat → Nat), ci < 13 → u_Kn s (sx_rn ci) (sx_cT ci) (sx_nf ci) q.1 q.2 := fun ci => by
    by_cases hc : ci < 13
    · obtain ⟨cC, iS, h⟩ := u_known (ws := sx_TB) (fun w hw => hts w (List.mem_filter.mp hw).1) (sx_lays ci hc) (hts _ (ws_inst ci hc))
      exact ⟨(cC, iS), fun _ => h⟩
    · exact ⟨(0, fun _ => 0), fun z => absurd z hc⟩
  obtain ⟨f, hf⟩ := Classical.axiomOfChoice h
  exact ⟨(fun c => (f c).1, fun c => (f c).2), hf⟩
theorem ws_arr {t : FieldType} (h : (Cond.arrayClass t).before A s = true) : ∃ cA : ClassId, ArrOfT s cA t ∧ s.vm.findClass ("[" ++ t.toString) = some cA := by
  obtain ⟨c, k, comp, h1, h2, h3⟩ := Cond.arrayClass_spec h
  exact ⟨c, fun n z => ⟨fun k h => (by cases h), k, h2, comp, h3⟩, h1⟩
theorem ws_over (h : (Cond.arrayOver (.array .int)).before A s = true) : ∃ (comp c : ClassId) (k : Class), s.vm.findClass ("[" ++ FieldType.int.toString) = some comp ∧ s.vm.classes[c]? = some k ∧ k.kind = .array comp (.array .int) ∧ s.vm.findClass ("[" ++ (FieldType.array .int).toString) = some c := by
  have h : (Cond.arrayOver (.array .int)).holds A s none s [] = true := h
  simp only [Cond.holds, Cond.value, beq_iff_eq] at h
  cases hc : s.vm.findClass (FieldType.array .int).toString with
  | none => simp [hc] at h
  | some comp =>
    simp only [hc, Option.bind_some, Option.bind_eq_some_iff, Option.map_eq_some_iff] at h
    obtain ⟨c, hi, k, hk, hb⟩ := h
    obtain ⟨hlt, hp, -⟩ := Array.findIdx?_eq_some_iff_getElem.mp hi
    have hkk : s.vm.classes[c] = k := (Array.getElem?_eq_some_iff.mp hk).2
    rw [hkk] at hp
    cases hkind : k.kind with
    | array component ty =>
      rw [hkind] at hb hp
      simp at hb hp
      exact ⟨comp, c, k, hc, hk, by rw [hkind, hp, hb.1], hb.2⟩
    | _ => rw [hkind] at hb; simp at hb
/-- what is known of the rest, all along -/
def ws_R (b0 aK aV a1 a2 : Nat) (AC : Nat → ClassId) (U : State) : Prop := zS b0 aK aV U ∧ vk_R "SnowScore$Lexer" 58 txW aK U ∧ th_Z b0 U ∧ vk_R "SnowScore" 137 "no such walker" a1 U ∧ vk_R "SnowScore" 160 "no such what" a2 U ∧ ct_V U ∧ (∀ q ∈ gx_nl, va_Nw (gx_nw q) U) ∧ ∃ kA : Class, U.vm.classes[AC 5]? = some kA ∧ kA.kind = .array (AC 1) (.array .int)
theorem ws_R.mv {b0 aK aV a1 a2 : Nat} {AC : Nat → ClassId} {U : State} (hW : s.WarmedH U.vm) (hq : ∀ q : Nat, q < b0 → U.heap[q]? = s.heap[q]?) (h : ws_R b0 aK aV a1 a2 AC s) : ws_R b0 aK aV a1 a2 AC U := by
  obtain ⟨h1, h2, h3, h4, h5, h6, h7, kA, h8, h9⟩ := h
  obtain ⟨k', hk', he⟩ := hW.alike.2.2 _ _ h8
  exact ⟨zS.mv hW.alike (fun q _ hb => hq q (by omega)) h1, vk_R.warm hW h2, th_Z.mv h3 hW hq, vk_R.warm hW h4, vk_R.warm hW h5, ct_V.mv h6 hW.alike, fun q hq => va_Nw.warmM hW (h7 q hq), k', hk', by rw [he]; exact h9⟩
theorem ws_nest (hts : ∀ w ∈ lw_tbl, w.before A s = true) : ∀ q ∈ gx_nl, va_Nw (gx_nw q) s := by
  unfold gx_nl
  have up : ∀ {q : Nat × Nat × Nat} {i : Nat}, lw_tbl[i]? = some (gx_nw q) → va_Nw (gx_nw q) s := fun h => va_Nw.of rfl (hts _ (List.mem_of_getElem? h))
  exact List.forall_mem_cons.mpr ⟨up (i := 170) (by decide +kernel), List.forall_mem_cons.mpr ⟨up (i := 380) (by decide +kernel), List.forall_mem_cons.mpr ⟨up (i := 403) (by decide +kernel), List.forall_mem_cons.mpr ⟨up (i := 510) (by decide +kernel), List.forall_mem_cons.mpr ⟨up (i := 538) (by decide +kernel), List.forall_mem_cons.mpr ⟨up (i := 571) (by decide +kernel), List.forall_mem_cons.mpr ⟨up (i := 596) (by decide +kernel), fun _ h => absurd h List.not_mem_nil⟩⟩⟩⟩⟩⟩⟩
theorem ws_nw {w : Cond} {i : Nat} (h : (flatC (Jvm.Cond.and given_1 narrow_1))[i]? = some w) (hgv : (Jvm.Cond.and given_1 narrow_1).before A s = true) : w.before A s = true := flat_of_before _ hgv _ (List.mem_of_getElem? h)
def ws_by : List Int32 := wcL.map Int32.ofInt
theorem ws_by_eq (j : Nat) : ws_by.getD j 0 = Int32.ofInt (fWc (j : Int)) := by
  unfold ws_by fWc
  rw [List.getD_eq_getElem?_getD, List.getD_eq_getElem?_getD, List.getElem?_map, Int.toNat_natCast]
  cases wcL[j]? <;> rfl
set_option maxRecDepth 20000 in
theorem ws_el : ∀ j : Nat, j < 120 → (flatC (Jvm.Cond.and given_1 narrow_1))[43 + j]? = some (Cond.eq (.elem (.field (Term.string "SnowScore$Lexer" 58) "java/lang/String" "value" "[B") (.int (Int32.ofNat j))) (.int (ws_by.getD j 0))) := by decide +kernel
theorem ws_str (hgv : (Jvm.Cond.and given_1 narrow_1).before A s = true) : ∃ aK aV : Nat, (va_O "java/lang/String" aK (fun q => s.heap.size ≤ q) s s.heap ∧ va_OF "java/lang/String" "coder" "B" (.int 0) aK (fun q => s.heap.size ≤ q) s s.heap ∧ va_OF "java/lang/String" "value" "[B" (.ref aV) aK (fun q => s.heap.size ≤ q) s s.heap ∧ va_T .byte aV 120 (fun j => .int (Int32.ofInt (fWc (j : Int)))) (fun q => s.heap.size ≤ q) s s.heap) ∧ (Term.string "SnowScore$Lexer" 58).eval A s none [] s = some (.ref aK) := by
  have z : ∀ i : Nat, i < 1 → i = 0 := fun i h => by omega
  obtain ⟨adK, adV, h1, h2⟩ := vk_Sof (args := A) (s := s) (N := 1) (tm := fun _ => Term.string "SnowScore$Lexer" 58) (len := [120]) (byt := [ws_by]) (A := fun q => s.heap.size ≤ q)
    (fun i hi => by rw [z i hi]; decide)
    (fun i hi => ws_nw (i := 39) (by decide +kernel) hgv)
    (fun i hi => ws_nw (i := 40) (by decide +kernel) hgv)
    (fun i hi => ws_nw (i := 41) (by decide +kernel) hgv)
    (fun i hi => by rw [z i hi]; exact ws_nw (i := 42) (by decide +kernel) hgv)
    (fun i hi j hj => by rw [z i hi] at hj ⊢; exact ws_nw (ws_el j hj) hgv)
    (fun i j hi hj h => absurd ((z i hi).trans (z j hj).symm) h)
    (fun a h => Nat.not_le.mpr h)
  obtain ⟨h3, h4, h5, h6⟩ := h1.1 0 (by omega)
  refine ⟨adK 0, adV 0, ⟨h3, h4, h5, ?_⟩, h2 0 (by omega)⟩
  have e : (fun j : Nat => Value.int (([ws_by].getD 0 []).getD j 0)) = (fun j : Nat => Value.int (Int32.ofInt (fWc (j : Int)))) := funext fun j => congrArg Value.int (ws_by_eq j)
  rw [e] at h6
  exact h6
theorem ws_rest (hts : ∀ w ∈ lw_tbl, w.before A s = true) (hgv : (Jvm.Cond.and given_1 narrow_1).before A s = true) : ∃ (D : va_G) (AC : Nat → ClassId) (aK aV a1 a2 : Nat), va_K D vwCl [(AC 0, .int), (AC 1, .int), (AC 2, .long), (AC 3, .byte), (AC 4, .boolean), (AC 5, .array .int)] s ∧ ws_R s.heap.size aK aV a1 a2 AC s := by
  have tb : ∀ {w : Cond} (i : Nat), lw_tbl[i]? = some w → w.before A s = true := fun _ h => hts _ (List.mem_of_getElem? h)
  obtain ⟨D, hD⟩ := ws_K1 hts
  obtain ⟨c1, p1, q1⟩ := ws_arr (tb (w := .arrayClass .int) 181 (by decide +kernel))
  obtain ⟨c2, p2, q2⟩ := ws_arr (tb (w := .arrayClass .long) 394 (by decide +kernel))
  obtain ⟨c3, p3, q3⟩ := ws_arr (tb (w := .arrayClass .byte) 180 (by decide +kernel))
  obtain ⟨c4, p4, q4⟩ := ws_arr (tb (w := .arrayClass .boolean) 1796 (by decide +kernel))
  obtain ⟨co, c5, k5, r1, r2, r3, r4⟩ := ws_over (tb 515 (by decide +kernel))
  obtain rfl : c1 = co := Option.some.inj (q1.symm.trans r1)
  obtain ⟨aK, aV, ⟨s1, s2, s3, s4⟩, s5⟩ := ws_str hgv
  obtain ⟨a1, -, -, -, t1, -⟩ := Cond.exactly_spec (ws_nw (w := .exactly (.string "SnowScore" 137) "java/lang/String") (i := 163) (by decide +kernel) hgv)
  obtain ⟨a2, -, -, -, t2, -⟩ := Cond.exactly_spec (ws_nw (w := .exactly (.string "SnowScore" 160) "java/lang/String") (i := 182) (by decide +kernel) hgv)
  have nA : ∀ a : Nat, a < s.heap.size → ¬ s.heap.size ≤ a := fun a h => Nat.not_le.mpr h
  refine ⟨D, fun k => match k with | 0 => c1 | 1 => c1 | 2 => c2 | 3 => c3 | 4 => c4 | _ => c5, aK, aV, a1, a2, ⟨fun c q hq => ?_, fun k q hq => ?_⟩, ⟨s1, s2, s3, s4, ?_, ?_⟩, vk_R.of (A := A) (tb 692 (by decide +kernel)) s5, ⟨?_, ?_, ?_, ?_, ?_⟩, vk_R.of (A := A) (tb 1449 (by decide +kernel)) t1, vk_R.of (A := A) (tb 1484 (by decide +kernel)) t2, ct_V.of (A := A) (tb 1411 (by decide +kernel)) (tb 1477 (by decide +kernel)) (ws_nw (i := 24) (by decide +kernel) hgv), ws_nest hts, k5, r2, r3⟩
  · obtain ⟨hc, rfl⟩ := ws_cl hq
    exact hD c hc
  · match k, hq with
    | 0, hq => obtain rfl := Option.some.inj (show some (c1, FieldType.int) = some q from hq); exact ⟨p1, q1⟩
    | 1, hq => obtain rfl := Option.some.inj (show some (c1, FieldType.int) = some q from hq); exact ⟨p1, q1⟩
    | 2, hq => obtain rfl := Option.some.inj (show some (c2, FieldType.long) = some q from hq); exact ⟨p2, q2⟩
    | 3, hq => obtain rfl := Option.some.inj (show some (c3, FieldType.byte) = some q from hq); exact ⟨p3, q3⟩
    | 4, hq => obtain rfl := Option.some.inj (show some (c4, FieldType.boolean) = some q from hq); exact ⟨p4, q4⟩
    | 5, hq => obtain rfl := Option.some.inj (show some (c5, FieldType.array .int) = some q from hq); exact ⟨fun n z => ⟨fun k h => (by cases h), k5, r2, c1, r3⟩, r4⟩
    | n + 6, hq => exact absurd hq (by simp)
  · exact va_Zof (args := A) (tb 702 (by decide +kernel)) (tb 143 (by decide +kernel)) (va_eqi (ws_nw (i := 4) (by decide +kernel) hgv)) nA
  · exact va_Zqof (args := A) (tb 710 (by decide +kernel)) (tb 145 (by decide +kernel)) (ws_nw (i := 5) (by decide +kernel) hgv) nA
  · exact zL.of (A := A) (tb 1436 (by decide +kernel)) (ws_nw (i := 9) (by decide +kernel) hgv) (Nat.le_refl _)
  · exact zL.of (A := A) (tb 1438 (by decide +kernel)) (ws_nw (i := 10) (by decide +kernel) hgv) (Nat.le_refl _)
  · exact va_Nw.of rfl (tb (w := .declares (Bundle.initS "java/lang/RuntimeException")) 1413 (by decide +kernel))
  · exact va_Nw.of rfl (tb (w := .declares (Bundle.initS "java/lang/Exception")) 1415 (by decide +kernel))
  · exact va_Nw.of rfl (tb (w := .declares (Bundle.initS Bundle.tN)) 1417 (by decide +kernel))
end WS
