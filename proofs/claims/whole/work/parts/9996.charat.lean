/-! STRING.CHARAT, on -/
section SXW2
/-- what is known of the words' constant: its object, its bytes, two statics -/
def zS (b aK aV : Nat) (U : State) : Prop := va_O "java/lang/String" aK (fun q => b ≤ q) U U.heap ∧ va_OF "java/lang/String" "coder" "B" (.int 0) aK (fun q => b ≤ q) U U.heap ∧ va_OF "java/lang/String" "value" "[B" (.ref aV) aK (fun q => b ≤ q) U U.heap ∧ va_T .byte aV 120 (fun j => .int (Int32.ofInt (fWc (j : Int)))) (fun q => b ≤ q) U U.heap ∧ va_Z "java/lang/String" "COMPACT_STRINGS" "Z" (.int 1) (fun q => b ≤ q) U U.heap ∧ va_Zq "jdk/internal/util/Preconditions" "SIOOBE_FORMATTER" "Ljava/util/function/BiFunction;" (fun q => b ≤ q) U U.heap
theorem zS.mv {b aK aV : Nat} {s U : State} (hv : s.vm.Alike U.vm) (hq : ∀ q : Nat, q < s.heap.size → ¬ b ≤ q → U.heap[q]? = s.heap[q]?) (h : zS b aK aV s) : zS b aK aV U := by
  obtain ⟨h1, h2, h3, h4, h5, h6⟩ := h
  exact ⟨(va_O.moved hv h1).kept hq, (va_OF.moved hv h2).kept hq, (va_OF.moved hv h3).kept hq, (va_T.moved hv h4).kept hq, (va_Z.moved hv h5).kept hq, (va_Zq.moved hv h6).kept hq⟩
theorem zS.blind {b aK aV : Nat} {U : State} {g : JFrame} {mk : MethodId} {a : Array Value} (h : zS b aK aV U) : zS b aK aV (U.calling g mk a) := zS.mv (U := U.calling g mk a) (Vm.Alike.refl U.vm) (fun _ _ _ => rfl) h
section SXW3
variable {p : Program} {l : Launch} {e : Env} {R : Room} {s : State} {m : MethodId} {args : Array Value} {below : List Frame} {meth : Method} {c : Code} {H : Heap} {locs : List Loc} {cells slots : Nat} {Q : State → Prop}
/-- behind a call that changes nothing -/
theorem W_callN {g : JFrame} {rest : List Value} {Qa : State → Outcome → State → Prop} {r : Option Value} (hr : CallRun p l e R s m args below meth c H locs cells slots 0 0 g rest Qa (fun _ => False)) (hv : ∀ st v t, Qa st (.returned v) t → v = r ∧ t.heap = st.heap) (kk : W p l e R s m args below meth c H locs cells slots Q { g with pc := g.pc + 3, stack := r.toList ++ rest }) : W p l e R s m args below meth c H locs cells slots Q g := by
  intro T hT X
  obtain ⟨v, st₀, t, T', L, h0, X', hL, e1, hq, st⟩ := hr T hT X
  obtain ⟨hv1, hv2⟩ := hv _ _ _ hq
  subst hv1
  obtain ⟨t2, a1, b1⟩ := kk T' (by rw [e1, hv2, h0]) (Stand.forget X' (fun q h => (hL q h).elim))
  exact ⟨t2, st t2 a1, b1⟩
end SXW3
def k2_QcN : Array Value → State → Outcome → State → Prop := fun _ st o t => o = .returned none ∧ t.heap = st.heap
theorem dSc0 : decode bS_chk 0 = .ok (.iload_n 0, 1) := by decide +kernel
theorem dSc1 : decode bS_chk 1 = .ok (.iload_n 1, 1) := by decide +kernel
theorem dSc2 : decode bS_chk 2 = .ok (.getstatic 1053, 3) := by decide +kernel
theorem dSc5 : decode bS_chk 5 = .ok (.invokestatic 1059, 3) := by decide +kernel
theorem dSc8 : decode bS_chk 8 = .ok (.pop, 1) := by decide +kernel
theorem dSc9 : decode bS_chk 9 = .ok (.return_, 1) := by decide +kernel
set_option maxRecDepth 100000 in
theorem c_Schk (l : Launch) (b aK aV : Nat) (i n : Int32) (h0 : ¬ i < 0) (h1 : i < n) : Met l yS_chk (.code yS_chk bS_chk 2 none :: sx_TB) (k2_rm 1 22) (fun a U => a = #[.int i, .int n] ∧ zS b aK aV U) k2_QcN 0 0 (fun _ => False) := by
  refine Met.ofW (cc := bS_chk) (maxL := 2) (ret := none) (by decide) rfl ?_
  intro p e s m args below meth c s₁ B hml hv9
  obtain ⟨rfl, hz⟩ := hv9
  have hx := B.exec
  have hb := B.bytes
  have hr := B.returns
  have hlocks := B.notSynchronized
  have hts : ∀ w ∈ sx_TB, w.before _ s = true := fun w hw => atoms_spec (ws := .code yS_chk bS_chk 2 none :: sx_TB) B.pre w (List.mem_cons_of_mem _ hw)
  have hown : s.vm.findClass "java/lang/String" = some m.cls := findClass_of_methodNamed B.named
  have hS : va_S (fun q => b ≤ q) s.heap s.heap [] := va_S.rf
  have hl := lv_entry ([.int i, .int n]) (n := 2) (Nat.le_of_ble_eq_true rfl)
  rw [lg_entry_eq]
  generalize (lg_sl ([.int i, .int n]) ++ List.replicate (2 - (lg_sl ([.int i, .int n])).length) Slot.unset).toArray = ls at hl ⊢
  have hl : lv_has ls 2 [(0, .int i), (1, .int n)] := hl
  refine lv_iload_n hx hb dSc0 rfl (lv_at hl 0 rfl) ?_
  refine lv_iload_n hx hb dSc1 rfl (lv_at hl 1 rfl) ?_
  have go : ∀ v : Value, (v = .null ∨ ∃ q, v = .ref q) → va_Z "jdk/internal/util/Preconditions" "SIOOBE_FORMATTER" "Ljava/util/function/BiFunction;" v (fun q => b ≤ q) s s.heap → W p l e (headSpec (.code yS_chk bS_chk 2 none :: sx_TB) (k2_rm 1 22)).room s m #[.int i, .int n] below meth c s.heap [] 0 0 (MQ below k2_QcN #[.int i, .int n] s 0 0 (fun _ => False)) (F0 m 2 ls [.int n, .int i]) := by
    intro v hv hZ
    refine va_gets hx hb hZ hS hown (hts _ wS_581) (fun x h => h) dSc2 ?_
    refine W_callN (r := some (.int i)) (W.runS (As := [.int i, .int n, v]) (rest := []) (Ts := sx_TB) ⟨hx, hb, hml, hown, hts⟩ (c_Pchk l i n v hv h0 h1) ⟨callB_of (ws' := sx_TB) 3 hts (gd_TB wS_585) rfl rfl rfl (hts _ wS_i17) (hts _ wS_583) ⟨by decide, by decide, by decide +kernel⟩ ⟨Nat.le_of_ble_eq_true rfl, Nat.le_of_ble_eq_true rfl⟩, hts _ wS_584⟩ ⟨fun a U g mk q => q, fun U hU hW => rfl⟩ rfl rfl hl.1 rfl (lv_room (Nat.le_of_ble_eq_true rfl)) dSc5 ⟨Nat.le_of_ble_eq_true rfl, Nat.le_of_ble_eq_true rfl⟩) (fun st v t h => ⟨by cases h.1; rfl, h.2⟩) ?_
    refine lv_pop hx hb dSc8 rfl ?_
    exact W.vret hx hb hr (fun t ht _ => ⟨rfl, ht⟩) (fun q hq => by cases hq) dSc9
  rcases hz.2.2.2.2.2 with hZ | ⟨q, hZ⟩
  · exact go _ (Or.inl rfl) hZ
  · exact go _ (Or.inr ⟨q, rfl⟩) hZ
theorem dSl0 : decode bS_lat 0 = .ok (.getstatic 38, 3) := by decide +kernel
theorem dSl3 : decode bS_lat 3 = .ok (.ifCond .eq 14, 3) := by decide +kernel
theorem dSl6 : decode bS_lat 6 = .ok (.aload_n 0, 1) := by decide +kernel
theorem dSl7 : decode bS_lat 7 = .ok (.getfield 15, 3) := by decide +kernel
theorem dSl10 : decode bS_lat 10 = .ok (.ifCond .ne 7, 3) := by decide +kernel
theorem dSl13 : decode bS_lat 13 = .ok (.iconst 1, 1) := by decide +kernel
theorem dSl14 : decode bS_lat 14 = .ok (.goto 4, 3) := by decide +kernel
theorem dSl18 : decode bS_lat 18 = .ok (.ireturn, 1) := by decide +kernel
set_option maxRecDepth 100000 in
theorem c_Slat (l : Launch) (b aK aV : Nat) : Met l yS_lat (.code yS_lat bS_lat 1 (some .boolean) :: sx_TB) (k2_rm 0 0) (fun a U => a = #[.ref aK] ∧ zS b aK aV U) (k2_QcV (.int 1)) 0 0 (fun _ => False) := by
  refine Met.ofW (cc := bS_lat) (maxL := 1) (ret := some .boolean) (by decide) rfl ?_
  intro p e s m args below meth c s₁ B hml hv9
  obtain ⟨rfl, hz⟩ := hv9
  have hx := B.exec
  have hb := B.bytes
  have hr := B.returns
  have hlocks := B.notSynchronized
  have hts : ∀ w ∈ sx_TB, w.before _ s = true := fun w hw => atoms_spec (ws := .code yS_lat bS_lat 1 (some .boolean) :: sx_TB) B.pre w (List.mem_cons_of_mem _ hw)
  have hown : s.vm.findClass "java/lang/String" = some m.cls := findClass_of_methodNamed B.named
  have hS : va_S (fun q => b ≤ q) s.heap s.heap [] := va_S.rf
  have hl := lv_entry ([.ref aK]) (n := 1) (Nat.le_of_ble_eq_true rfl)
  rw [lg_entry_eq]
  generalize (lg_sl ([.ref aK]) ++ List.replicate (1 - (lg_sl ([.ref aK])).length) Slot.unset).toArray = ls at hl ⊢
  have hl : lv_has ls 1 [(0, .ref aK)] := hl
  refine va_gets hx hb hz.2.2.2.2.1 hS hown (hts _ wS_573) (fun x h => h) dSl0 ?_
  refine lv_if_eq (tgt := 17) hx hb dSl3 (by decide) (fun h => absurd h (by decide)) (fun _ => ?_)
  refine lv_aload_n hx hb dSl6 rfl (lv_at hl 0 rfl) ?_
  refine vk_getf hx hb hz.2.1 hS hown (hts _ wS_cod) (fun x h => h) dSl7 ?_
  refine lv_if_ne (tgt := 17) hx hb dSl10 (by decide) (fun h => absurd rfl h) (fun _ => ?_)
  refine lv_iconst (v := 1) hx hb dSl13 (by decide) ?_
  refine lv_goto (tgt := 18) hx hb dSl14 (by decide) ?_
  exact W.zret hx hb hr (by decide) (fun t ht _ => ⟨rfl, ht⟩) (fun q hq => by cases hq) dSl18
theorem dLc0 : decode bL_chr 0 = .ok (.iload_n 1, 1) := by decide +kernel
theorem dLc1 : decode bL_chr 1 = .ok (.aload_n 0, 1) := by decide +kernel
theorem dLc2 : decode bL_chr 2 = .ok (.arraylength, 1) := by decide +kernel
theorem dLc3 : decode bL_chr 3 = .ok (.invokestatic 9, 3) := by decide +kernel
theorem dLc6 : decode bL_chr 6 = .ok (.aload_n 0, 1) := by decide +kernel
theorem dLc7 : decode bL_chr 7 = .ok (.iload_n 1, 1) := by decide +kernel
theorem dLc8 : decode bL_chr 8 = .ok (.baload, 1) := by decide +kernel
theorem dLc9 : decode bL_chr 9 = .ok (.sipush 255, 3) := by decide +kernel
theorem dLc12 : decode bL_chr 12 = .ok (.iand, 1) := by decide +kernel
theorem dLc13 : decode bL_chr 13 = .ok (.i2c, 1) := by decide +kernel
theorem dLc14 : decode bL_chr 14 = .ok (.ireturn, 1) := by decide +kernel
theorem fWc_ch : ∀ j : Nat, j < 120 → (((Int32.ofInt (fWc (j : Int)) &&& 255).toUInt32 % 65536).toInt32 = Int32.ofInt (fWc (j : Int))) ∧ narrow .char (.int (Int32.ofInt (fWc (j : Int)))) = .int (Int32.ofInt (fWc (j : Int))) := by decide +kernel
set_option maxRecDepth 100000 in
theorem c_Lchr (l : Launch) (b aK aV : Nat) (j : Nat) (hj : j < 120) : Met l yL_chr (.code yL_chr bL_chr 2 (some .char) :: sx_TB) (k2_rm 2 43) (fun a U => a = #[.ref aV, .int (Int32.ofInt (j : Int))] ∧ zS b aK aV U) (k2_QcV (.int (Int32.ofInt (fWc (j : Int))))) 0 0 (fun _ => False) := by
  refine Met.ofW (cc := bL_chr) (maxL := 2) (ret := some .char) (by decide) rfl ?_
  intro p e s m args below meth c s₁ B hml hv9
  obtain ⟨rfl, hz⟩ := hv9
  have hx := B.exec
  have hb := B.bytes
  have hr := B.returns
  have hlocks := B.notSynchronized
  have hts : ∀ w ∈ sx_TB, w.before _ s = true := fun w hw => atoms_spec (ws := .code yL_chr bL_chr 2 (some .char) :: sx_TB) B.pre w (List.mem_cons_of_mem _ hw)
  have hown : s.vm.findClass "java/lang/StringLatin1" = some m.cls := findClass_of_methodNamed B.named
  have hS : va_S (fun q => b ≤ q) s.heap s.heap [] := va_S.rf
  have hrj : sx_r32 (j : Int) := ⟨by omega, by omega⟩
  have hr120 : sx_r32 (120 : Int) := ⟨by omega, by omega⟩
  have hr0 : sx_r32 (0 : Int) := ⟨by omega, by omega⟩
  have hj0 : ¬ Int32.ofInt (j : Int) < 0 := fun h => by have := (sx_ilt hrj hr0).mp h; omega
  have hj1 : Int32.ofInt (j : Int) < Int32.ofInt 120 := (sx_ilt hrj hr120).mpr (by omega)
  have hl := lv_entry ([.ref aV, .int (Int32.ofInt (j : Int))]) (n := 2) (Nat.le_of_ble_eq_true rfl)
  rw [lg_entry_eq]
  generalize (lg_sl ([.ref aV, .int (Int32.ofInt (j : Int))]) ++ List.replicate (2 - (lg_sl ([.ref aV, .int (Int32.ofInt (j : Int))])).length) Slot.unset).toArray = ls at hl ⊢
  have hl : lv_has ls 2 [(0, .ref aV), (1, .int (Int32.ofInt (j : Int)))] := hl
  refine lv_iload_n hx hb dLc0 rfl (lv_at hl 1 rfl) ?_
  refine lv_aload_n hx hb dLc1 rfl (lv_at hl 0 rfl) ?_
  refine va_tlen hx hb hz.2.2.2.1 hS (v := Int32.ofInt 120) rfl dLc2 ?_
  refine W_callN (r := none) (W.runS (As := [.int (Int32.ofInt (j : Int)), .int (Int32.ofInt 120)]) (rest := []) (Ts := sx_TB) ⟨hx, hb, hml, hown, hts⟩ (c_Schk l b aK aV _ _ hj0 hj1) ⟨callB_of (ws' := sx_TB) 2 hts (gd_TB wS_580) rfl rfl rfl (hts _ wS_i15) (hts _ wS_578) ⟨by decide, by decide, by decide +kernel⟩ ⟨Nat.le_of_ble_eq_true rfl, Nat.le_of_ble_eq_true rfl⟩, hts _ wS_579⟩ ⟨fun a U g mk q => ⟨q.1, q.2.blind⟩, fun U hU hW => ⟨rfl, hz.mv hW.alike (fun q _ _ => by rw [hU])⟩⟩ rfl rfl hl.1 rfl (lv_room (Nat.le_of_ble_eq_true rfl)) dLc3 ⟨Nat.le_of_ble_eq_true rfl, Nat.le_of_ble_eq_true rfl⟩) (fun st v t h => ⟨by cases h.1; rfl, h.2⟩) ?_
  refine lv_aload_n hx hb dLc6 rfl (lv_at hl 0 rfl) ?_
  refine lv_iload_n hx hb dLc7 rfl (lv_at hl 1 rfl) ?_
  refine va_tb hx hb hz.2.2.2.1 hS (i := Int32.ofInt (j : Int)) (sx_in hrj (by omega) (by omega)) (v := .int (Int32.ofInt (fWc (j : Int)))) (by rw [sx_cl hrj (by omega)]; rfl) dLc8 ?_
  refine lv_sipush (v := 255) hx hb dLc9 (by decide) ?_
  refine lv_iand hx hb dLc12 ?_
  refine lv_i2c hx hb dLc13 (fWc_ch j hj).1 ?_
  exact W.zret hx hb hr (fWc_ch j hj).2 (fun t ht _ => ⟨rfl, ht⟩) (fun q hq => by cases hq) dLc14
theorem dCh0 : decode bS_chr 0 = .ok (.aload_n 0, 1) := by decide +kernel
theorem dCh1 : decode bS_chr 1 = .ok (.invokevirtual 492, 3) := by decide +kernel
theorem dCh4 : decode bS_chr 4 = .ok (.ifCond .eq 12, 3) := by decide +kernel
theorem dCh7 : decode bS_chr 7 = .ok (.aload_n 0, 1) := by decide +kernel
theorem dCh8 : decode bS_chr 8 = .ok (.getfield 9, 3) := by decide +kernel
theorem dCh11 : decode bS_chr 11 = .ok (.iload_n 1, 1) := by decide +kernel
theorem dCh12 : decode bS_chr 12 = .ok (.invokestatic 495, 3) := by decide +kernel
theorem dCh15 : decode bS_chr 15 = .ok (.ireturn, 1) := by decide +kernel
set_option maxRecDepth 100000 in
theorem c_Schr (l : Launch) (b aK aV : Nat) (j : Nat) (hj : j < 120) : Met l yS_chr (.code yS_chr bS_chr 2 (some .char) :: sx_TB) (k2_rm 3 64) (fun a U => a = #[.ref aK, .int (Int32.ofInt (j : Int))] ∧ zS b aK aV U) (k2_QcV (.int (Int32.ofInt (fWc (j : Int))))) 0 0 (fun _ => False) := by
  refine Met.ofW (cc := bS_chr) (maxL := 2) (ret := some .char) (by decide) rfl ?_
  intro p e s m args below meth c s₁ B hml hv9
  obtain ⟨rfl, hz⟩ := hv9
  have hx := B.exec
  have hb := B.bytes
  have hr := B.returns
  have hlocks := B.notSynchronized
  have hts : ∀ w ∈ sx_TB, w.before _ s = true := fun w hw => atoms_spec (ws := .code yS_chr bS_chr 2 (some .char) :: sx_TB) B.pre w (List.mem_cons_of_mem _ hw)
  have hown : s.vm.findClass "java/lang/String" = some m.cls := findClass_of_methodNamed B.named
  have hS : va_S (fun q => b ≤ q) s.heap s.heap [] := va_S.rf
  have hl := lv_entry ([.ref aK, .int (Int32.ofInt (j : Int))]) (n := 2) (Nat.le_of_ble_eq_true rfl)
  rw [lg_entry_eq]
  generalize (lg_sl ([.ref aK, .int (Int32.ofInt (j : Int))]) ++ List.replicate (2 - (lg_sl ([.ref aK, .int (Int32.ofInt (j : Int))])).length) Slot.unset).toArray = ls at hl ⊢
  have hl : lv_has ls 2 [(0, .ref aK), (1, .int (Int32.ofInt (j : Int)))] := hl
  obtain ⟨cell, hc1, hc2, hc3, hc4⟩ := hz.1
  refine lv_aload_n hx hb dCh0 rfl (lv_at hl 0 rfl) ?_
  refine W_callN (r := some (.int 1)) (W.runV (C := "java/lang/String") (b := aK) (As := []) (rest := []) (Ts := sx_TB) ⟨hx, hb, hml, hown, hts⟩ (c_Slat l b aK aV) ⟨callB_of (ws' := sx_TB) 0 hts (gd_TB wS_572) rfl rfl rfl (hts _ wS_i15) (hts _ wS_569) ⟨by decide, by decide, by decide +kernel⟩ ⟨Nat.le_of_ble_eq_true rfl, Nat.le_of_ble_eq_true rfl⟩, hts _ wS_570, hts _ wS_571⟩ ⟨fun a U g mk q => ⟨q.1, q.2.blind⟩, ⟨cell, hc1, hc2, hc3⟩, fun U hU hW => ⟨rfl, hz.mv hW.alike (fun q _ _ => by rw [hU])⟩⟩ rfl rfl hl.1 rfl (lv_room (Nat.le_of_ble_eq_true rfl)) dCh1 ⟨Nat.le_of_ble_eq_true rfl, Nat.le_of_ble_eq_true rfl⟩) (fun st v t h => ⟨by cases h.1; rfl, h.2⟩) ?_
  refine lv_if_eq (tgt := 16) hx hb dCh4 rfl (fun h => absurd h (by decide)) (fun _ => ?_)
  refine lv_aload_n hx hb dCh7 rfl (lv_at hl 0 rfl) ?_
  refine vk_getf hx hb hz.2.2.1 hS hown (hts _ wS_val) (fun x h => h) dCh8 ?_
  refine lv_iload_n hx hb dCh11 rfl (lv_at hl 1 rfl) ?_
  refine W_callN (r := some (.int (Int32.ofInt (fWc (j : Int))))) (W.runS (As := [.ref aV, .int (Int32.ofInt (j : Int))]) (rest := []) (Ts := sx_TB) ⟨hx, hb, hml, hown, hts⟩ (c_Lchr l b aK aV j hj) ⟨callB_of (ws' := sx_TB) 2 hts (gd_TB wS_577) rfl rfl rfl (hts _ wS_i16) (hts _ wS_575) ⟨by decide, by decide, by decide +kernel⟩ ⟨Nat.le_of_ble_eq_true rfl, Nat.le_of_ble_eq_true rfl⟩, hts _ wS_576⟩ ⟨fun a U g mk q => ⟨q.1, q.2.blind⟩, fun U hU hW => ⟨rfl, hz.mv hW.alike (fun q _ _ => by rw [hU])⟩⟩ rfl rfl hl.1 rfl (lv_room (Nat.le_of_ble_eq_true rfl)) dCh12 ⟨Nat.le_of_ble_eq_true rfl, Nat.le_of_ble_eq_true rfl⟩) (fun st v t h => ⟨by cases h.1; rfl, h.2⟩) ?_
  exact W.zret hx hb hr (fWc_ch j hj).2 (fun t ht _ => ⟨rfl, ht⟩) (fun q hq => by cases hq) dCh15
end SXW2
