/-! STRING.CHARAT of the words' constant: the JDK's own methods, by contract -/
section SXW1
theorem tb_in {w : Cond} (h : w ∈ lw_tbl) (hg : goodWord w = true) : w ∈ sx_TB := List.mem_filter.mpr ⟨h, hg⟩
def yP_chk : MethodName := ⟨"jdk/internal/util/Preconditions", "checkIndex", "(IILjava/util/function/BiFunction;)I"⟩
def yS_chk : MethodName := ⟨"java/lang/String", "checkIndex", "(II)V"⟩
def yL_chr : MethodName := ⟨"java/lang/StringLatin1", "charAt", "([BI)C"⟩
def yS_lat : MethodName := ⟨"java/lang/String", "isLatin1", "()Z"⟩
def yS_chr : MethodName := ⟨"java/lang/String", "charAt", "(I)C"⟩
abbrev bP_chk : ByteArray := prog_31_method_11_code
abbrev bS_chk : ByteArray := prog_22_method_155_code
abbrev bL_chr : ByteArray := prog_23_method_2_code
abbrev bS_lat : ByteArray := prog_22_method_154_code
abbrev bS_chr : ByteArray := prog_22_method_56_code
theorem wS_565 : Cond.methodLink "SnowScore$Lexer" 60 yS_chr ∈ sx_TB := tb_in (lw_in3 (List.mem_of_getElem? (i := 85) rfl)) rfl
theorem wS_566 : Cond.instanceMethod yS_chr ∈ sx_TB := tb_in (lw_in3 (List.mem_of_getElem? (i := 86) rfl)) rfl
theorem wS_567 : Cond.selects "java/lang/String" yS_chr yS_chr ∈ sx_TB := tb_in (lw_in3 (List.mem_of_getElem? (i := 87) rfl)) rfl
theorem wS_568 : Cond.code yS_chr bS_chr 2 (some .char) ∈ sx_TB := tb_in (lw_in3 (List.mem_of_getElem? (i := 88) rfl)) rfl
theorem wS_569 : Cond.methodLink "java/lang/String" 492 yS_lat ∈ sx_TB := tb_in (lw_in3 (List.mem_of_getElem? (i := 89) rfl)) rfl
theorem wS_570 : Cond.instanceMethod yS_lat ∈ sx_TB := tb_in (lw_in3 (List.mem_of_getElem? (i := 90) rfl)) rfl
theorem wS_571 : Cond.selects "java/lang/String" yS_lat yS_lat ∈ sx_TB := tb_in (lw_in3 (List.mem_of_getElem? (i := 91) rfl)) rfl
theorem wS_572 : Cond.code yS_lat bS_lat 1 (some .boolean) ∈ sx_TB := tb_in (lw_in3 (List.mem_of_getElem? (i := 92) rfl)) rfl
theorem wS_573 : Cond.fieldLink "java/lang/String" 38 "java/lang/String" "COMPACT_STRINGS" "Z" ∈ sx_TB := tb_in (lw_in3 (List.mem_of_getElem? (i := 93) rfl)) rfl
theorem wS_575 : Cond.methodLink "java/lang/String" 495 yL_chr ∈ sx_TB := tb_in (lw_in3 (List.mem_of_getElem? (i := 95) rfl)) rfl
theorem wS_576 : Cond.static yL_chr ∈ sx_TB := tb_in (lw_in3 (List.mem_of_getElem? (i := 96) rfl)) rfl
theorem wS_577 : Cond.code yL_chr bL_chr 2 (some .char) ∈ sx_TB := tb_in (lw_in3 (List.mem_of_getElem? (i := 97) rfl)) rfl
theorem wS_578 : Cond.methodLink "java/lang/StringLatin1" 9 yS_chk ∈ sx_TB := tb_in (lw_in3 (List.mem_of_getElem? (i := 98) rfl)) rfl
theorem wS_579 : Cond.static yS_chk ∈ sx_TB := tb_in (lw_in3 (List.mem_of_getElem? (i := 99) rfl)) rfl
theorem wS_580 : Cond.code yS_chk bS_chk 2 none ∈ sx_TB := tb_in (lw_in3 (List.mem_of_getElem? (i := 100) rfl)) rfl
theorem wS_581 : Cond.fieldLink "java/lang/String" 1053 "jdk/internal/util/Preconditions" "SIOOBE_FORMATTER" "Ljava/util/function/BiFunction;" ∈ sx_TB := tb_in (lw_in3 (List.mem_of_getElem? (i := 101) rfl)) rfl
theorem wS_583 : Cond.methodLink "java/lang/String" 1059 yP_chk ∈ sx_TB := tb_in (lw_in3 (List.mem_of_getElem? (i := 103) rfl)) rfl
theorem wS_584 : Cond.static yP_chk ∈ sx_TB := tb_in (lw_in3 (List.mem_of_getElem? (i := 104) rfl)) rfl
theorem wS_585 : Cond.code yP_chk bP_chk 3 (some .int) ∈ sx_TB := tb_in (lw_in3 (List.mem_of_getElem? (i := 105) rfl)) rfl
theorem wS_cod : Cond.fieldLink "java/lang/String" 15 "java/lang/String" "coder" "B" ∈ sx_TB := tb_in (lw_in10 (List.mem_of_getElem? (i := 39) rfl)) rfl
theorem wS_val : Cond.fieldLink "java/lang/String" 9 "java/lang/String" "value" "[B" ∈ sx_TB := tb_in (lw_in10 (List.mem_of_getElem? (i := 40) rfl)) rfl
theorem wS_i15 : Cond.initialized "java/lang/String" ∈ sx_TB := tb_in (lw_in1 (List.mem_of_getElem? (i := 15) rfl)) rfl
theorem wS_i16 : Cond.initialized "java/lang/StringLatin1" ∈ sx_TB := tb_in (lw_in1 (List.mem_of_getElem? (i := 16) rfl)) rfl
theorem wS_i17 : Cond.initialized "jdk/internal/util/Preconditions" ∈ sx_TB := tb_in (lw_in1 (List.mem_of_getElem? (i := 17) rfl)) rfl
theorem gd_TB {w0 : Cond} (h : w0 ∈ sx_TB) : GoodIn sx_TB (w0 :: sx_TB) := fun w hw => (List.mem_cons.mp hw).elim (fun e => e ▸ ⟨h, sx_TBg h⟩) (fun h => ⟨h, sx_TBg h⟩)
theorem dPc0 : decode bP_chk 0 = .ok (.iload_n 0, 1) := by decide +kernel
theorem dPc1 : decode bP_chk 1 = .ok (.ifCond .lt 8, 3) := by decide +kernel
theorem dPc4 : decode bP_chk 4 = .ok (.iload_n 0, 1) := by decide +kernel
theorem dPc5 : decode bP_chk 5 = .ok (.iload_n 1, 1) := by decide +kernel
theorem dPc6 : decode bP_chk 6 = .ok (.if_icmp .lt 10, 3) := by decide +kernel
theorem dPc16 : decode bP_chk 16 = .ok (.iload_n 0, 1) := by decide +kernel
theorem dPc17 : decode bP_chk 17 = .ok (.ireturn, 1) := by decide +kernel
set_option maxRecDepth 100000 in
theorem c_Pchk (l : Launch) (i n : Int32) (v : Value) (hv : v = .null ∨ ∃ q, v = .ref q) (h0 : ¬ i < 0) (h1 : i < n) : Met l yP_chk (.code yP_chk bP_chk 3 (some .int) :: sx_TB) (k2_rm 0 0) (fun a _ => a = #[.int i, .int n, v]) (k2_QcV (.int i)) 0 0 (fun _ => False) := by
  refine Met.ofW (cc := bP_chk) (maxL := 3) (ret := some .int) (by decide) rfl ?_
  intro p e s m args below meth c s₁ B hml hv9
  subst hv9
  have hx := B.exec
  have hb := B.bytes
  have hr := B.returns
  have hlocks := B.notSynchronized
  have hl := lv_entry ([.int i, .int n, v]) (n := 3) (by rcases hv with rfl | ⟨q, rfl⟩ <;> exact Nat.le_of_ble_eq_true rfl)
  rw [lg_entry_eq]
  generalize (lg_sl ([.int i, .int n, v]) ++ List.replicate (3 - (lg_sl ([.int i, .int n, v])).length) Slot.unset).toArray = ls at hl ⊢
  have hl : lv_has ls 3 [(0, .int i), (1, .int n), (2, v)] := by rcases hv with rfl | ⟨q, rfl⟩ <;> exact hl
  refine lv_iload_n hx hb dPc0 rfl (lv_at hl 0 rfl) ?_
  refine lv_if_lt (tgt := 9) hx hb dPc1 (by decide) (fun h => absurd h h0) (fun _ => ?_)
  refine lv_iload_n hx hb dPc4 rfl (lv_at hl 0 rfl) ?_
  refine lv_iload_n hx hb dPc5 rfl (lv_at hl 1 rfl) ?_
  refine lv_icmp_lt (tgt := 16) hx hb dPc6 (by decide) (fun _ => ?_) (fun h => absurd h1 h)
  refine lv_iload_n hx hb dPc16 rfl (lv_at hl 0 rfl) ?_
  exact W.iret hx hb hr (fun t ht _ => ⟨rfl, ht⟩) (fun q hq => by cases hq) dPc17
end SXW1
