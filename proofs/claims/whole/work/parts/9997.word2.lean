/-! WORDTYPE: the search of a word -/
section SXW4
theorem sx_ruleX {X : sx_X} {own i : Nat} {cd : List (Nat × List sx_I)} (hi : i < sx_Ms.length) (hcls : (sx_M i).1.cls = sx_rn own) (hcode : sx_okM own (sx_M i) cd = true) {vs : List sx_V} {sh : sx_H} {σ : sx_S} {R' : sx_R} (hlen : (sx_args vs).length ≤ (sx_M i).2.2.1) (cuts : List Nat) (fuel : Nat) (K : Nat → Nat → sx_K)
    (h0 : sx_go (sx_Run X) (sx_cd cd) cuts (fun t L st sh σ => ∃ n, K n t L st sh σ) R' fuel 0 (sx_ent vs (sx_M i).2.2.1) [] sh σ)
    (hK : ∀ n t L st σ, K n t L st sh σ → sx_go (sx_Run X) (sx_cd cd) cuts (fun t L st sh σ => ∃ n', n' < n ∧ K n' t L st sh σ) R' fuel t L st sh σ ∨ (∀ (p : Program) (e : Env) (s : State) (m : MethodId) (args : Array Value) (below : List Frame) (meth : Method) (c : Code) (R : Room) (Qf : State → Prop), sx_Fx p s m args meth c R 0 0 X own (sx_M i) → (∀ t' L' st' σ', (∃ n', n' < n ∧ K n' t' L' st' sh σ') → sx_AT p e R s m args below meth c 0 0 Qf X (sx_M i).2.2.1 t' L' st' sh σ') → sx_AT p e R s m args below meth c 0 0 Qf X (sx_M i).2.2.1 t L st sh σ)) : sx_Run X i vs sh σ R' := by
  intro hst
  obtain ⟨w1, w2, w3, w4, w5, w6, w7⟩ := sx_mwords hi
  refine Met.ofW (cc := (sx_M i).2.1) (maxL := (sx_M i).2.2.1) (ret := (sx_M i).2.2.2.1) w6 rfl ?_
  intro p e s m args below meth c s₁ B hml hv
  obtain ⟨rfl, hsim, hK9, hvs, hKx, hbs⟩ := hv
  have hts : ∀ w ∈ sx_ws (sx_M i), w.before _ s = true := atoms_spec (ws := sx_ws (sx_M i)) B.pre
  have hown : s.vm.findClass (sx_M i).1.cls = some m.cls := findClass_of_methodNamed B.named
  have hin : meth.name = (sx_M i).1.name := (name_of_methodNamed B.named B.method).1
  have hF : sx_Fx p s m (vs.map (sx_tv X.2.2.2.2.1)).toArray meth c (headSpec (sx_ws (sx_M i)) (sx_rm (sx_M i))).room 0 0 X own (sx_M i) := ⟨B.exec, B.bytes, hml, by rw [← hcls]; exact hown, fun w hw => hts w (List.mem_cons_of_mem _ hw), hK9, hKx, hst, hbs, Nat.le_refl _, Nat.le_refl _, ⟨Nat.zero_le _, Nat.zero_le _⟩, hin⟩
  have hcd := sx_cd_ok hcode
  have main : ∀ (n t : Nat) (L : sx_L) (st : List sx_V) (σ : sx_S), K n t L st sh σ → sx_AT p e (headSpec (sx_ws (sx_M i)) (sx_rm (sx_M i))).room s m (vs.map (sx_tv X.2.2.2.2.1)).toArray below meth c 0 0 (MQ below (sx_Qc X sh R') (vs.map (sx_tv X.2.2.2.2.1)).toArray s 0 0 (sx_A X)) X (sx_M i).2.2.1 t L st sh σ := by
    intro n
    induction n using Nat.strongRecOn with
    | _ n ih =>
      intro t L st σ hk
      rcases hK n t L st σ hk with h9 | h9
      · exact sx_go_ok hF B.returns B.notSynchronized hcd (fun t L st σ ⟨n', h1, h2⟩ => ih n' h1 t L st σ h2) fuel t L st σ h9
      · exact h9 p e s m _ below meth c _ _ hF (fun t L st σ ⟨n', h1, h2⟩ => ih n' h1 t L st σ h2)
  have hentry := sx_go_ok hF B.returns B.notSynchronized hcd (fun t L st σ ⟨n, h⟩ => main n t L st σ h) fuel 0 _ _ σ h0
  have hl := lv_entry (vs.map (sx_tv X.2.2.2.2.1)) (n := (sx_M i).2.2.1) (by rw [sx_args_len]; exact hlen)
  rw [lg_entry_eq]
  refine hentry _ s.heap [] ⟨hsim, ?_, ?_, ?_, va_S.rf⟩ (fun v hv => by cases hv)
  · refine sx_lv_mono hl (fun q hq => ?_)
    obtain ⟨v, hv, he⟩ := sx_as_mem.mp hq
    have : (sx_args vs)[q.1]? = some (some v) := by
      unfold sx_ent at hv
      by_cases hlt : q.1 < (sx_args vs).length
      · rw [List.getElem?_append_left hlt] at hv; exact hv
      · rw [List.getElem?_append_right (by omega), List.getElem?_replicate] at hv
        split at hv <;> cases hv
    have h5 := sx_ent_args vs X.2.2.2.2.1 q.1 v this
    rw [← he] at h5
    exact h5
  · unfold sx_ent
    simp
    omega
  · intro j v hv
    have h6 : (sx_args vs)[j]? = some (some v) := by
      unfold sx_ent at hv
      by_cases hlt : j < (sx_args vs).length
      · rw [List.getElem?_append_left hlt] at hv; exact hv
      · rw [List.getElem?_append_right (by omega), List.getElem?_replicate] at hv
        split at hv <;> cases hv
    have h7 : ∀ (us : List sx_V) (j : Nat), (sx_args us)[j]? = some (some v) → v ∈ us := by
      intro us
      induction us with
      | nil => intro j h; simp [sx_args] at h
      | cons u us ih =>
        intro j h
        rcases u with x | x | x
        · cases j with
          | zero => cases h; exact List.mem_cons_self
          | succ j => exact List.mem_cons_of_mem _ (ih j h)
        · match j, h with
          | 0, h => cases h; exact List.mem_cons_self
          | 1, h => cases h
          | j + 2, h => exact List.mem_cons_of_mem _ (ih j h)
        · cases j with
          | zero => cases h; exact List.mem_cons_self
          | succ j => exact List.mem_cons_of_mem _ (ih j h)
    exact hvs v (h7 vs j h6)

def kW_0 : List sx_I := [(1, .iconst 0, []), (1, .istore_n 1, []), (0, .nop, [2])]
def kW_2 : List sx_I := [(1, .iload_n 1, []), (2, .bipush 20, []), (3, .if_icmp .ge 86, [91]), (1, .iconst 1, []), (1, .istore_n 2, []), (1, .iconst 0, []), (1, .istore_n 3, []), (0, .nop, [12])]
def kW_12 : List sx_I := [(1, .iload_n 3, []), (2, .bipush 6, []), (3, .if_icmp .ge 64, [79]), (1, .iload_n 2, []), (3, .ifCond .eq 60, [79]), (1, .aload_n 0, []), (3, .getfield 51, [2, 6, 0]), (2, .bipush 25, []), (1, .iconst 5, []), (1, .iload_n 3, []), (1, .imul, []), (1, .isub, []), (1, .ishr, []), (2, .bipush 31, []), (1, .iand, []), (2, .istore 4, []), (0, .nop, [38])]
def kW_49 : List sx_I := [(2, .iload 4, []), (3, .ifCond .ne 8, [59]), (2, .bipush 32, []), (3, .goto 8, [64])]
def kW_59 : List sx_I := [(2, .bipush 96, []), (2, .iload 4, []), (1, .iadd, []), (0, .nop, [64])]
def kW_64 : List sx_I := [(3, .if_icmp .ne 7, [71]), (1, .iconst 1, []), (3, .goto 4, [72])]
def kW_71 : List sx_I := [(1, .iconst 0, []), (0, .nop, [72])]
def kW_72 : List sx_I := [(1, .istore_n 2, []), (3, .iinc 3 1, []), (3, .goto (-64), [12])]
def kW_79 : List sx_I := [(1, .iload_n 2, []), (3, .ifCond .eq 5, [85]), (1, .iload_n 1, []), (1, .ireturn, [0])]
def kW_85 : List sx_I := [(3, .iinc 1 1, []), (3, .goto (-86), [2])]
def kW_91 : List sx_I := [(2, .bipush 20, []), (1, .ireturn, [0])]
def kW : List (Nat × List sx_I) := [(0, kW_0), (2, kW_2), (12, kW_12), (49, kW_49), (59, kW_59), (64, kW_64), (71, kW_71), (72, kW_72), (79, kW_79), (85, kW_85), (91, kW_91)]
set_option maxRecDepth 20000 in
theorem kW_ok : sx_okM 2 (sx_M 20) kW = true := by decide +kernel
theorem dW38 : decode cX2_wordType 38 = .ok (.ldc 58, 2) := by decide +kernel
theorem dW40 : decode cX2_wordType 40 = .ok (.iload_n 1, 1) := by decide +kernel
theorem dW41 : decode cX2_wordType 41 = .ok (.bipush 6, 2) := by decide +kernel
theorem dW43 : decode cX2_wordType 43 = .ok (.imul, 1) := by decide +kernel
theorem dW44 : decode cX2_wordType 44 = .ok (.iload_n 3, 1) := by decide +kernel
theorem dW45 : decode cX2_wordType 45 = .ok (.iadd, 1) := by decide +kernel
theorem dW46 : decode cX2_wordType 46 = .ok (.invokevirtual 60, 3) := by decide +kernel
def txW : String := "field tree  ice   farm  walkercast  seed  law   fade  score deep  weightgait  far   age   snow  own   or    and   not   "
def zW (X : sx_X) (aK aV : Nat) : Prop := ∀ U : State, X.2.2.2.2.2 U → zS X.2.2.2.1 aK aV U ∧ vk_R "SnowScore$Lexer" 58 txW aK U
set_option maxRecDepth 100000 in
/-- a letter of the words, looked up -/
theorem wt_chr {X : sx_X} {aK aV : Nat} (hz : zW X aK aV) {c k : Int} {w0 w2 w4 : Option sx_V} {sh : sx_H} {σ : sx_S} (hc : 0 ≤ c ∧ c < 20) (hk : 0 ≤ k ∧ k < 6) (p : Program) (e : Env) (s : State) (m : MethodId) (args : Array Value) (below : List Frame) (meth : Method) (cc : Code) (R : Room) (Qf : State → Prop) (hF : sx_Fx p s m args meth cc R 0 0 X 2 (sx_M 20)) (hn : sx_AT p e R s m args below meth cc 0 0 Qf X (sx_M 20).2.2.1 49 [w0, some (.inl c), w2, some (.inl k), w4] [.inl (fWc (6 * c + k))] sh σ) : sx_AT p e R s m args below meth cc 0 0 Qf X (sx_M 20).2.2.1 38 [w0, some (.inl c), w2, some (.inl k), w4] [] sh σ := by
  obtain ⟨hx, hb, hml, hown, hts, hK, hXs, hst, hbs, hfr, hlo, hcs, hnm⟩ := hF
  intro ls H locs hG hO
  obtain ⟨hzs, hvr⟩ := hz s hXs
  have hl := hG.2.1
  have hS := hG.2.2.2.2
  obtain ⟨j, hj⟩ : ∃ j : Nat, (j : Int) = 6 * c + k := ⟨(6 * c + k).toNat, by omega⟩
  have hj1 : j < 120 := by omega
  have e6 : Int32.ofInt c * 6 + Int32.ofInt k = Int32.ofInt (j : Int) := by
    rw [hj, Int32.ofInt_add, Int32.ofInt_mul, Int32.mul_comm]
    rfl
  have hb : cc.code = cX2_wordType := hb
  have hown : s.vm.findClass "SnowScore$Lexer" = some m.cls := hown
  refine va_ldcS hx hb hown hvr dW38 ?_
  refine lv_iload_n hx hb dW40 rfl (sx_as_at hl (i := 1) (v := .inl c) rfl) ?_
  refine lv_bipush (v := 6) hx hb dW41 (by decide) ?_
  refine lv_imul hx hb dW43 ?_
  refine lv_iload_n hx hb dW44 rfl (sx_as_at hl (i := 3) (v := .inl k) rfl) ?_
  refine lv_iadd hx hb dW45 ?_
  rw [e6]
  obtain ⟨cell, hc1, hc2, hc3, hc4⟩ := hzs.1.kept hS.2.1
  refine W_callN (r := some (.int (Int32.ofInt (fWc (j : Int))))) (W.runV (C := "java/lang/String") (b := aK) (As := [.int (Int32.ofInt (j : Int))]) (rest := []) (Ts := sx_TB) ⟨hx, hb, hml, hown, hts⟩ (c_Schr X.1 X.2.2.2.1 aK aV j hj1) ⟨callB_of (ws' := sx_TB) 1 hts (gd_TB wS_568) rfl rfl rfl (hts _ wS_i15) (hts _ wS_565) ⟨by decide, by decide, by decide +kernel⟩ ⟨Nat.le_trans (Nat.le_of_ble_eq_true rfl) hfr, Nat.le_trans (Nat.le_of_ble_eq_true rfl) hlo⟩, hts _ wS_566, hts _ wS_567⟩ ⟨fun a U g mk q => ⟨q.1, q.2.blind⟩, ⟨cell, hc1, hc2, hc3⟩, fun U hU hW => ⟨rfl, hzs.mv hW.alike (fun q h1 h2 => by rw [hU]; exact hS.2.1 q h1 h2)⟩⟩ rfl rfl hl.1 rfl (lv_room (Nat.le_of_ble_eq_true rfl)) dW46 ⟨hcs.1, hcs.2⟩) (fun st v t h => ⟨by cases h.1; rfl, h.2⟩) ?_
  have h9 := hn ls H locs hG (fun v hv => by
    rw [List.mem_singleton.mp hv]
    show sx_r32 (fWc (6 * c + k))
    rw [← hj]
    exact (show ∀ j : Nat, j < 120 → sx_r32 (fWc (j : Int)) by decide +kernel) j hj1)
  rw [← hj] at h9
  exact h9
end SXW4
