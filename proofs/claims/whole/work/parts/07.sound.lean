/-! SOUNDNESS, instruction by instruction -/
def sx_G (X : sx_X) (s : State) (nL : Nat) (ls : Array Slot) (H : Heap) (locs : List Loc) (L : sx_L) (sh : sx_H) (σ : sx_S) : Prop := sx_sim X sh σ H ∧ lv_has ls nL (sx_as X.2.2.2.2.1 L) ∧ L.length = nL ∧ sx_okL L ∧ va_S (sx_A X) s.heap H locs
def sx_AT (p : Program) (e : Env) (R : Room) (s : State) (m : MethodId) (args : Array Value) (below : List Frame) (meth : Method) (c : Code) (nc ns : Nat) (Q : State → Prop) (X : sx_X) (nL : Nat) (pc : Nat) : sx_K := fun L st sh σ => ∀ (ls : Array Slot) (H : Heap) (locs : List Loc), sx_G X s nL ls H locs L sh σ → sx_okS st → W p X.1 e R s m args below meth c H locs nc ns Q (F0 m pc ls (st.map (sx_tv X.2.2.2.2.1)))
def sx_Fx (p : Program) (s : State) (m : MethodId) (args : Array Value) (meth : Method) (c : Code) (R : Room) (nc ns : Nat) (X : sx_X) (own : Nat) (mt : sx_Mt) : Prop :=
  p.tables.exec = Jvm.exec ∧ c.code = mt.2.1 ∧ c.maxLocals = mt.2.2.1 ∧ s.vm.findClass (sx_rn own) = some m.cls ∧ (∀ w ∈ sx_TB, w.before args s = true) ∧ va_K X.2.1 vwCl (sx_tys X) s ∧ X.2.2.2.2.2 s ∧ sx_stb X ∧ X.2.2.2.1 ≤ s.heap.size ∧ mt.2.2.2.2.1 ≤ R.frames ∧ mt.2.2.2.2.2.1 ≤ R.locals ∧ (nc ≤ R.cells ∧ ns ≤ R.slots) ∧ meth.name = mt.1.name
theorem sx_okS_tl {v : sx_V} {st : List sx_V} (h : sx_okS (v :: st)) : sx_okS st := fun u hu => h u (List.mem_cons_of_mem _ hu)
theorem sx_okS_hd {v : sx_V} {st : List sx_V} (h : sx_okS (v :: st)) : sx_okv v := h v List.mem_cons_self
theorem sx_okS_cons {v : sx_V} {st : List sx_V} (hv : sx_okv v) (h : sx_okS st) : sx_okS (v :: st) := fun u hu => (List.mem_cons.mp hu).elim (fun q => q ▸ hv) (h u)
theorem sx_words {w : Cond} {i : Nat} (h : lw_tbl[i]? = some w) (hg : goodWord w = true) : w ∈ sx_TB := List.mem_filter.mpr ⟨List.mem_of_getElem? h, hg⟩
theorem sx_fl_mem {q : Nat × Nat × Nat × Nat × Nat} (h : q ∈ sx_fl) : sx_flok q = true := by
  have key : ∀ q ∈ sx_fl, sx_flok q = true := by
    unfold sx_fl
    intro q h
    simp only [List.mem_append] at h
    rcases h with h | h | h | h | h
    · exact List.all_eq_true.mp sx_flok0 q h
    · exact List.all_eq_true.mp sx_flok1 q h
    · exact List.all_eq_true.mp sx_flok2 q h
    · exact List.all_eq_true.mp sx_flok3 q h
    · exact List.all_eq_true.mp sx_flok4 q h
  exact key q h
theorem sx_has_el {tbl : List (Nat × Nat × Nat × Nat × Nat)} {a b c d : Nat} (h : sx_has tbl a b c d = true) : ∃ e, (a, b, c, d, e) ∈ tbl := by
  unfold sx_has at h
  obtain ⟨q, hq, h⟩ := List.any_eq_true.mp h
  simp only [Bool.and_eq_true, beq_iff_eq] at h
  obtain ⟨h1, h2, h3, h4⟩ := h
  obtain ⟨q1, q2, q3, q4, q5⟩ := q
  simp only at h1 h2 h3 h4
  subst h1 h2 h3 h4
  exact ⟨q5, hq⟩
theorem sx_has4_el {tbl : List (Nat × Nat × Nat × Nat)} {a b c : Nat} (h : sx_has4 tbl a b c = true) : ∃ e, (a, b, c, e) ∈ tbl := by
  unfold sx_has4 at h
  obtain ⟨q, hq, h⟩ := List.any_eq_true.mp h
  simp only [Bool.and_eq_true, beq_iff_eq] at h
  obtain ⟨h1, h2, h3⟩ := h
  obtain ⟨q1, q2, q3, q4⟩ := q
  simp only at h1 h2 h3
  subst h1 h2 h3
  exact ⟨q4, hq⟩
/-- a field's link, by the tables -/
theorem sx_flink {own i ci f : Nat} (h : sx_has sx_fl own i ci f = true) : Cond.fieldLink (sx_rn own) i (sx_cT ci f).1 (sx_cT ci f).2.1 (sx_cT ci f).2.2.1 ∈ sx_TB ∧ f < sx_nf ci ∧ ci < 13 := by
  obtain ⟨e, he⟩ := sx_has_el h
  have h1 := sx_fl_mem he
  unfold sx_flok at h1
  simp only [Bool.and_eq_true, decide_eq_true_eq] at h1
  exact ⟨sx_words h1.1.1 rfl, h1.1.2, h1.2⟩
theorem sx_cls : ∀ ci, ci < 13 → vwCl[ci]? = some (sx_rn ci, sx_cT ci, sx_nf ci) := by
  intro ci h
  match ci, h with
  | 0, _ => rfl
  | 1, _ => rfl
  | 2, _ => rfl
  | 3, _ => rfl
  | 4, _ => rfl
  | 5, _ => rfl
  | 6, _ => rfl
  | 7, _ => rfl
  | 8, _ => rfl
  | 9, _ => rfl
  | 10, _ => rfl
  | 11, _ => rfl
  | 12, _ => rfl
  | n + 13, h => omega
theorem sx_lay_good {C : String} {T : u_T} {k : Nat} : goodWord (u_lay C T k) = true := by
  unfold u_lay
  split <;> rfl
theorem sx_lays : ∀ ci, ci < 13 → ∀ w ∈ u_ws (sx_rn ci) (sx_cT ci) (sx_nf ci), w ∈ sx_TB := by
  have up : ∀ {C : String} {T : u_T} {N : Nat}, (∀ w ∈ u_ws C T N, w ∈ lw_tbl) → ∀ w ∈ u_ws C T N, w ∈ sx_TB := by
    intro C T N h w hw
    refine List.mem_filter.mpr ⟨h w hw, ?_⟩
    obtain ⟨k, -, rfl⟩ := List.mem_map.mp hw
    exact sx_lay_good
  intro ci h
  match ci, h with
  | 0, _ => exact up sx_lay0
  | 1, _ => exact up sx_lay1
  | 2, _ => exact up sx_lay2
  | 3, _ => exact up sx_lay3
  | 4, _ => exact up sx_lay4
  | 5, _ => exact up sx_lay5
  | 6, _ => exact up sx_lay6
  | 7, _ => exact up sx_lay7
  | 8, _ => exact up sx_lay8
  | 9, _ => exact up sx_lay9
  | 10, _ => exact up sx_lay10
  | 11, _ => exact up sx_lay11
  | 12, _ => exact up sx_lay12
  | n + 13, h => omega
theorem sx_ty_ok : ∀ ci, ci < 13 → ∀ k, k < sx_nf ci → parseFieldDescriptor (sx_cT ci k).2.2.1 = some (sx_ty ci k) := by
  intro ci h
  match ci, h with
  | 0, _ => exact tyX0_ok
  | 1, _ => exact tyX1_ok
  | 2, _ => exact tyX2_ok
  | 3, _ => exact tyX3_ok
  | 4, _ => exact tyX4_ok
  | 5, _ => exact tyX5_ok
  | 6, _ => exact tyX6_ok
  | 7, _ => exact tyX7_ok
  | 8, _ => exact tyX8_ok
  | 9, _ => exact tyX9_ok
  | 10, _ => exact tyX10_ok
  | 11, _ => exact tyX11_ok
  | 12, _ => exact tyX12_ok
  | n + 13, h => omega
theorem sx_nm_ok : ∀ ci, ci < 13 → ∀ a, a < sx_nf ci → ∀ b, b < sx_nf ci → a ≠ b → (sx_cT ci a).2.1 ≠ (sx_cT ci b).2.1 := by
  intro ci h
  match ci, h with
  | 0, _ => exact nmX0
  | 1, _ => exact nmX1
  | 2, _ => exact nmX2
  | 3, _ => exact nmX3
  | 4, _ => exact nmX4
  | 5, _ => exact nmX5
  | 6, _ => exact nmX6
  | 7, _ => exact nmX7
  | 8, _ => exact nmX8
  | 9, _ => exact nmX9
  | 10, _ => exact nmX10
  | 11, _ => exact nmX11
  | 12, _ => exact nmX12
  | n + 13, h => omega
/-- no field of ours is of a type that has no tag of its own -/
def sx_tyk (t : FieldType) : Bool := match t with
  | .int => true
  | .long => true
  | .boolean => true
  | .object _ => true
  | .array _ => true
  | _ => false
theorem sx_ty_k : ∀ ci, ci < 13 → ∀ k, k < sx_nf ci → sx_tyk (sx_ty ci k) = true := by decide +kernel
section SXS
variable {p : Program} {e : Env} {R : Room} {s : State} {m : MethodId} {args : Array Value} {below : List Frame} {meth : Method} {c : Code} {nc ns : Nat} {Q : State → Prop} {X : sx_X} {own : Nat} {mt : sx_Mt}
variable {L : sx_L} {st : List sx_V} {sh : sx_H} {σ : sx_S} {pc : Nat}
theorem sx_o_get {nL i ci f : Nat} {a : Int} (hF : sx_Fx p s m args meth c R nc ns X own mt) (hd : decode mt.2.1 pc = .ok (.getfield i, 3)) (hl : sx_has sx_fl own i ci f = true) (ha : sx_lk sh a = (0, ci))
    (h : sx_AT p e R s m args below meth c nc ns Q X nL (pc + 3) L (sx_mk (sx_tg (sx_ty ci f)) (σ a f) :: st) sh σ) : sx_AT p e R s m args below meth c nc ns Q X nL pc L (.inr (.inr a) :: st) sh σ := by
  obtain ⟨hx, hb, hml, hown, hts, hK, -⟩ := hF
  intro ls H locs hG hO
  have hG' := hG
  obtain ⟨⟨hlen, hwf, hP, hD⟩, -⟩ := hG'
  obtain ⟨hlw, hfn, hci⟩ := sx_flink hl
  obtain ⟨h0, hlt, hsh⟩ := sx_lkn ha (by omega)
  have hat := sx_wd_at (X := X) (σ := σ) hlt
  rw [hsh] at hat
  have hty := hwf _ hlt
  rw [hsh] at hty
  have ea : ((a.toNat : Nat) : Int) = a := Int.toNat_of_nonneg h0
  rw [ea] at hat hty
  have hv : (sx_fs X.2.2.2.2.1 ci (σ a))[f]? = some (sx_tv X.2.2.2.2.1 (sx_mk (sx_tg (sx_ty ci f)) (σ a f))) := by
    unfold sx_fs
    rw [List.getElem?_map, List.getElem?_range hfn]
    rfl
  have e1 : sx_tv X.2.2.2.2.1 (.inr (.inr a)) = .ref (X.2.2.2.2.1.getD a.toNat 0) := if_neg (by omega)
  show W p X.1 e R s m args below meth c H locs nc ns Q (F0 m pc ls (sx_tv X.2.2.2.2.1 (.inr (.inr a)) :: st.map (sx_tv X.2.2.2.2.1)))
  rw [e1]
  refine va_get (D := X.2.1) (ci := ci) (C := sx_rn ci) (T := sx_cT ci) (N := sx_nf ci) hx hb hts (sx_lays ci hci) hown hK hP a.toNat hat (sx_cls ci hci) f hfn (hts _ hlw) (fun _ h => h) hv hd ?_
  refine h ls H locs hG (sx_okS_cons ?_ (sx_okS_tl hO))
  have h2 := hty.2 f hfn
  have h3 := sx_ty_k ci hci f hfn
  revert h2 h3
  cases sx_ty ci f <;> simp [sx_tg, sx_okt, sx_mk, sx_okv, sx_tyk, sx_r32] <;> omega
end SXS
