/-! CONSTRUCTORS: a machine that makes cells. Cells are made in the order of shM, so a state is: how many there are (k), and what was written (T) -/
abbrev gx_T : Type := List (Nat × Int × Int × Int)
def gx_dv (kd : Nat × Nat) (i : Int) : Int := match kd.1 with
  | 0 => if sx_tg (sx_ty kd.2 i.toNat) = 2 then -1 else 0
  | 5 => -1
  | _ => 0
def gx_0 : sx_S := fun a i => gx_dv (shM.getD a.toNat (9, 0)) i
def gx_s : gx_T → sx_S
  | [] => gx_0
  | q :: T => match q.1 with
    | 0 => sx_up (gx_s T) q.2.1 q.2.2.1 q.2.2.2
    | n + 1 => sx_fil (gx_s T) q.2.1 (n : Int) q.2.2.2
def gx_sz (kd : Nat × Nat) : Nat := if kd.1 = 0 then sx_nf kd.2 else kd.2
def gx_z (k : Nat) : Nat := ((shM.take k).map gx_sz).sum
theorem shM_len : shM.length = 172 := by decide +kernel
theorem gx_s_un {k : Int} : ∀ {T : gx_T}, T.all (fun q => decide (q.2.1 ≠ k)) = true → gx_s T k = gx_0 k
  | [], _ => rfl
  | q :: T, h => by
    simp only [List.all_cons, Bool.and_eq_true, decide_eq_true_eq] at h
    have ih := gx_s_un (T := T) h.2
    obtain ⟨n, a, i, v⟩ := q
    have hne : ¬ k = a := fun z => h.1 z.symm
    rw [← ih]
    cases n with
    | zero => funext j; exact up_a hne
    | succ n => funext j; exact fil_a hne
theorem gx_z_s {k : Nat} {kd : Nat × Nat} (h : shM[k]? = some kd) : gx_z (k + 1) = gx_z k + gx_sz kd := by
  unfold gx_z
  rw [List.take_succ, h, List.map_append, List.sum_append]
  simp
theorem gx_z_le1 (k : Nat) : gx_z k ≤ gx_z (k + 1) := by
  unfold gx_z
  rw [List.take_succ, List.map_append, List.sum_append]
  exact Nat.le_add_right _ _
theorem gx_z_le {k k' : Nat} (h : k ≤ k') : gx_z k ≤ gx_z k' := by
  induction k' with
  | zero => rw [Nat.le_zero.mp h]; exact Nat.le_refl _
  | succ n ih =>
    by_cases e : k = n + 1
    · rw [e]; exact Nat.le_refl _
    · exact Nat.le_trans (ih (by omega)) (gx_z_le1 n)
theorem gx_len {k : Nat} (h : k ≤ 172) : (shM.take k).length = k := by rw [List.length_take, shM_len]; omega
theorem gx_get {k a : Nat} (h : a < k) : (shM.take k).getD a (9, 0) = shM.getD a (9, 0) := by
  rw [List.getD_eq_getElem?_getD, List.getD_eq_getElem?_getD, List.getElem?_take_of_lt h]
theorem gx_lt {k : Nat} {kd : Nat × Nat} (h : shM[k]? = some kd) : k < 172 := by
  have := (List.getElem?_eq_some_iff.mp h).1
  rw [shM_len] at this
  exact this
theorem gx_getD {k : Nat} {kd : Nat × Nat} (h : shM[k]? = some kd) : shM.getD k (9, 0) = kd := by rw [List.getD_eq_getElem?_getD, h]; rfl
/-- the addresses: in the order of the making -/
def gx_X (X : sx_X) : Prop := 172 ≤ X.2.2.2.2.1.length ∧ ∀ a : Nat, a < 172 → X.2.2.2.2.1.getD a 0 = X.2.2.2.1 + a
theorem gx_wd_s {X : sx_X} {σ : sx_S} {k : Nat} {kd : Nat × Nat} (h : shM[k]? = some kd) : sx_wd X (shM.take (k + 1)) σ = sx_wd X (shM.take k) σ ++ [(X.2.2.2.2.1.getD k 0, sx_ce X kd (σ (k : Int)))] := by
  have hk := gx_lt h
  apply List.ext_getElem?
  intro j
  have l1 := gx_len (k := k) (by omega)
  have l2 := gx_len (k := k + 1) (by omega)
  by_cases hj : j < k
  · rw [List.getElem?_append_left (by rw [sx_wd_len, l1]; exact hj), sx_wd_at (by rw [l2]; omega), sx_wd_at (by rw [l1]; exact hj), gx_get (by omega), gx_get hj]
  · by_cases e : j = k
    · subst e
      rw [List.getElem?_append_right (by rw [sx_wd_len, l1]; omega), sx_wd_at (by rw [l2]; omega), gx_get (by omega), gx_getD h, sx_wd_len, l1, Nat.sub_self]
      rfl
    · rw [List.getElem?_eq_none (by rw [sx_wd_len, l2]; omega), List.getElem?_eq_none (by rw [List.length_append, sx_wd_len, l1]; simp; omega)]
theorem gx_size {X : sx_X} (hX : gx_X X) {k k0 : Nat} (hk : k ≤ 172) {σ : sx_S} {H H0 : Heap} (hsim : sx_sim X (shM.take k) σ H) (hs : H0.size = X.2.2.2.1 + k0) (hS : H0.size ≤ H.size) (hk0 : k0 ≤ k) (hu : H.size ≤ H0.size + (k - k0)) : H.size = X.2.2.2.1 + k := by
  rcases Nat.eq_zero_or_pos k with rfl | hp
  · omega
  · have h1 := (hsim.2.2.1 (k - 1) _ (sx_wd_at (by rw [gx_len hk]; omega))).lt
    have h2 := hX.2 (k - 1) (by omega)
    simp only at h1
    omega
/-- a walk knows how large its heap can be -/
theorem W_size {p : Program} {l : Launch} {e : Env} {R : Room} {s : State} {m : MethodId} {args : Array Value} {below : List Frame} {meth : Method} {c : Code} {H : Heap} {locs : List Loc} {cells slots : Nat} {Q : State → Prop} {g : JFrame}
    (h : H.size ≤ s.heap.size + cells → W p l e R s m args below meth c H locs cells slots Q g) : W p l e R s m args below meth c H locs cells slots Q g := by
  intro T hT X
  exact h (by rw [← hT]; exact X.heapSize) T hT X
/-- a state grown by one cell -/
theorem gx_sim_s {X : sx_X} (hX : gx_X X) {σ : sx_S} {k : Nat} {kd : Nat × Nat} (h : shM[k]? = some kd) {H H1 : Heap} (hsim : sx_sim X (shM.take k) σ H) (hz : H.size = X.2.2.2.1 + k) (o1 : ∀ q, q < H.size → H1[q]? = H[q]?) (hok : sx_oke kd (σ (k : Int))) (hnew : va_at X.2.1 vwCl (X.2.2.2.1 + k, sx_ce X kd (σ (k : Int))) H1) : sx_sim X (shM.take (k + 1)) σ H1 := by
  have hk := gx_lt h
  obtain ⟨-, hwf, hP, hD⟩ := hsim
  have l1 := gx_len (k := k) (by omega)
  have l2 := gx_len (k := k + 1) (by omega)
  have ea := hX.2 k hk
  refine ⟨by rw [l2]; have := hX.1; omega, fun a ha => ?_, ?_, ?_⟩
  · rw [l2] at ha
    by_cases e : a = k
    · subst e
      rw [gx_get (by omega), gx_getD h]
      exact hok
    · have := hwf a (by rw [l1]; omega)
      rw [gx_get (by omega)] at this ⊢
      exact this
  · rw [gx_wd_s h, ea]
    refine (hP.kept (fun j x hx => o1 x.1 ((hP j x hx).lt))).app (fun j x hx => ?_)
    have hz1 : j < 1 := (List.getElem?_eq_some_iff.mp hx).1
    rw [show j = 0 by omega] at hx
    cases hx
    exact hnew
  · rw [gx_wd_s h, ea]
    exact hD.push hP hz.symm (show X.2.2.2.1 ≤ X.2.2.2.1 + k by omega)
theorem gx_tv_new {X : sx_X} (hX : gx_X X) {k : Nat} (hk : k < 172) : sx_tv X.2.2.2.2.1 (.inr (.inr (k : Int))) = .ref (X.2.2.2.1 + k) := by
  rw [sx_tv_ref (by omega), show ((k : Int)).toNat = k by omega, hX.2 k hk]
theorem gx_oke0 {ci : Nat} (hci : ci < 13) : sx_oke (0, ci) (gx_dv (0, ci)) := by
  refine ⟨hci, fun j hj => ?_⟩
  have hk := sx_ty_k ci hci j hj
  show sx_okt (sx_tg (sx_ty ci j)) (if sx_tg (sx_ty ci ((j : Int)).toNat) = 2 then -1 else 0)
  rw [show ((j : Int)).toNat = j by omega]
  generalize sx_ty ci j = ty at hk
  cases ty with
  | int => exact ⟨by decide, by decide⟩
  | long => exact ⟨by decide, by decide⟩
  | boolean => exact Or.inl rfl
  | object C => trivial
  | array C => trivial
  | _ => simp [sx_tyk] at hk
theorem gx_dflt {ad : List Nat} {ci : Nat} (hci : ci < 13) {j : Nat} (hj : j < sx_nf ci) : defaultValue (sx_ty ci j) = vp_V (sx_fs ad ci (gx_dv (0, ci))) j := by
  have hk := sx_ty_k ci hci j hj
  have e1 : vp_V (sx_fs ad ci (gx_dv (0, ci))) j = sx_tv ad (sx_mk (sx_tg (sx_ty ci j)) (if sx_tg (sx_ty ci j) = 2 then -1 else 0)) := by
    unfold vp_V sx_fs
    rw [List.getD_eq_getElem?_getD, List.getElem?_map, List.getElem?_range hj]
    rfl
  rw [e1]
  generalize sx_ty ci j = ty at hk
  cases ty with
  | int => rfl
  | long => rfl
  | boolean => rfl
  | object C => rfl
  | array C => rfl
  | _ => simp [sx_tyk] at hk
section GXS
variable {p : Program} {e : Env} {R : Room} {s : State} {m : MethodId} {args : Array Value} {below : List Frame} {meth : Method} {c : Code} {nc ns : Nat} {Q : State → Prop} {X : sx_X} {own : Nat} {mt : sx_Mt}
variable {L : sx_L} {st : List sx_V} {T T1 : gx_T} {pc k k0 k1 : Nat} {σ : sx_S}
/-- a new object -/
theorem gx_o_new {nL idx ci : Nat} (hF : sx_Fx p s m args meth c R (k - k0) (gx_z k - gx_z k0) X own mt) (hX : gx_X X) (hs : s.heap.size = X.2.2.2.1 + k0) (hk0 : k0 ≤ k) (hd : decode mt.2.1 pc = .ok (.new idx, 3)) (hw1 : Cond.classLink (sx_rn own) idx (sx_rn ci) ∈ sx_TB) (hw2 : Cond.instantiable (sx_rn ci) (sx_nf ci) ∈ sx_TB) (hw3 : Cond.initialized (sx_rn ci) ∈ sx_TB) (hci : ci < 13) (hsh : shM[k]? = some (0, ci)) (hT : σ (k : Int) = gx_0 (k : Int)) (hR : k + 1 - k0 ≤ R.cells ∧ gx_z (k + 1) - gx_z k0 ≤ R.slots)
    (h : sx_AT p e R s m args below meth c (k + 1 - k0) (gx_z (k + 1) - gx_z k0) Q X nL (pc + 3) L (.inr (.inr (k : Int)) :: st) (shM.take (k + 1)) σ) : sx_AT p e R s m args below meth c (k - k0) (gx_z k - gx_z k0) Q X nL pc L st (shM.take k) σ := by
  have hk := gx_lt hsh
  obtain ⟨hx, hb, hml, hown, hts, hK, -, -, -, -, -, -, -⟩ := hF
  intro ls H locs hG hO
  obtain ⟨hsim, hlv, hLl, hLo, hS⟩ := hG
  refine W_size (fun hu => ?_)
  have hz := gx_size hX (by omega) hsim hs hS.1 hk0 hu
  have hKn := hK.1 ci _ (sx_cls ci hci)
  have es : gx_z k - gx_z k0 + sx_nf ci = gx_z (k + 1) - gx_z k0 := by
    have h1 := gx_z_s hsh
    have h2 := gx_z_le hk0
    have h3 : gx_sz (0, ci) = sx_nf ci := rfl
    omega
  have ec : k - k0 + 1 = k + 1 - k0 := by omega
  refine W.newcK hx hb hown (hts _ hw1) (hts _ hw2) (hts _ hw3) rfl hd (by rw [ec]; exact hR.1) (by rw [es]; exact hR.2) hKn.2.1 hz fun H1 kC hkC e1 z1 o1 => ?_
  rw [ec, es]
  have h9 := h ls H1 locs ⟨gx_sim_s hX hsh hsim hz (fun q hq => o1 q (by rw [← hz]; exact hq)) ?_ ?_, hlv, hLl, hLo, ⟨Nat.le_trans hS.1 (by omega), fun x h1 h2 => (o1 x (by have := hS.1; omega)).trans (hS.2.1 x h1 h2), hS.2.2⟩⟩ (sx_okS_cons trivial hO)
  · rw [List.map_cons, gx_tv_new hX hk] at h9
    exact h9
  · rw [hT]
    unfold gx_0
    rw [show ((k : Int)).toNat = k by omega, gx_getD hsh]
    exact gx_oke0 hci
  · rw [hT]
    unfold gx_0
    rw [show ((k : Int)).toNat = k by omega, gx_getD hsh]
    exact ⟨_, sx_cls ci hci, (u_born (sx_ty ci) hts (sx_lays ci hci) hKn hkC e1 (sx_ty_ok ci hci)).to (fun j hj => gx_dflt hci hj)⟩
theorem gx_b32 : sx_r32 0 := ⟨by decide, by decide⟩
theorem gx_b64 : sx_r64 0 := ⟨by decide, by decide⟩
theorem gx_b8 : -128 ≤ (0 : Int) ∧ (0 : Int) ≤ 127 := ⟨by decide, by decide⟩
def gx_at (t : Nat) : ArrayType := match t with
  | 1 => .int
  | 2 => .long
  | 3 => .byte
  | _ => .boolean
/-- a new array of numbers -/
theorem gx_o_newa {nL t : Nat} {n : Int} (hF : sx_Fx p s m args meth c R (k - k0) (gx_z k - gx_z k0) X own mt) (hX : gx_X X) (hs : s.heap.size = X.2.2.2.1 + k0) (hk0 : k0 ≤ k) (hd : decode mt.2.1 pc = .ok (.newarray (gx_at t), 2)) (ht : 1 ≤ t ∧ t ≤ 4) (hw : Cond.arrayClass (newarray.typeOf (gx_at t)) ∈ sx_TB) (hn : 0 ≤ n ∧ n ≤ 100000) (hsh : shM[k]? = some (t, n.toNat)) (hT : σ (k : Int) = gx_0 (k : Int)) (hR : k + 1 - k0 ≤ R.cells ∧ gx_z (k + 1) - gx_z k0 ≤ R.slots)
    (h : sx_AT p e R s m args below meth c (k + 1 - k0) (gx_z (k + 1) - gx_z k0) Q X nL (pc + 2) L (.inr (.inr (k : Int)) :: st) (shM.take (k + 1)) σ) : sx_AT p e R s m args below meth c (k - k0) (gx_z k - gx_z k0) Q X nL pc L (.inl n :: st) (shM.take k) σ := by
  have hk := gx_lt hsh
  obtain ⟨hx, hb, hml, hown, hts, hK, -, -, -, -, -, -, -⟩ := hF
  intro ls H locs hG hO
  obtain ⟨hsim, hlv, hLl, hLo, hS⟩ := hG
  refine W_size (fun hu => ?_)
  have hz := gx_size hX (by omega) hsim hs hS.1 hk0 hu
  have hr : sx_r32 n := ⟨by omega, by omega⟩
  have es : gx_z k - gx_z k0 + n.toNat = gx_z (k + 1) - gx_z k0 := by
    have h1 := gx_z_s hsh
    have h2 := gx_z_le hk0
    have h3 : gx_sz (t, n.toNat) = n.toNat := if_neg (show ¬ t = 0 by omega)
    omega
  have ec : k - k0 + 1 = k + 1 - k0 := by omega
  have hcl := sx_cl hr hn.1
  have hb8 : componentBytes (newarray.typeOf (gx_at t)) ≤ 8 := by
    match t, ht with
    | 1, _ => decide
    | 2, _ => decide
    | 3, _ => decide
    | 4, _ => decide
  show W p X.1 e R s m args below meth c H locs _ _ Q (F0 m pc ls (.int (Int32.ofInt n) :: st.map (sx_tv X.2.2.2.2.1)))
  refine va_newaK hx hb (hts _ hw) rfl hd rfl (fun q => ?_) hcl ?_ (by rw [ec]; exact hR.1) (by rw [es]; exact hR.2) hz fun H1 cA e1 z1 o1 hAr hNm => ?_
  · have := (sx_ilt hr (show sx_r32 0 from ⟨by omega, by omega⟩)).mp q
    omega
  · have : n.toNat * componentBytes (newarray.typeOf (gx_at t)) ≤ n.toNat * 8 := Nat.mul_le_mul_left _ hb8
    omega
  rw [ec, es]
  have eT : σ (k : Int) = fun _ => 0 := by
    rw [hT]
    funext j
    unfold gx_0 gx_dv
    rw [show ((k : Int)).toNat = k by omega, gx_getD hsh]
    match t, ht with
    | 1, _ => rfl
    | 2, _ => rfl
    | 3, _ => rfl
    | 4, _ => rfl
  have h9 := h ls H1 locs ⟨gx_sim_s hX hsh hsim hz (fun q hq => o1 q (by rw [← hz]; exact hq)) ?_ ?_, hlv, hLl, hLo, ⟨Nat.le_trans hS.1 (by omega), fun x h1 h2 => (o1 x (by have := hS.1; omega)).trans (hS.2.1 x h1 h2), hS.2.2⟩⟩ (sx_okS_cons trivial (sx_okS_tl hO))
  · rw [List.map_cons, gx_tv_new hX hk] at h9
    exact h9
  · rw [eT]
    match t, ht with
    | 1, _ => exact ⟨by show n.toNat < 2147483648; omega, fun _ => gx_b32⟩
    | 2, _ => exact ⟨by show n.toNat < 2147483648; omega, fun _ => gx_b64⟩
    | 3, _ => exact ⟨by show n.toNat < 2147483648; omega, fun _ => gx_b8⟩
    | 4, _ => exact ⟨by show n.toNat < 2147483648; omega, fun _ => Or.inl rfl⟩
  · rw [eT]
    match t, ht with
    | 1, _ =>
      have h5 : s.vm.findClass ("[" ++ (FieldType.int).toString) = some (X.2.2.1 1) := (hK.2 1 _ rfl).2
      have h6 : cA = X.2.2.1 1 := Option.some.inj (hNm.symm.trans h5)
      rw [h6] at e1
      exact e1
    | 2, _ =>
      have h5 : s.vm.findClass ("[" ++ (FieldType.long).toString) = some (X.2.2.1 2) := (hK.2 2 _ rfl).2
      have h6 : cA = X.2.2.1 2 := Option.some.inj (hNm.symm.trans h5)
      rw [h6] at e1
      exact e1
    | 3, _ =>
      have h5 : s.vm.findClass ("[" ++ (FieldType.byte).toString) = some (X.2.2.1 3) := (hK.2 3 _ rfl).2
      have h6 : cA = X.2.2.1 3 := Option.some.inj (hNm.symm.trans h5)
      rw [h6] at e1
      exact e1
    | 4, _ =>
      have h5 : s.vm.findClass ("[" ++ (FieldType.boolean).toString) = some (X.2.2.1 4) := (hK.2 4 _ rfl).2
      have h6 : cA = X.2.2.1 4 := Option.some.inj (hNm.symm.trans h5)
      rw [h6] at e1
      exact e1
end GXS
