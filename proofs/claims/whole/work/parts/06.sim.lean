/-! THE REAL MACHINE BESIDE THE ABSTRACT ONE: launch, class numbers, array classes, the first address of ours, the cells' addresses, what is known of the rest -/
abbrev sx_X : Type := Launch × va_G × (Nat → ClassId) × Nat × List Nat × (State → Prop)
def sx_tv (ad : List Nat) (v : sx_V) : Value := match v with
  | .inl x => .int (Int32.ofInt x)
  | .inr (.inl x) => .long (Int64.ofInt x)
  | .inr (.inr a) => if a < 0 then .null else .ref (ad.getD a.toNat 0)
def sx_rf (ad : List Nat) (a : Int) : Option Nat := if a < 0 then none else some (ad.getD a.toNat 0)
def sx_tys (X : sx_X) : List (ClassId × FieldType) := [(X.2.2.1 0, .int), (X.2.2.1 1, .int), (X.2.2.1 2, .long), (X.2.2.1 3, .byte), (X.2.2.1 4, .boolean), (X.2.2.1 5, .array .int)]
def sx_fs (ad : List Nat) (ci : Nat) (f : Int → Int) : List Value := (List.range (sx_nf ci)).map fun k => sx_tv ad (sx_mk (sx_tg (sx_ty ci k)) (f (k : Int)))
def sx_ce (X : sx_X) (kd : Nat × Nat) (f : Int → Int) : va_E := match kd.1 with
  | 0 => .inr (kd.2, sx_fs X.2.2.2.2.1 kd.2 f)
  | 2 => .inl (X.2.2.1 2, kd.2, .inr (.inl fun j => Int64.ofInt (f (j : Int))))
  | 5 => .inl (X.2.2.1 5, kd.2, .inr (.inr (.inr (.inr fun j => sx_rf X.2.2.2.2.1 (f (j : Int))))))
  | t => .inl (X.2.2.1 t, kd.2, .inl fun j => Int32.ofInt (f (j : Int)))
def sx_wd (X : sx_X) (sh : sx_H) (σ : sx_S) : va_W := (List.range sh.length).map fun a => (X.2.2.2.2.1.getD a 0, sx_ce X (sh.getD a (9, 0)) (σ (a : Int)))
def sx_okt (t : Nat) (x : Int) : Prop := match t with
  | 0 => sx_r32 x
  | 1 => sx_r64 x
  | 3 => x = 0 ∨ x = 1
  | 4 => -128 ≤ x ∧ x ≤ 127
  | _ => True
def sx_oke (kd : Nat × Nat) (f : Int → Int) : Prop := match kd.1 with
  | 0 => kd.2 < 13 ∧ ∀ k : Nat, k < sx_nf kd.2 → sx_okt (sx_tg (sx_ty kd.2 k)) (f (k : Int))
  | 1 => kd.2 < 2147483648 ∧ ∀ k : Int, sx_r32 (f k)
  | 2 => kd.2 < 2147483648 ∧ ∀ k : Int, sx_r64 (f k)
  | 3 => kd.2 < 2147483648 ∧ ∀ k : Int, -128 ≤ f k ∧ f k ≤ 127
  | 4 => kd.2 < 2147483648 ∧ ∀ k : Int, f k = 0 ∨ f k = 1
  | 5 => kd.2 < 2147483648
  | _ => False
def sx_wf (sh : sx_H) (σ : sx_S) : Prop := ∀ a : Nat, a < sh.length → sx_oke (sh.getD a (9, 0)) (σ (a : Int))
def sx_A (X : sx_X) : Nat → Prop := fun q => X.2.2.2.1 ≤ q
def sx_sim (X : sx_X) (sh : sx_H) (σ : sx_S) (H : Heap) : Prop := sh.length ≤ X.2.2.2.2.1.length ∧ sx_wf sh σ ∧ va_P X.2.1 vwCl (sx_wd X sh σ) H ∧ va_D (sx_A X) (sx_wd X sh σ)
def sx_okv (v : sx_V) : Prop := match v with
  | .inl x => sx_r32 x
  | .inr (.inl x) => sx_r64 x
  | .inr (.inr _) => True
def sx_okS (st : List sx_V) : Prop := ∀ v ∈ st, sx_okv v
def sx_okL (L : sx_L) : Prop := ∀ (i : Nat) (v : sx_V), L[i]? = some (some v) → sx_okv v
def sx_as (ad : List Nat) (L : sx_L) : List (Nat × Value) := (List.range L.length).filterMap fun i => match L[i]? with
  | some (some v) => some (i, sx_tv ad v)
  | _ => none
/-- what is known of the rest stays when the tables are warmed and nothing old changes -/
def sx_stb (X : sx_X) : Prop := ∀ s U : State, s.WarmedH U.vm → (∀ q : Nat, q < X.2.2.2.1 → U.heap[q]? = s.heap[q]?) → X.2.2.2.2.2 s → X.2.2.2.2.2 U
def sx_TB : List Cond := lw_tbl.filter goodWord
def sx_ws (mt : sx_Mt) : List Cond := .code mt.1 mt.2.1 mt.2.2.1 mt.2.2.2.1 :: sx_TB
def sx_rm (mt : sx_Mt) : Room := { frames := mt.2.2.2.2.1, cells := 0, slots := 0, locals := mt.2.2.2.2.2.1 }
def sx_Pc (X : sx_X) (vs : List sx_V) (sh : sx_H) (σ : sx_S) : Array Value → State → Prop := fun v U => v = (vs.map (sx_tv X.2.2.2.2.1)).toArray ∧ sx_sim X sh σ U.heap ∧ va_K X.2.1 vwCl (sx_tys X) U ∧ sx_okS vs ∧ X.2.2.2.2.2 U ∧ X.2.2.2.1 ≤ U.heap.size
def sx_Qc (X : sx_X) (sh : sx_H) (R : sx_R) : Array Value → State → Outcome → State → Prop := fun _ st oc t => (∃ (r : Option sx_V) (σ' : sx_S), oc = .returned (r.map (sx_tv X.2.2.2.2.1)) ∧ R r sh σ' ∧ sx_okS r.toList ∧ sx_sim X sh σ' t.heap) ∧ va_F (sx_A X) st t
/-- THE CONTRACT: method i at these values and this state comes back with R -/
def sx_Run (X : sx_X) : sx_C := fun i vs sh σ R => sx_stb X → Met X.1 (sx_M i).1 (sx_ws (sx_M i)) (sx_rm (sx_M i)) (sx_Pc X vs sh σ) (sx_Qc X sh R) 0 0 (sx_A X)
/-! plain facts -/
theorem sx_pI_el {st : List sx_V} {k : Int → List sx_V → Prop} (h : sx_pI st k) : ∃ x r, st = .inl x :: r ∧ k x r := by
  unfold sx_pI at h
  split at h
  · exact ⟨_, _, rfl, h⟩
  · exact h.elim
theorem sx_pJ_el {st : List sx_V} {k : Int → List sx_V → Prop} (h : sx_pJ st k) : ∃ x r, st = .inr (.inl x) :: r ∧ k x r := by
  unfold sx_pJ at h
  split at h
  · exact ⟨_, _, rfl, h⟩
  · exact h.elim
theorem sx_pA_el {st : List sx_V} {k : Int → List sx_V → Prop} (h : sx_pA st k) : ∃ x r, st = .inr (.inr x) :: r ∧ k x r := by
  unfold sx_pA at h
  split at h
  · exact ⟨_, _, rfl, h⟩
  · exact h.elim
theorem sx_lI_el {L : sx_L} {i : Nat} {k : Int → Prop} (h : sx_lI L i k) : ∃ x, L[i]? = some (some (.inl x)) ∧ k x := by
  unfold sx_lI at h
  split at h
  · exact ⟨_, by assumption, h⟩
  · exact h.elim
theorem sx_lJ_el {L : sx_L} {i : Nat} {k : Int → Prop} (h : sx_lJ L i k) : ∃ x, L[i]? = some (some (.inr (.inl x))) ∧ k x := by
  unfold sx_lJ at h
  split at h
  · exact ⟨_, by assumption, h⟩
  · exact h.elim
theorem sx_lA_el {L : sx_L} {i : Nat} {k : Int → Prop} (h : sx_lA L i k) : ∃ x, L[i]? = some (some (.inr (.inr x))) ∧ k x := by
  unfold sx_lA at h
  split at h
  · exact ⟨_, by assumption, h⟩
  · exact h.elim
theorem sx_as_mem {ad : List Nat} {L : sx_L} {q : Nat × Value} : q ∈ sx_as ad L ↔ ∃ v, L[q.1]? = some (some v) ∧ q.2 = sx_tv ad v := by
  unfold sx_as
  rw [List.mem_filterMap]
  constructor
  · rintro ⟨i, hi, h⟩
    split at h
    · rename_i v hv
      cases h
      exact ⟨v, hv, rfl⟩
    · cases h
  · rintro ⟨v, hv, he⟩
    refine ⟨q.1, List.mem_range.mpr (List.getElem?_eq_some_iff.mp hv).1, ?_⟩
    rw [hv]
    obtain ⟨q1, q2⟩ := q
    simp only at he
    subst he
    rfl
theorem sx_as_at {ad : List Nat} {L : sx_L} {ls : Array Slot} {nL i : Nat} {v : sx_V} (h : lv_has ls nL (sx_as ad L)) (hi : L[i]? = some (some v)) : ls[i]? = some (.val (sx_tv ad v)) :=
  h.2.2 (i, sx_tv ad v) (sx_as_mem.mpr ⟨v, hi, rfl⟩)
theorem sx_lv_mono {ls : Array Slot} {nL : Nat} {l l' : List (Nat × Value)} (h : lv_has ls nL l) (hs : ∀ q ∈ l', q ∈ l) : lv_has ls nL l' := ⟨h.1, h.2.1, fun q hq => h.2.2 q (hs q hq)⟩
theorem sx_kl_len (L : sx_L) (i : Nat) : (sx_kl L i).length = L.length := by
  unfold sx_kl
  split
  · rfl
  · split
    · exact List.length_set
    · rfl
theorem sx_kl_at {L : sx_L} {i j : Nat} {v : sx_V} (h : (sx_kl L i)[j]? = some (some v)) : L[j]? = some (some v) ∧ (j + 1 = i → ∀ x, v ≠ .inr (.inl x)) := by
  unfold sx_kl at h
  split at h
  · exact ⟨h, fun q => absurd q (by omega)⟩
  · rename_i n
    split at h
    · rename_i x hx
      by_cases e : n = j
      · subst e
        rw [List.getElem?_set] at h
        split at h
        · split at h <;> cases h
        · exact absurd rfl (by assumption)
      · rw [List.getElem?_set_ne e] at h
        exact ⟨h, fun q => absurd q (by omega)⟩
    · rename_i hx
      refine ⟨h, fun q x hv => ?_⟩
      have : n = j := by omega
      subst this
      exact hx x (by rw [← hv]; exact h)
theorem sx_cat1 {ad : List Nat} {v : sx_V} (h : ∀ x, v ≠ .inr (.inl x)) : (sx_tv ad v).category = 1 := by
  unfold sx_tv
  split
  · rfl
  · exact absurd rfl (h _)
  · split <;> rfl
theorem sx_as_set {ad : List Nat} {L : sx_L} {ls : Array Slot} {nL i : Nat} {v : sx_V} (h : lv_has ls nL ((i, sx_tv ad v) :: (sx_as ad L).filter (fun q => !(q.1 == i) && !(q.1 + 1 == i && q.2.category == 2)))) : lv_has ls nL (sx_as ad (sx_set L i v)) := by
  refine sx_lv_mono h (fun q hq => ?_)
  obtain ⟨u, hu, he⟩ := sx_as_mem.mp hq
  unfold sx_set at hu
  by_cases e : i = q.1
  · subst e
    rw [List.getElem?_set_self'] at hu
    cases hk : (sx_kl L q.1)[q.1]? with
    | none => rw [hk] at hu; cases hu
    | some z =>
      rw [hk] at hu
      cases hu
      obtain ⟨q1, q2⟩ := q
      simp only at he
      subst he
      exact List.mem_cons_self
  · rw [List.getElem?_set_ne e] at hu
    obtain ⟨h1, h2⟩ := sx_kl_at hu
    refine List.mem_cons_of_mem _ (List.mem_filter.mpr ⟨sx_as_mem.mpr ⟨u, h1, he⟩, ?_⟩)
    have e' : ¬ q.1 = i := fun z => e z.symm
    by_cases e2 : q.1 + 1 = i
    · rw [he, sx_cat1 (h2 e2)]
      simp [e']
    · simp [e', e2]
theorem sx_as_setJ {ad : List Nat} {L : sx_L} {ls : Array Slot} {nL i : Nat} {x : Int} (h : lv_has ls nL ((i, Value.long (Int64.ofInt x)) :: (sx_as ad L).filter (fun q => !(q.1 == i) && (!(q.1 == i + 1) && !(q.1 + 1 == i && q.2.category == 2))))) : lv_has ls nL (sx_as ad (sx_setJ L i x)) := by
  refine sx_lv_mono h (fun q hq => ?_)
  obtain ⟨u, hu, he⟩ := sx_as_mem.mp hq
  unfold sx_setJ at hu
  by_cases e3 : i + 1 = q.1
  · rw [← e3, List.getElem?_set_self'] at hu
    cases hk : ((sx_kl L i).set i (some (.inr (.inl x))))[i + 1]? with
    | none => rw [hk] at hu; cases hu
    | some z => rw [hk] at hu; cases hu
  · rw [List.getElem?_set_ne e3] at hu
    by_cases e : i = q.1
    · subst e
      rw [List.getElem?_set_self'] at hu
      cases hk : (sx_kl L q.1)[q.1]? with
      | none => rw [hk] at hu; cases hu
      | some z =>
        rw [hk] at hu
        cases hu
        obtain ⟨q1, q2⟩ := q
        simp only at he
        subst he
        exact List.mem_cons_self
    · rw [List.getElem?_set_ne e] at hu
      obtain ⟨h1, h2⟩ := sx_kl_at hu
      refine List.mem_cons_of_mem _ (List.mem_filter.mpr ⟨sx_as_mem.mpr ⟨u, h1, he⟩, ?_⟩)
      have e' : ¬ q.1 = i := fun z => e z.symm
      have e3' : ¬ q.1 = i + 1 := fun z => e3 z.symm
      by_cases e2 : q.1 + 1 = i
      · rw [he, sx_cat1 (h2 e2)]
        simp [e', e3']
      · simp [e', e2, e3']
theorem sx_set_len (L : sx_L) (i : Nat) (v : sx_V) : (sx_set L i v).length = L.length := by unfold sx_set; rw [List.length_set, sx_kl_len]
theorem sx_setJ_len (L : sx_L) (i : Nat) (x : Int) : (sx_setJ L i x).length = L.length := by unfold sx_setJ; rw [List.length_set, List.length_set, sx_kl_len]
theorem sx_set_ok {L : sx_L} {i : Nat} {v : sx_V} (h : sx_okL L) (hv : sx_okv v) : sx_okL (sx_set L i v) := by
  intro j u hu
  unfold sx_set at hu
  by_cases e : i = j
  · subst e
    rw [List.getElem?_set_self'] at hu
    cases hk : (sx_kl L i)[i]? with
    | none => rw [hk] at hu; cases hu
    | some z => rw [hk] at hu; cases hu; exact hv
  · rw [List.getElem?_set_ne e] at hu
    exact h j u (sx_kl_at hu).1
theorem sx_setJ_ok {L : sx_L} {i : Nat} {x : Int} (h : sx_okL L) (hv : sx_r64 x) : sx_okL (sx_setJ L i x) := by
  intro j u hu
  unfold sx_setJ at hu
  by_cases e3 : i + 1 = j
  · subst e3
    rw [List.getElem?_set_self'] at hu
    cases hk : ((sx_kl L i).set i (some (.inr (.inl x))))[i + 1]? with
    | none => rw [hk] at hu; cases hu
    | some z => rw [hk] at hu; cases hu
  · rw [List.getElem?_set_ne e3] at hu
    by_cases e : i = j
    · subst e
      rw [List.getElem?_set_self'] at hu
      cases hk : (sx_kl L i)[i]? with
      | none => rw [hk] at hu; cases hu
      | some z => rw [hk] at hu; cases hu; exact hv
    · rw [List.getElem?_set_ne e] at hu
      exact h j u (sx_kl_at hu).1
theorem sx_oki (x : Int32) : sx_r32 x.toInt := ⟨by have := x.le_toInt; omega, by have := x.toInt_lt; omega⟩
theorem sx_okj (x : Int64) : sx_r64 x.toInt := ⟨by have := x.le_toInt; omega, by have := x.toInt_lt; omega⟩
theorem sx_ti {x : Int} (h : sx_r32 x) : (Int32.ofInt x).toInt = x := Int32.toInt_ofInt_of_le (by have := h.1; omega) (by have := h.2; omega)
theorem sx_tj {x : Int} (h : sx_r64 x) : (Int64.ofInt x).toInt = x := Int64.toInt_ofInt_of_le (by have := h.1; omega) (by have := h.2; omega)
theorem sx_in {i : Int} {n : Nat} (h : sx_r32 i) (h0 : 0 ≤ i) (h1 : i < (n : Int)) : vp_in (Int32.ofInt i) n := vp_in_iff.mpr (by rw [sx_ti h]; exact ⟨h0, h1⟩)
theorem sx_cl {i : Int} (h : sx_r32 i) (h0 : 0 ≤ i) : (Int32.ofInt i).toNatClampNeg = i.toNat := Int32.toNatClampNeg_ofInt_of_le (by have := h.1; omega) (by have := h.2; omega)
theorem sx_ilt {x y : Int} (hx : sx_r32 x) (hy : sx_r32 y) : Int32.ofInt x < Int32.ofInt y ↔ x < y := by rw [Int32.lt_iff_toInt_lt, sx_ti hx, sx_ti hy]
theorem sx_ile {x y : Int} (hx : sx_r32 x) (hy : sx_r32 y) : Int32.ofInt x ≤ Int32.ofInt y ↔ x ≤ y := by rw [Int32.le_iff_toInt_le, sx_ti hx, sx_ti hy]
theorem sx_ieq {x y : Int} (hx : sx_r32 x) (hy : sx_r32 y) : Int32.ofInt x = Int32.ofInt y ↔ x = y := by rw [← Int32.toInt_inj, sx_ti hx, sx_ti hy]
theorem sx_jlt {x y : Int} (hx : sx_r64 x) (hy : sx_r64 y) : Int64.ofInt x < Int64.ofInt y ↔ x < y := by rw [Int64.lt_iff_toInt_lt, sx_tj hx, sx_tj hy]
theorem sx_jeq {x y : Int} (hx : sx_r64 x) (hy : sx_r64 y) : Int64.ofInt x = Int64.ofInt y ↔ x = y := by rw [← Int64.toInt_inj, sx_tj hx, sx_tj hy]
theorem sx_lkn {sh : sx_H} {a : Int} {t n : Nat} (h : sx_lk sh a = (t, n)) (ht : t < 9) : 0 ≤ a ∧ a.toNat < sh.length ∧ sh.getD a.toNat (9, 0) = (t, n) := by
  unfold sx_lk at h
  split at h
  · cases h; omega
  · rename_i h0
    refine ⟨by omega, ?_, ?_⟩
    · cases hg : sh[a.toNat]? with
      | none => rw [hg] at h; cases h; omega
      | some q => exact (List.getElem?_eq_some_iff.mp hg).1
    · rw [List.getD_eq_getElem?_getD]; exact h
theorem sx_wd_at {X : sx_X} {sh : sx_H} {σ : sx_S} {a : Nat} (h : a < sh.length) : (sx_wd X sh σ)[a]? = some (X.2.2.2.2.1.getD a 0, sx_ce X (sh.getD a (9, 0)) (σ (a : Int))) := by
  unfold sx_wd
  rw [List.getElem?_map, List.getElem?_range h]
  rfl
theorem sx_wd_len (X : sx_X) (sh : sx_H) (σ : sx_S) : (sx_wd X sh σ).length = sh.length := by simp [sx_wd]
theorem sx_wd_set {X : sx_X} {sh : sx_H} {σ σ' : sx_S} {a : Nat} {e : va_E} (h : a < sh.length) (he : e = sx_ce X (sh.getD a (9, 0)) (σ' (a : Int))) (ho : ∀ b : Int, b ≠ (a : Int) → σ' b = σ b) : (sx_wd X sh σ).set a (X.2.2.2.2.1.getD a 0, e) = sx_wd X sh σ' := by
  apply List.ext_getElem?
  intro j
  by_cases ej : a = j
  · subst ej
    rw [List.getElem?_set_self (by rw [sx_wd_len]; exact h), sx_wd_at h, he]
  · rw [List.getElem?_set_ne ej]
    by_cases hj : j < sh.length
    · rw [sx_wd_at hj, sx_wd_at hj, ho (j : Int) (by omega)]
    · rw [List.getElem?_eq_none (by rw [sx_wd_len]; omega), List.getElem?_eq_none (by rw [sx_wd_len]; omega)]
