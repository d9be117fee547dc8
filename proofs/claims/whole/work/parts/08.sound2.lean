/-! SOUNDNESS: fields and arrays -/
theorem sx_wf_one {sh : sx_H} {σ σ' : sx_S} {a : Int} (h : sx_wf sh σ) (ho : ∀ b : Int, b ≠ a → σ' b = σ b) (ha : a.toNat < sh.length → 0 ≤ a → sx_oke (sh.getD a.toNat (9, 0)) (σ' a)) : sx_wf sh σ' := by
  intro b hb
  by_cases eb : (b : Int) = a
  · have e2 : b = a.toNat := by omega
    rw [eb, e2]
    exact ha (by omega) (by omega)
  · rw [ho _ eb]
    exact h b hb
theorem sx_up_ne {σ : sx_S} {a i v b : Int} (h : b ≠ a) : sx_up σ a i v b = σ b := by
  funext j
  simp [sx_up, h]
theorem sx_cp_ne {σ : sx_S} {a i b j n d : Int} (h : d ≠ b) : sx_cp σ a i b j n d = σ d := by
  funext k
  simp [sx_cp, h]
/-- a cell's entry by its kind -/
theorem sx_ent_at {X : sx_X} {sh : sx_H} {σ : sx_S} {a : Int} {t n : Nat} (h : sx_lk sh a = (t, n)) (ht : t < 9) : (sx_wd X sh σ)[a.toNat]? = some (X.2.2.2.2.1.getD a.toNat 0, sx_ce X (t, n) (σ a)) ∧ a.toNat < sh.length ∧ ((a.toNat : Nat) : Int) = a ∧ 0 ≤ a ∧ sh.getD a.toNat (9, 0) = (t, n) := by
  obtain ⟨h0, hlt, hsh⟩ := sx_lkn h ht
  have hat := sx_wd_at (X := X) (σ := σ) hlt
  have ea : ((a.toNat : Nat) : Int) = a := Int.toNat_of_nonneg h0
  rw [hsh, ea] at hat
  exact ⟨hat, hlt, ea, h0, hsh⟩
theorem sx_tv_ref {ad : List Nat} {a : Int} (h : 0 ≤ a) : sx_tv ad (.inr (.inr a)) = .ref (ad.getD a.toNat 0) := if_neg (by omega)
theorem sx_sim_up {X : sx_X} {sh : sx_H} {σ : sx_S} {H1 : Heap} {a i v : Int} {t n : Nat} {e1 : va_E} (hs : sh.length ≤ X.2.2.2.2.1.length) (hwf : sx_wf sh σ) (h : sx_lk sh a = (t, n)) (ht : t < 9) (he : e1 = sx_ce X (t, n) (sx_up σ a i v a)) (hok : sx_oke (t, n) (sx_up σ a i v a))
    (hP : va_P X.2.1 vwCl ((sx_wd X sh σ).set a.toNat (X.2.2.2.2.1.getD a.toNat 0, e1)) H1) (hD : va_D (sx_A X) ((sx_wd X sh σ).set a.toNat (X.2.2.2.2.1.getD a.toNat 0, e1))) : sx_sim X sh (sx_up σ a i v) H1 := by
  obtain ⟨-, hlt, ea, h0, hsh⟩ := sx_ent_at (X := X) (σ := σ) h ht
  have ew := sx_wd_set (X := X) (σ := σ) (σ' := sx_up σ a i v) (e := e1) hlt (by rw [hsh, ea]; exact he) (fun b hb => sx_up_ne (by rw [ea] at hb; exact hb))
  rw [ew] at hP hD
  refine ⟨hs, sx_wf_one hwf (fun b hb => sx_up_ne hb) (fun _ _ => ?_), hP, hD⟩
  rw [hsh]
  exact hok
theorem sx_up_arr {f : Int → Int} {i v : Int} (g : Int → Int32) (h0 : 0 ≤ i) (x : Int32) (hv : x = g v) : (fun j : Nat => g (if (j : Int) = i then v else f (j : Int))) = upd (fun j : Nat => g (f (j : Int))) i.toNat x := by
  funext j
  unfold upd
  by_cases e : j = i.toNat
  · rw [if_pos e, if_pos (by omega), hv]
  · rw [if_neg e, if_neg (by omega)]
theorem sx_up_self (σ : sx_S) (a i v : Int) : sx_up σ a i v a = fun j => if j = i then v else σ a j := by
  funext j
  simp [sx_up]
theorem sx_nar {ty : FieldType} {x : Int} {ad : List Nat} (hk : sx_tyk ty = true) (hok : sx_okt (sx_tg ty) x) : narrow ty (sx_tv ad (sx_mk (sx_tg ty) x)) = sx_tv ad (sx_mk (sx_tg ty) x) ∧ fits ty (sx_tv ad (sx_mk (sx_tg ty) x)) = true := by
  cases ty with
  | int => exact ⟨rfl, rfl⟩
  | long => exact ⟨rfl, rfl⟩
  | boolean => rcases hok with rfl | rfl <;> exact ⟨rfl, rfl⟩
  | object C =>
    show narrow (.object C) (if x < 0 then Value.null else Value.ref (ad.getD x.toNat 0)) = (if x < 0 then Value.null else Value.ref (ad.getD x.toNat 0)) ∧ fits (.object C) (if x < 0 then Value.null else Value.ref (ad.getD x.toNat 0)) = true
    split <;> exact ⟨rfl, rfl⟩
  | array C =>
    show narrow (.array C) (if x < 0 then Value.null else Value.ref (ad.getD x.toNat 0)) = (if x < 0 then Value.null else Value.ref (ad.getD x.toNat 0)) ∧ fits (.array C) (if x < 0 then Value.null else Value.ref (ad.getD x.toNat 0)) = true
    split <;> exact ⟨rfl, rfl⟩
  | _ => simp [sx_tyk] at hk
theorem sx_rf_tv {ad : List Nat} {x : Int} : va_rf (sx_rf ad x) = sx_tv ad (.inr (.inr x)) := by
  show va_rf (if x < 0 then none else some (ad.getD x.toNat 0)) = if x < 0 then Value.null else Value.ref (ad.getD x.toNat 0)
  split <;> rfl
section SXT
variable {p : Program} {e : Env} {R : Room} {s : State} {m : MethodId} {args : Array Value} {below : List Frame} {meth : Method} {c : Code} {nc ns : Nat} {Q : State → Prop} {X : sx_X} {own : Nat} {mt : sx_Mt}
variable {L : sx_L} {st : List sx_V} {sh : sx_H} {σ : sx_S} {pc : Nat}
theorem sx_o_put {nL i ci f : Nat} {a x : Int} {v : sx_V} (hF : sx_Fx p s m args meth c R nc ns X own mt) (hd : decode mt.2.1 pc = .ok (.putfield i, 3)) (hl : sx_has sx_fl own i ci f = true) (hfin : (sx_cT ci f).2.2.2 = false ∨ (mt.1.name = "<init>" ∧ (sx_cT ci f).1 = sx_rn own)) (ha : sx_lk sh a = (0, ci))
    (hv : v = sx_mk (sx_tg (sx_ty ci f)) x) (hok : sx_okt (sx_tg (sx_ty ci f)) x)
    (h : sx_AT p e R s m args below meth c nc ns Q X nL (pc + 3) L st sh (sx_up σ a f x)) : sx_AT p e R s m args below meth c nc ns Q X nL pc L (v :: .inr (.inr a) :: st) sh σ := by
  obtain ⟨hx, hb, hml, hown, hts, hK, -, -, -, -, -, -, hmn⟩ := hF
  intro ls H locs hG hO
  obtain ⟨⟨hlen, hwf, hP, hD⟩, hlv, hLl, hLo, hS⟩ := hG
  obtain ⟨hlw, hfn, hci⟩ := sx_flink hl
  obtain ⟨hat, hlt, ea, h0, hsh⟩ := sx_ent_at (X := X) (σ := σ) ha (by omega)
  show W p X.1 e R s m args below meth c H locs nc ns Q (F0 m pc ls (sx_tv X.2.2.2.2.1 v :: sx_tv X.2.2.2.2.1 (.inr (.inr a)) :: st.map (sx_tv X.2.2.2.2.1)))
  rw [sx_tv_ref h0]
  have hk := sx_ty_k ci hci f hfn
  have hnar : narrow (sx_ty ci f) (sx_tv X.2.2.2.2.1 v) = sx_tv X.2.2.2.2.1 v ∧ fits (sx_ty ci f) (sx_tv X.2.2.2.2.1 v) = true := by
    rw [hv]
    exact sx_nar hk hok
  have hnl : f < (sx_fs X.2.2.2.2.1 ci (σ a)).length := by simp [sx_fs, hfn]
  have hset : (.inr (ci, (sx_fs X.2.2.2.2.1 ci (σ a)).set f (sx_tv X.2.2.2.2.1 v)) : va_E) = sx_ce X (0, ci) (sx_up σ a f x a) := by
    show (.inr (ci, _) : va_E) = .inr (ci, sx_fs X.2.2.2.2.1 ci (sx_up σ a f x a))
    congr 2
    apply List.ext_getElem?
    intro j
    by_cases ej : f = j
    · subst ej
      rw [List.getElem?_set_self hnl]
      unfold sx_fs
      rw [List.getElem?_map, List.getElem?_range hfn, hv]
      simp [sx_up]
    · rw [List.getElem?_set_ne ej]
      unfold sx_fs
      rw [List.getElem?_map, List.getElem?_map]
      by_cases hj : j < sx_nf ci
      · rw [List.getElem?_range hj]
        have : ¬ ((j : Int) = (f : Int)) := by omega
        simp [sx_up, this]
      · rw [List.getElem?_eq_none (by simp; omega)]
        rfl
  have hokn : sx_oke (0, ci) (sx_up σ a f x a) := by
    refine ⟨hci, fun k hk => ?_⟩
    have h1 := hwf _ hlt
    rw [hsh, ea] at h1
    by_cases e2 : k = f
    · subst e2
      simp only [sx_up, and_self, if_true]
      exact hok
    · have : ¬ ((k : Int) = (f : Int)) := by omega
      simp only [sx_up, this, and_false, if_false]
      exact h1.2 k hk
  rcases hfin with hfin | ⟨hin, hdecl⟩
  · refine va_put (D := X.2.1) (ci := ci) (C := sx_rn ci) (T := sx_cT ci) (N := sx_nf ci) (ty := sx_ty ci f) hx hb hts (sx_lays ci hci) (sx_ty ci) (sx_ty_ok ci hci) (sx_nm_ok ci hci) hown hK hP hD hS a.toNat hat (sx_cls ci hci) f hfn (hts _ hlw) (fun _ h => h) hfin (sx_ty_ok ci hci f hfn) hnar.1 hnar.2 hnl hd ?_
    intro H1 locs1 hP1 hD1 hS1
    exact h ls H1 locs1 ⟨sx_sim_up hlen hwf ha (by omega) hset hokn hP1 hD1, hlv, hLl, hLo, hS1⟩ (sx_okS_tl (sx_okS_tl hO))
  · by_cases hfin : (sx_cT ci f).2.2.2 = false
    · refine va_put (D := X.2.1) (ci := ci) (C := sx_rn ci) (T := sx_cT ci) (N := sx_nf ci) (ty := sx_ty ci f) hx hb hts (sx_lays ci hci) (sx_ty ci) (sx_ty_ok ci hci) (sx_nm_ok ci hci) hown hK hP hD hS a.toNat hat (sx_cls ci hci) f hfn (hts _ hlw) (fun _ h => h) hfin (sx_ty_ok ci hci f hfn) hnar.1 hnar.2 hnl hd ?_
      intro H1 locs1 hP1 hD1 hS1
      exact h ls H1 locs1 ⟨sx_sim_up hlen hwf ha (by omega) hset hokn hP1 hD1, hlv, hLl, hLo, hS1⟩ (sx_okS_tl (sx_okS_tl hO))
    · refine va_putF (D := X.2.1) (ci := ci) (C := sx_rn ci) (T := sx_cT ci) (N := sx_nf ci) (ty := sx_ty ci f) hx hb hts (sx_lays ci hci) (sx_ty ci) (sx_ty_ok ci hci) (sx_nm_ok ci hci) hown hK hP hD hS a.toNat hat (sx_cls ci hci) f hfn (hts _ hlw) (fun _ h => h) (by simpa using hfin) (hmn.trans hin) hdecl (sx_ty_ok ci hci f hfn) hnar.1 hnar.2 hnl hd ?_
      intro H1 locs1 hP1 hD1 hS1
      exact h ls H1 locs1 ⟨sx_sim_up hlen hwf ha (by omega) hset hokn hP1 hD1, hlv, hLl, hLo, hS1⟩ (sx_okS_tl (sx_okS_tl hO))
theorem sx_o_iald {nL n : Nat} {a i : Int} (hF : sx_Fx p s m args meth c R nc ns X own mt) (hd : decode mt.2.1 pc = .ok (.iaload, 1)) (ha : sx_lk sh a = (1, n)) (h0 : 0 ≤ i) (h1 : i < (n : Int))
    (h : sx_AT p e R s m args below meth c nc ns Q X nL (pc + 1) L (.inl (σ a i) :: st) sh σ) : sx_AT p e R s m args below meth c nc ns Q X nL pc L (.inl i :: .inr (.inr a) :: st) sh σ := by
  obtain ⟨hx, hb, hml, hown, hts, hK, -⟩ := hF
  intro ls H locs hG hO
  have hG' := hG
  obtain ⟨⟨hlen, hwf, hP, hD⟩, -⟩ := hG'
  obtain ⟨hat, hlt, ea, ha0, hsh⟩ := sx_ent_at (X := X) (σ := σ) ha (by omega)
  have hri : sx_r32 i := sx_okS_hd hO
  have hok := hwf _ hlt
  rw [hsh, ea] at hok
  show W p X.1 e R s m args below meth c H locs nc ns Q (F0 m pc ls (.int (Int32.ofInt i) :: sx_tv X.2.2.2.2.1 (.inr (.inr a)) :: st.map (sx_tv X.2.2.2.2.1)))
  rw [sx_tv_ref ha0]
  refine va_iald hx hb hK hP a.toNat 1 hat rfl (sx_in hri h0 h1) hd ?_
  have k := h ls H locs hG (sx_okS_cons (hok.2 i) (sx_okS_tl (sx_okS_tl hO)))
  rw [sx_cl hri h0, Int.toNat_of_nonneg h0]
  exact k
theorem sx_o_bald {nL n t : Nat} {a i : Int} (hF : sx_Fx p s m args meth c R nc ns X own mt) (hd : decode mt.2.1 pc = .ok (.baload, 1)) (ht : t = 3 ∨ t = 4) (ha : sx_lk sh a = (t, n)) (h0 : 0 ≤ i) (h1 : i < (n : Int))
    (h : sx_AT p e R s m args below meth c nc ns Q X nL (pc + 1) L (.inl (σ a i) :: st) sh σ) : sx_AT p e R s m args below meth c nc ns Q X nL pc L (.inl i :: .inr (.inr a) :: st) sh σ := by
  obtain ⟨hx, hb, hml, hown, hts, hK, -⟩ := hF
  intro ls H locs hG hO
  have hG' := hG
  obtain ⟨⟨hlen, hwf, hP, hD⟩, -⟩ := hG'
  have hri : sx_r32 i := sx_okS_hd hO
  obtain ⟨hat, hlt, ea, ha0, hsh⟩ := sx_ent_at (X := X) (σ := σ) ha (by omega)
  have hok := hwf _ hlt
  rw [hsh, ea] at hok
  show W p X.1 e R s m args below meth c H locs nc ns Q (F0 m pc ls (.int (Int32.ofInt i) :: sx_tv X.2.2.2.2.1 (.inr (.inr a)) :: st.map (sx_tv X.2.2.2.2.1)))
  rw [sx_tv_ref ha0]
  rcases ht with rfl | rfl
  · refine va_bald hx hb hK hP a.toNat 3 hat rfl (sx_in hri h0 h1) hd ?_
    have k := h ls H locs hG (sx_okS_cons (show sx_r32 _ by have := hok.2 i; exact ⟨by omega, by omega⟩) (sx_okS_tl (sx_okS_tl hO)))
    rw [sx_cl hri h0, Int.toNat_of_nonneg h0]
    exact k
  · refine va_zald hx hb hK hP a.toNat 4 hat rfl (sx_in hri h0 h1) hd ?_
    have k := h ls H locs hG (sx_okS_cons (show sx_r32 _ by have := hok.2 i; exact ⟨by omega, by omega⟩) (sx_okS_tl (sx_okS_tl hO)))
    rw [sx_cl hri h0, Int.toNat_of_nonneg h0]
    exact k
theorem sx_o_lald {nL n : Nat} {a i : Int} (hF : sx_Fx p s m args meth c R nc ns X own mt) (hd : decode mt.2.1 pc = .ok (.laload, 1)) (ha : sx_lk sh a = (2, n)) (h0 : 0 ≤ i) (h1 : i < (n : Int))
    (h : sx_AT p e R s m args below meth c nc ns Q X nL (pc + 1) L (.inr (.inl (σ a i)) :: st) sh σ) : sx_AT p e R s m args below meth c nc ns Q X nL pc L (.inl i :: .inr (.inr a) :: st) sh σ := by
  obtain ⟨hx, hb, hml, hown, hts, hK, -⟩ := hF
  intro ls H locs hG hO
  have hG' := hG
  obtain ⟨⟨hlen, hwf, hP, hD⟩, -⟩ := hG'
  have hri : sx_r32 i := sx_okS_hd hO
  obtain ⟨hat, hlt, ea, ha0, hsh⟩ := sx_ent_at (X := X) (σ := σ) ha (by omega)
  have hok := hwf _ hlt
  rw [hsh, ea] at hok
  show W p X.1 e R s m args below meth c H locs nc ns Q (F0 m pc ls (.int (Int32.ofInt i) :: sx_tv X.2.2.2.2.1 (.inr (.inr a)) :: st.map (sx_tv X.2.2.2.2.1)))
  rw [sx_tv_ref ha0]
  refine va_lald hx hb hK hP a.toNat 2 hat rfl (sx_in hri h0 h1) hd ?_
  have k := h ls H locs hG (sx_okS_cons (hok.2 i) (sx_okS_tl (sx_okS_tl hO)))
  rw [sx_cl hri h0, Int.toNat_of_nonneg h0]
  exact k
theorem sx_o_aald {nL n : Nat} {a i : Int} (hF : sx_Fx p s m args meth c R nc ns X own mt) (hd : decode mt.2.1 pc = .ok (.aaload, 1)) (ha : sx_lk sh a = (5, n)) (h0 : 0 ≤ i) (h1 : i < (n : Int))
    (h : sx_AT p e R s m args below meth c nc ns Q X nL (pc + 1) L (.inr (.inr (σ a i)) :: st) sh σ) : sx_AT p e R s m args below meth c nc ns Q X nL pc L (.inl i :: .inr (.inr a) :: st) sh σ := by
  obtain ⟨hx, hb, hml, hown, hts, hK, -⟩ := hF
  intro ls H locs hG hO
  have hG' := hG
  obtain ⟨⟨hlen, hwf, hP, hD⟩, -⟩ := hG'
  have hri : sx_r32 i := sx_okS_hd hO
  obtain ⟨hat, hlt, ea, ha0, hsh⟩ := sx_ent_at (X := X) (σ := σ) ha (by omega)
  show W p X.1 e R s m args below meth c H locs nc ns Q (F0 m pc ls (.int (Int32.ofInt i) :: sx_tv X.2.2.2.2.1 (.inr (.inr a)) :: st.map (sx_tv X.2.2.2.2.1)))
  rw [sx_tv_ref ha0]
  have hc := hP _ _ hat
  have hc2 : H[X.2.2.2.2.1.getD a.toNat 0]? = some (arrV (X.2.2.1 5) n (fun j => va_rf (sx_rf X.2.2.2.2.1 (σ a (j : Int))))) := hc
  have hin := sx_in (n := n) hri h0 h1
  refine W.aald (ty := .array .int) (v := sx_tv X.2.2.2.2.1 (.inr (.inr (σ a i)))) hx hb hc2 ((hK.2 5 _ rfl).1 n _) rfl (fun h => by cases h) ?_ ?_ rfl rfl hd ?_
  · have : (arrV (X.2.2.1 5) n (fun j => va_rf (sx_rf X.2.2.2.2.1 (σ a (j : Int))))).slots.size = n := by simp [arrV]
    rw [this]
    exact hin
  · rw [sx_cl hri h0]
    simp only [arrV]
    have hlt2 : i.toNat < n := by omega
    simp [hlt2]
    rw [Int.max_eq_left h0]
    exact sx_rf_tv
  · exact h ls H locs hG (sx_okS_cons trivial (sx_okS_tl (sx_okS_tl hO)))
end SXT
