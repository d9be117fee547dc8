/-! SOUNDNESS: one instruction of any kind -/
theorem sx_wi (z : Int32) : Int32.ofInt z.toInt = z := Int32.ofInt_toInt z
theorem sx_wj (z : Int64) : Int64.ofInt z.toInt = z := Int64.ofInt_toInt z
theorem sx_i2l {x : Int} (h : sx_r32 x) : (Int32.ofInt x).toInt64 = Int64.ofInt x := by
  apply Int64.toInt_inj.mp
  rw [Int32.toInt_toInt64, sx_ti h, sx_tj ⟨by have := h.1; omega, by have := h.2; omega⟩]
theorem sx_l2i {x : Int} (h : sx_r32 x) : (Int64.ofInt x).toInt32 = Int32.ofInt x := by
  apply Int32.toInt_inj.mp
  rw [Int64.toInt_toInt32, sx_ti h, sx_tj ⟨by have := h.1; omega, by have := h.2; omega⟩]
  exact Int.bmod_eq_of_le (by have := h.1; omega) (by have := h.2; omega)
theorem sx_bip {n : Int} (h : -128 ≤ n ∧ n ≤ 127) : (Int8.ofInt n).toInt32 = Int32.ofInt n := by
  apply Int32.toInt_inj.mp
  rw [Int8.toInt_toInt32, sx_ti ⟨by omega, by omega⟩, Int8.toInt_ofInt_of_le (by omega) (by omega)]
theorem sx_sip {n : Int} (h : -32768 ≤ n ∧ n ≤ 32767) : (Int16.ofInt n).toInt32 = Int32.ofInt n := by
  apply Int32.toInt_inj.mp
  rw [Int16.toInt_toInt32, sx_ti ⟨by omega, by omega⟩, Int16.toInt_ofInt_of_le (by omega) (by omega)]
theorem sx_cn_el {own i mg sg : Nat} (h : sx_has sx_cn own i mg sg = true) : Cond.constant (sx_rn own) i (Int32.ofInt (sx_sg mg sg)) ∈ sx_TB ∧ sx_r32 (sx_sg mg sg) ∧ sg < 2 := by
  obtain ⟨e, he⟩ := sx_has_el h
  have h1 := List.all_eq_true.mp sx_cnok _ he
  simp only [Bool.and_eq_true, decide_eq_true_eq] at h1
  exact ⟨sx_words h1.1.1 rfl, h1.1.2, h1.2⟩
theorem sx_cj_el {own i mg sg : Nat} (h : sx_has sx_cj own i mg sg = true) : Cond.constantLong (sx_rn own) i (Int64.ofInt (sx_sg mg sg)) ∈ sx_TB ∧ sx_r64 (sx_sg mg sg) ∧ sg < 2 := by
  obtain ⟨e, he⟩ := sx_has_el h
  have h1 := List.all_eq_true.mp sx_cjok _ he
  simp only [Bool.and_eq_true, decide_eq_true_eq] at h1
  exact ⟨sx_words h1.1.1 rfl, h1.1.2, h1.2⟩
theorem sx_ixe {sh : sx_H} {t : Nat} {a i : Int} (h : sx_ix sh t a i) : ∃ n, sx_lk sh a = (t, n) ∧ 0 ≤ i ∧ i < (n : Int) := ⟨(sx_lk sh a).2, by rw [← h.1], h.2.1, h.2.2⟩
section SXD
variable {p : Program} {e : Env} {R : Room} {s : State} {m : MethodId} {args : Array Value} {below : List Frame} {meth : Method} {c : Code} {nc ns : Nat} {Q : State → Prop} {X : sx_X} {own : Nat} {mt : sx_Mt}
variable {L : sx_L} {st : List sx_V} {sh : sx_H} {σ : sx_S} {pc : Nat}
theorem sx_s_iconst {n : Int} (hF : sx_Fx p s m args meth c R nc ns X own mt) {len : Nat} {w : List Nat} (hd : decode mt.2.1 pc = .ok (.iconst n, len)) (hok : sx_ok1 own mt pc (len, .iconst n, w) = true) {k : sx_K} (h : sx_st (sx_Run X) (len, .iconst n, w) L st sh σ k) (hk : ∀ L st σ, k L st sh σ → sx_AT p e R s m args below meth c nc ns Q X mt.2.2.1 (pc + len) L st sh σ) : sx_AT p e R s m args below meth c nc ns Q X mt.2.2.1 pc L st sh σ := by
  have hF9 := hF
  obtain ⟨hx, hb, hml, hown, hts, hK, -⟩ := hF9
  simp only [sx_st] at h
  have hl : len = 1 ∧ sx_r32 n := by simpa [sx_ok1] using hok
  obtain ⟨rfl, hr⟩ := hl
  intro ls H locs hG hO
  exact lv_iconst hx hb hd rfl (hk _ _ _ h ls H locs hG (sx_okS_cons hr hO))
theorem sx_s_bipush {n : Int} (hF : sx_Fx p s m args meth c R nc ns X own mt) {len : Nat} {w : List Nat} (hd : decode mt.2.1 pc = .ok (.bipush n, len)) (hok : sx_ok1 own mt pc (len, .bipush n, w) = true) {k : sx_K} (h : sx_st (sx_Run X) (len, .bipush n, w) L st sh σ k) (hk : ∀ L st σ, k L st sh σ → sx_AT p e R s m args below meth c nc ns Q X mt.2.2.1 (pc + len) L st sh σ) : sx_AT p e R s m args below meth c nc ns Q X mt.2.2.1 pc L st sh σ := by
  have hF9 := hF
  obtain ⟨hx, hb, hml, hown, hts, hK, -⟩ := hF9
  simp only [sx_st] at h
  have hl : len = 2 ∧ (-128 ≤ n ∧ n ≤ 127) := by simpa [sx_ok1] using hok
  obtain ⟨rfl, hr⟩ := hl
  intro ls H locs hG hO
  exact lv_bipush hx hb hd (sx_bip hr) (hk _ _ _ h ls H locs hG (sx_okS_cons (show sx_r32 n from ⟨by omega, by omega⟩) hO))
theorem sx_s_sipush {n : Int} (hF : sx_Fx p s m args meth c R nc ns X own mt) {len : Nat} {w : List Nat} (hd : decode mt.2.1 pc = .ok (.sipush n, len)) (hok : sx_ok1 own mt pc (len, .sipush n, w) = true) {k : sx_K} (h : sx_st (sx_Run X) (len, .sipush n, w) L st sh σ k) (hk : ∀ L st σ, k L st sh σ → sx_AT p e R s m args below meth c nc ns Q X mt.2.2.1 (pc + len) L st sh σ) : sx_AT p e R s m args below meth c nc ns Q X mt.2.2.1 pc L st sh σ := by
  have hF9 := hF
  obtain ⟨hx, hb, hml, hown, hts, hK, -⟩ := hF9
  simp only [sx_st] at h
  have hl : len = 3 ∧ (-32768 ≤ n ∧ n ≤ 32767) := by simpa [sx_ok1] using hok
  obtain ⟨rfl, hr⟩ := hl
  intro ls H locs hG hO
  exact lv_sipush hx hb hd (sx_sip hr) (hk _ _ _ h ls H locs hG (sx_okS_cons (show sx_r32 n from ⟨by omega, by omega⟩) hO))
theorem sx_s_lconst {n : Fin 2} (hF : sx_Fx p s m args meth c R nc ns X own mt) {len : Nat} {w : List Nat} (hd : decode mt.2.1 pc = .ok (.lconst n, len)) (hok : sx_ok1 own mt pc (len, .lconst n, w) = true) {k : sx_K} (h : sx_st (sx_Run X) (len, .lconst n, w) L st sh σ k) (hk : ∀ L st σ, k L st sh σ → sx_AT p e R s m args below meth c nc ns Q X mt.2.2.1 (pc + len) L st sh σ) : sx_AT p e R s m args below meth c nc ns Q X mt.2.2.1 pc L st sh σ := by
  have hF9 := hF
  obtain ⟨hx, hb, hml, hown, hts, hK, -⟩ := hF9
  simp only [sx_st] at h
  have hl : len = 1 := by simpa [sx_ok1] using hok
  subst hl
  intro ls H locs hG hO
  have hn := n.isLt
  exact lv_lconst hx hb hd (Int64.ofInt_eq_ofNat (n := n.val)).symm (hk _ _ _ h ls H locs hG (sx_okS_cons (show sx_r64 ((n.val : Nat) : Int) from ⟨by omega, by omega⟩) hO))
theorem sx_s_ldc {i : Nat} (hF : sx_Fx p s m args meth c R nc ns X own mt) {len : Nat} {w : List Nat} (hd : decode mt.2.1 pc = .ok (.ldc i, len)) (hok : sx_ok1 own mt pc (len, .ldc i, w) = true) {k : sx_K} (h : sx_st (sx_Run X) (len, .ldc i, w) L st sh σ k) (hk : ∀ L st σ, k L st sh σ → sx_AT p e R s m args below meth c nc ns Q X mt.2.2.1 (pc + len) L st sh σ) : sx_AT p e R s m args below meth c nc ns Q X mt.2.2.1 pc L st sh σ := by
  have hF9 := hF
  obtain ⟨hx, hb, hml, hown, hts, hK, -⟩ := hF9
  match w, hok, h with
  | [mg, 0], hok2, h2x =>
    clear h hok
    have h := h2x
    have hok := hok2
    simp only [sx_st] at h
    have hl : len = 2 ∧ sx_has sx_cn own i mg 0 = true := by simpa [sx_ok1] using hok
    obtain ⟨rfl, hh⟩ := hl
    obtain ⟨k1, k2, k3⟩ := sx_cn_el hh
    intro ls H locs hG hO
    exact lv_ldc hx hb hown (hts _ k1) hd (hk _ _ _ h ls H locs hG (sx_okS_cons k2 hO))
  | [mg, 1], hok2, h2x =>
    clear h hok
    have h := h2x
    have hok := hok2
    simp only [sx_st] at h
    have hl : len = 2 ∧ sx_has sx_cn own i mg 1 = true := by simpa [sx_ok1] using hok
    obtain ⟨rfl, hh⟩ := hl
    obtain ⟨k1, k2, k3⟩ := sx_cn_el hh
    intro ls H locs hG hO
    exact lv_ldc hx hb hown (hts _ k1) hd (hk _ _ _ h ls H locs hG (sx_okS_cons k2 hO))
  | [], hok2, h2x => exact h2x.elim
  | [_], hok2, h2x => exact h2x.elim
  | [mg, n + 2], hok2, h2x => exact h2x.elim
  | _ :: _ :: _ :: _, hok2, h2x => simp [sx_ok1] at hok2
theorem sx_s_ldc2_w {i : Nat} (hF : sx_Fx p s m args meth c R nc ns X own mt) {len : Nat} {w : List Nat} (hd : decode mt.2.1 pc = .ok (.ldc2_w i, len)) (hok : sx_ok1 own mt pc (len, .ldc2_w i, w) = true) {k : sx_K} (h : sx_st (sx_Run X) (len, .ldc2_w i, w) L st sh σ k) (hk : ∀ L st σ, k L st sh σ → sx_AT p e R s m args below meth c nc ns Q X mt.2.2.1 (pc + len) L st sh σ) : sx_AT p e R s m args below meth c nc ns Q X mt.2.2.1 pc L st sh σ := by
  have hF9 := hF
  obtain ⟨hx, hb, hml, hown, hts, hK, -⟩ := hF9
  match w, hok, h with
  | [mg, 0], hok2, h2x =>
    clear h hok
    have h := h2x
    have hok := hok2
    simp only [sx_st] at h
    have hl : len = 3 ∧ sx_has sx_cj own i mg 0 = true := by simpa [sx_ok1] using hok
    obtain ⟨rfl, hh⟩ := hl
    obtain ⟨k1, k2, k3⟩ := sx_cj_el hh
    intro ls H locs hG hO
    exact lv_ldc2 hx hb hown (hts _ k1) hd (hk _ _ _ h ls H locs hG (sx_okS_cons k2 hO))
  | [mg, 1], hok2, h2x =>
    clear h hok
    have h := h2x
    have hok := hok2
    simp only [sx_st] at h
    have hl : len = 3 ∧ sx_has sx_cj own i mg 1 = true := by simpa [sx_ok1] using hok
    obtain ⟨rfl, hh⟩ := hl
    obtain ⟨k1, k2, k3⟩ := sx_cj_el hh
    intro ls H locs hG hO
    exact lv_ldc2 hx hb hown (hts _ k1) hd (hk _ _ _ h ls H locs hG (sx_okS_cons k2 hO))
  | [], hok2, h2x => exact h2x.elim
  | [_], hok2, h2x => exact h2x.elim
  | [mg, n + 2], hok2, h2x => exact h2x.elim
  | _ :: _ :: _ :: _, hok2, h2x => simp [sx_ok1] at hok2
theorem sx_s_iload {i : Nat} (hF : sx_Fx p s m args meth c R nc ns X own mt) {len : Nat} {w : List Nat} (hd : decode mt.2.1 pc = .ok (.iload i, len)) (hok : sx_ok1 own mt pc (len, .iload i, w) = true) {k : sx_K} (h : sx_st (sx_Run X) (len, .iload i, w) L st sh σ k) (hk : ∀ L st σ, k L st sh σ → sx_AT p e R s m args below meth c nc ns Q X mt.2.2.1 (pc + len) L st sh σ) : sx_AT p e R s m args below meth c nc ns Q X mt.2.2.1 pc L st sh σ := by
  have hF9 := hF
  obtain ⟨hx, hb, hml, hown, hts, hK, -⟩ := hF9
  simp only [sx_st] at h
  have hl : len = 2 := by simpa [sx_ok1] using hok
  subst hl
  obtain ⟨x, hx9, g1⟩ := sx_lI_el h
  intro ls H locs hG hO
  exact lv_iload hx hb hd (sx_as_at hG.2.1 hx9) (hk _ _ _ g1 ls H locs hG (sx_okS_cons (hG.2.2.2.1 _ _ hx9) hO))
theorem sx_s_lload {i : Nat} (hF : sx_Fx p s m args meth c R nc ns X own mt) {len : Nat} {w : List Nat} (hd : decode mt.2.1 pc = .ok (.lload i, len)) (hok : sx_ok1 own mt pc (len, .lload i, w) = true) {k : sx_K} (h : sx_st (sx_Run X) (len, .lload i, w) L st sh σ k) (hk : ∀ L st σ, k L st sh σ → sx_AT p e R s m args below meth c nc ns Q X mt.2.2.1 (pc + len) L st sh σ) : sx_AT p e R s m args below meth c nc ns Q X mt.2.2.1 pc L st sh σ := by
  have hF9 := hF
  obtain ⟨hx, hb, hml, hown, hts, hK, -⟩ := hF9
  simp only [sx_st] at h
  have hl : len = 2 := by simpa [sx_ok1] using hok
  subst hl
  obtain ⟨x, hx9, g1⟩ := sx_lJ_el h
  intro ls H locs hG hO
  exact lv_lload hx hb hd (sx_as_at hG.2.1 hx9) (hk _ _ _ g1 ls H locs hG (sx_okS_cons (hG.2.2.2.1 _ _ hx9) hO))
theorem sx_s_iload_n {i : Fin 4} (hF : sx_Fx p s m args meth c R nc ns X own mt) {len : Nat} {w : List Nat} (hd : decode mt.2.1 pc = .ok (.iload_n i, len)) (hok : sx_ok1 own mt pc (len, .iload_n i, w) = true) {k : sx_K} (h : sx_st (sx_Run X) (len, .iload_n i, w) L st sh σ k) (hk : ∀ L st σ, k L st sh σ → sx_AT p e R s m args below meth c nc ns Q X mt.2.2.1 (pc + len) L st sh σ) : sx_AT p e R s m args below meth c nc ns Q X mt.2.2.1 pc L st sh σ := by
  have hF9 := hF
  obtain ⟨hx, hb, hml, hown, hts, hK, -⟩ := hF9
  simp only [sx_st] at h
  have hl : len = 1 := by simpa [sx_ok1] using hok
  subst hl
  obtain ⟨x, hx9, g1⟩ := sx_lI_el h
  intro ls H locs hG hO
  exact lv_iload_n hx hb hd rfl (sx_as_at hG.2.1 hx9) (hk _ _ _ g1 ls H locs hG (sx_okS_cons (hG.2.2.2.1 _ _ hx9) hO))
theorem sx_s_lload_n {i : Fin 4} (hF : sx_Fx p s m args meth c R nc ns X own mt) {len : Nat} {w : List Nat} (hd : decode mt.2.1 pc = .ok (.lload_n i, len)) (hok : sx_ok1 own mt pc (len, .lload_n i, w) = true) {k : sx_K} (h : sx_st (sx_Run X) (len, .lload_n i, w) L st sh σ k) (hk : ∀ L st σ, k L st sh σ → sx_AT p e R s m args below meth c nc ns Q X mt.2.2.1 (pc + len) L st sh σ) : sx_AT p e R s m args below meth c nc ns Q X mt.2.2.1 pc L st sh σ := by
  have hF9 := hF
  obtain ⟨hx, hb, hml, hown, hts, hK, -⟩ := hF9
  simp only [sx_st] at h
  have hl : len = 1 := by simpa [sx_ok1] using hok
  subst hl
  obtain ⟨x, hx9, g1⟩ := sx_lJ_el h
  intro ls H locs hG hO
  exact lv_lload_n hx hb hd rfl (sx_as_at hG.2.1 hx9) (hk _ _ _ g1 ls H locs hG (sx_okS_cons (hG.2.2.2.1 _ _ hx9) hO))
theorem sx_s_aload {i : Nat} (hF : sx_Fx p s m args meth c R nc ns X own mt) {len : Nat} {w : List Nat} (hd : decode mt.2.1 pc = .ok (.aload i, len)) (hok : sx_ok1 own mt pc (len, .aload i, w) = true) {k : sx_K} (h : sx_st (sx_Run X) (len, .aload i, w) L st sh σ k) (hk : ∀ L st σ, k L st sh σ → sx_AT p e R s m args below meth c nc ns Q X mt.2.2.1 (pc + len) L st sh σ) : sx_AT p e R s m args below meth c nc ns Q X mt.2.2.1 pc L st sh σ := by
  have hF9 := hF
  obtain ⟨hx, hb, hml, hown, hts, hK, -⟩ := hF9
  simp only [sx_st] at h
  have hl : len = 2 := by simpa [sx_ok1] using hok
  subst hl
  obtain ⟨x, hx9, g1⟩ := sx_lA_el h
  intro ls H locs hG hO
  have key := hk _ _ _ g1 ls H locs hG (sx_okS_cons (hG.2.2.2.1 _ _ hx9) hO)
  have hat := sx_as_at hG.2.1 hx9
  have e9 : sx_tv X.2.2.2.2.1 (.inr (.inr x)) = if x < 0 then Value.null else Value.ref (X.2.2.2.2.1.getD x.toNat 0) := rfl
  rw [e9] at hat
  have key2 : W p X.1 e R s m args below meth c H locs nc ns Q (F0 m (pc + 2) ls ((if x < 0 then Value.null else Value.ref (X.2.2.2.2.1.getD x.toNat 0)) :: st.map (sx_tv X.2.2.2.2.1))) := key
  split at hat
  · rename_i q
    rw [if_pos q] at key2
    exact lv_aloadN hx hb hd hat key2
  · rename_i q
    rw [if_neg q] at key2
    exact lv_aload hx hb hd hat key2
theorem sx_s_aload_n {i : Fin 4} (hF : sx_Fx p s m args meth c R nc ns X own mt) {len : Nat} {w : List Nat} (hd : decode mt.2.1 pc = .ok (.aload_n i, len)) (hok : sx_ok1 own mt pc (len, .aload_n i, w) = true) {k : sx_K} (h : sx_st (sx_Run X) (len, .aload_n i, w) L st sh σ k) (hk : ∀ L st σ, k L st sh σ → sx_AT p e R s m args below meth c nc ns Q X mt.2.2.1 (pc + len) L st sh σ) : sx_AT p e R s m args below meth c nc ns Q X mt.2.2.1 pc L st sh σ := by
  have hF9 := hF
  obtain ⟨hx, hb, hml, hown, hts, hK, -⟩ := hF9
  simp only [sx_st] at h
  have hl : len = 1 := by simpa [sx_ok1] using hok
  subst hl
  obtain ⟨x, hx9, g1⟩ := sx_lA_el h
  intro ls H locs hG hO
  have key := hk _ _ _ g1 ls H locs hG (sx_okS_cons (hG.2.2.2.1 _ _ hx9) hO)
  have hat := sx_as_at hG.2.1 hx9
  have e9 : sx_tv X.2.2.2.2.1 (.inr (.inr x)) = if x < 0 then Value.null else Value.ref (X.2.2.2.2.1.getD x.toNat 0) := rfl
  rw [e9] at hat
  have key2 : W p X.1 e R s m args below meth c H locs nc ns Q (F0 m (pc + 1) ls ((if x < 0 then Value.null else Value.ref (X.2.2.2.2.1.getD x.toNat 0)) :: st.map (sx_tv X.2.2.2.2.1))) := key
  split at hat
  · rename_i q
    rw [if_pos q] at key2
    exact lv_aload_nN hx hb hd rfl hat key2
  · rename_i q
    rw [if_neg q] at key2
    exact lv_aload_n hx hb hd rfl hat key2
theorem sx_s_istore {i : Nat} (hF : sx_Fx p s m args meth c R nc ns X own mt) {len : Nat} {w : List Nat} (hd : decode mt.2.1 pc = .ok (.istore i, len)) (hok : sx_ok1 own mt pc (len, .istore i, w) = true) {k : sx_K} (h : sx_st (sx_Run X) (len, .istore i, w) L st sh σ k) (hk : ∀ L st σ, k L st sh σ → sx_AT p e R s m args below meth c nc ns Q X mt.2.2.1 (pc + len) L st sh σ) : sx_AT p e R s m args below meth c nc ns Q X mt.2.2.1 pc L st sh σ := by
  have hF9 := hF
  obtain ⟨hx, hb, hml, hown, hts, hK, -⟩ := hF9
  simp only [sx_st] at h
  have hl : len = 2 ∧ i < mt.2.2.1 := by simpa [sx_ok1] using hok
  obtain ⟨rfl, hi⟩ := hl
  obtain ⟨x, r, rfl, g1⟩ := sx_pI_el h
  intro ls H locs hG hO
  obtain ⟨hsim, hlv, hLl, hLo, hS⟩ := hG
  refine lv_istore hx hb hd hlv hi rfl (fun ls' hl' => ?_)
  exact hk _ _ _ g1 ls' H locs ⟨hsim, sx_as_set (v := .inl x) hl', by rw [sx_set_len]; exact hLl, sx_set_ok hLo (sx_okS_hd hO), hS⟩ (sx_okS_tl hO)
theorem sx_s_istore_n {i : Fin 4} (hF : sx_Fx p s m args meth c R nc ns X own mt) {len : Nat} {w : List Nat} (hd : decode mt.2.1 pc = .ok (.istore_n i, len)) (hok : sx_ok1 own mt pc (len, .istore_n i, w) = true) {k : sx_K} (h : sx_st (sx_Run X) (len, .istore_n i, w) L st sh σ k) (hk : ∀ L st σ, k L st sh σ → sx_AT p e R s m args below meth c nc ns Q X mt.2.2.1 (pc + len) L st sh σ) : sx_AT p e R s m args below meth c nc ns Q X mt.2.2.1 pc L st sh σ := by
  have hF9 := hF
  obtain ⟨hx, hb, hml, hown, hts, hK, -⟩ := hF9
  simp only [sx_st] at h
  have hl : len = 1 ∧ i.val < mt.2.2.1 := by simpa [sx_ok1] using hok
  obtain ⟨rfl, hi⟩ := hl
  obtain ⟨x, r, rfl, g1⟩ := sx_pI_el h
  intro ls H locs hG hO
  obtain ⟨hsim, hlv, hLl, hLo, hS⟩ := hG
  refine lv_istore_n hx hb hd rfl hlv hi rfl (fun ls' hl' => ?_)
  exact hk _ _ _ g1 ls' H locs ⟨hsim, sx_as_set (v := .inl x) hl', by rw [sx_set_len]; exact hLl, sx_set_ok hLo (sx_okS_hd hO), hS⟩ (sx_okS_tl hO)
theorem sx_s_lstore {i : Nat} (hF : sx_Fx p s m args meth c R nc ns X own mt) {len : Nat} {w : List Nat} (hd : decode mt.2.1 pc = .ok (.lstore i, len)) (hok : sx_ok1 own mt pc (len, .lstore i, w) = true) {k : sx_K} (h : sx_st (sx_Run X) (len, .lstore i, w) L st sh σ k) (hk : ∀ L st σ, k L st sh σ → sx_AT p e R s m args below meth c nc ns Q X mt.2.2.1 (pc + len) L st sh σ) : sx_AT p e R s m args below meth c nc ns Q X mt.2.2.1 pc L st sh σ := by
  have hF9 := hF
  obtain ⟨hx, hb, hml, hown, hts, hK, -⟩ := hF9
  simp only [sx_st] at h
  have hl : len = 2 ∧ i + 1 < mt.2.2.1 := by simpa [sx_ok1] using hok
  obtain ⟨rfl, hi⟩ := hl
  obtain ⟨x, r, rfl, g1⟩ := sx_pJ_el h
  intro ls H locs hG hO
  obtain ⟨hsim, hlv, hLl, hLo, hS⟩ := hG
  refine lv_lstore hx hb hd hlv hi rfl (fun ls' hl' => ?_)
  exact hk _ _ _ g1 ls' H locs ⟨hsim, sx_as_setJ hl', by rw [sx_setJ_len]; exact hLl, sx_setJ_ok hLo (sx_okS_hd hO), hS⟩ (sx_okS_tl hO)
theorem sx_s_lstore_n {i : Fin 4} (hF : sx_Fx p s m args meth c R nc ns X own mt) {len : Nat} {w : List Nat} (hd : decode mt.2.1 pc = .ok (.lstore_n i, len)) (hok : sx_ok1 own mt pc (len, .lstore_n i, w) = true) {k : sx_K} (h : sx_st (sx_Run X) (len, .lstore_n i, w) L st sh σ k) (hk : ∀ L st σ, k L st sh σ → sx_AT p e R s m args below meth c nc ns Q X mt.2.2.1 (pc + len) L st sh σ) : sx_AT p e R s m args below meth c nc ns Q X mt.2.2.1 pc L st sh σ := by
  have hF9 := hF
  obtain ⟨hx, hb, hml, hown, hts, hK, -⟩ := hF9
  simp only [sx_st] at h
  have hl : len = 1 ∧ i.val + 1 < mt.2.2.1 := by simpa [sx_ok1] using hok
  obtain ⟨rfl, hi⟩ := hl
  obtain ⟨x, r, rfl, g1⟩ := sx_pJ_el h
  intro ls H locs hG hO
  obtain ⟨hsim, hlv, hLl, hLo, hS⟩ := hG
  refine lv_lstore_n hx hb hd rfl hlv hi rfl (fun ls' hl' => ?_)
  exact hk _ _ _ g1 ls' H locs ⟨hsim, sx_as_setJ hl', by rw [sx_setJ_len]; exact hLl, sx_setJ_ok hLo (sx_okS_hd hO), hS⟩ (sx_okS_tl hO)
theorem sx_s_astore {i : Nat} (hF : sx_Fx p s m args meth c R nc ns X own mt) {len : Nat} {w : List Nat} (hd : decode mt.2.1 pc = .ok (.astore i, len)) (hok : sx_ok1 own mt pc (len, .astore i, w) = true) {k : sx_K} (h : sx_st (sx_Run X) (len, .astore i, w) L st sh σ k) (hk : ∀ L st σ, k L st sh σ → sx_AT p e R s m args below meth c nc ns Q X mt.2.2.1 (pc + len) L st sh σ) : sx_AT p e R s m args below meth c nc ns Q X mt.2.2.1 pc L st sh σ := by
  have hF9 := hF
  obtain ⟨hx, hb, hml, hown, hts, hK, -⟩ := hF9
  simp only [sx_st] at h
  have hl : len = 2 ∧ i < mt.2.2.1 := by simpa [sx_ok1] using hok
  obtain ⟨rfl, hi⟩ := hl
  obtain ⟨x, r, rfl, g1⟩ := sx_pA_el h
  intro ls H locs hG hO
  obtain ⟨hsim, hlv, hLl, hLo, hS⟩ := hG
  have fin : ∀ ls' : Array Slot, lv_has ls' mt.2.2.1 ((i, sx_tv X.2.2.2.2.1 (.inr (.inr x))) :: (sx_as X.2.2.2.2.1 L).filter (fun q => !(q.1 == i) && !(q.1 + 1 == i && q.2.category == 2))) → W p X.1 e R s m args below meth c H locs nc ns Q (F0 m (pc + 2) ls' (r.map (sx_tv X.2.2.2.2.1))) := fun ls' hl' => hk _ _ _ g1 ls' H locs ⟨hsim, sx_as_set (v := .inr (.inr x)) hl', by rw [sx_set_len]; exact hLl, sx_set_ok hLo trivial, hS⟩ (sx_okS_tl hO)
  show W p X.1 e R s m args below meth c H locs nc ns Q (F0 m pc ls ((if x < 0 then Value.null else Value.ref (X.2.2.2.2.1.getD x.toNat 0)) :: r.map (sx_tv X.2.2.2.2.1)))
  by_cases q : x < 0
  · rw [if_pos q]
    refine lv_astoreN hx hb hd hlv hi rfl (fun ls' hl' => fin ls' ?_)
    have e9 : sx_tv X.2.2.2.2.1 (.inr (.inr x)) = Value.null := if_pos q
    rw [e9]; exact hl'
  · rw [if_neg q]
    refine lv_astore hx hb hd hlv hi rfl (fun ls' hl' => fin ls' ?_)
    have e9 : sx_tv X.2.2.2.2.1 (.inr (.inr x)) = Value.ref (X.2.2.2.2.1.getD x.toNat 0) := if_neg q
    rw [e9]; exact hl'
theorem sx_s_astore_n {i : Fin 4} (hF : sx_Fx p s m args meth c R nc ns X own mt) {len : Nat} {w : List Nat} (hd : decode mt.2.1 pc = .ok (.astore_n i, len)) (hok : sx_ok1 own mt pc (len, .astore_n i, w) = true) {k : sx_K} (h : sx_st (sx_Run X) (len, .astore_n i, w) L st sh σ k) (hk : ∀ L st σ, k L st sh σ → sx_AT p e R s m args below meth c nc ns Q X mt.2.2.1 (pc + len) L st sh σ) : sx_AT p e R s m args below meth c nc ns Q X mt.2.2.1 pc L st sh σ := by
  have hF9 := hF
  obtain ⟨hx, hb, hml, hown, hts, hK, -⟩ := hF9
  simp only [sx_st] at h
  have hl : len = 1 ∧ i.val < mt.2.2.1 := by simpa [sx_ok1] using hok
  obtain ⟨rfl, hi⟩ := hl
  obtain ⟨x, r, rfl, g1⟩ := sx_pA_el h
  intro ls H locs hG hO
  obtain ⟨hsim, hlv, hLl, hLo, hS⟩ := hG
  have fin : ∀ ls' : Array Slot, lv_has ls' mt.2.2.1 ((i.val, sx_tv X.2.2.2.2.1 (.inr (.inr x))) :: (sx_as X.2.2.2.2.1 L).filter (fun q => !(q.1 == i.val) && !(q.1 + 1 == i.val && q.2.category == 2))) → W p X.1 e R s m args below meth c H locs nc ns Q (F0 m (pc + 1) ls' (r.map (sx_tv X.2.2.2.2.1))) := fun ls' hl' => hk _ _ _ g1 ls' H locs ⟨hsim, sx_as_set (v := .inr (.inr x)) hl', by rw [sx_set_len]; exact hLl, sx_set_ok hLo trivial, hS⟩ (sx_okS_tl hO)
  show W p X.1 e R s m args below meth c H locs nc ns Q (F0 m pc ls ((if x < 0 then Value.null else Value.ref (X.2.2.2.2.1.getD x.toNat 0)) :: r.map (sx_tv X.2.2.2.2.1)))
  by_cases q : x < 0
  · rw [if_pos q]
    refine lv_astore_nN hx hb hd rfl hlv hi rfl (fun ls' hl' => fin ls' ?_)
    have e9 : sx_tv X.2.2.2.2.1 (.inr (.inr x)) = Value.null := if_pos q
    rw [e9]; exact hl'
  · rw [if_neg q]
    refine lv_astore_n hx hb hd rfl hlv hi rfl (fun ls' hl' => fin ls' ?_)
    have e9 : sx_tv X.2.2.2.2.1 (.inr (.inr x)) = Value.ref (X.2.2.2.2.1.getD x.toNat 0) := if_neg q
    rw [e9]; exact hl'
theorem sx_s_iinc {i : Nat} {n : Int} (hF : sx_Fx p s m args meth c R nc ns X own mt) {len : Nat} {w : List Nat} (hd : decode mt.2.1 pc = .ok (.iinc i n, len)) (hok : sx_ok1 own mt pc (len, .iinc i n, w) = true) {k : sx_K} (h : sx_st (sx_Run X) (len, .iinc i n, w) L st sh σ k) (hk : ∀ L st σ, k L st sh σ → sx_AT p e R s m args below meth c nc ns Q X mt.2.2.1 (pc + len) L st sh σ) : sx_AT p e R s m args below meth c nc ns Q X mt.2.2.1 pc L st sh σ := by
  have hF9 := hF
  obtain ⟨hx, hb, hml, hown, hts, hK, -⟩ := hF9
  simp only [sx_st] at h
  have hl : len = 3 ∧ i < mt.2.2.1 := by simpa [sx_ok1] using hok
  obtain ⟨rfl, hi⟩ := hl
  obtain ⟨x, hx9, hr, g1⟩ := sx_lI_el h
  intro ls H locs hG hO
  obtain ⟨hsim, hlv, hLl, hLo, hS⟩ := hG
  obtain ⟨k9, hk9⟩ := List.getElem?_of_mem (sx_as_mem.mpr ⟨.inl x, hx9, rfl⟩ : (i, sx_tv X.2.2.2.2.1 (.inl x)) ∈ sx_as X.2.2.2.2.1 L)
  refine lv_iinc hx hb hd hlv (k := k9) hk9 (Int32.ofInt_add x n).symm hi rfl (fun ls' hl' => ?_)
  exact hk _ _ _ g1 ls' H locs ⟨hsim, sx_as_set (v := .inl (x + n)) hl', by rw [sx_set_len]; exact hLl, sx_set_ok hLo hr, hS⟩ hO
theorem sx_s_iadd  (hF : sx_Fx p s m args meth c R nc ns X own mt) {len : Nat} {w : List Nat} (hd : decode mt.2.1 pc = .ok (.iadd, len)) (hok : sx_ok1 own mt pc (len, .iadd, w) = true) {k : sx_K} (h : sx_st (sx_Run X) (len, .iadd, w) L st sh σ k) (hk : ∀ L st σ, k L st sh σ → sx_AT p e R s m args below meth c nc ns Q X mt.2.2.1 (pc + len) L st sh σ) : sx_AT p e R s m args below meth c nc ns Q X mt.2.2.1 pc L st sh σ := by
  have hF9 := hF
  obtain ⟨hx, hb, hml, hown, hts, hK, -⟩ := hF9
  simp only [sx_st] at h
  have hl : len = 1 := by simpa [sx_ok1] using hok
  subst hl
  obtain ⟨y, r1, rfl, g1⟩ := sx_pI_el h
  obtain ⟨x, r2, rfl, g2⟩ := sx_pI_el g1
  obtain ⟨hr, g3⟩ := g2
  intro ls H locs hG hO
  have hyr : sx_r32 y := sx_okS_hd hO
  have hxr : sx_r32 x := sx_okS_hd (sx_okS_tl hO)
  have key := hk _ _ _ g3 ls H locs hG (sx_okS_cons hr (sx_okS_tl (sx_okS_tl hO)))
  refine lv_iadd hx hb hd ?_
  rw [← Int32.ofInt_add]
  exact key
theorem sx_s_isub  (hF : sx_Fx p s m args meth c R nc ns X own mt) {len : Nat} {w : List Nat} (hd : decode mt.2.1 pc = .ok (.isub, len)) (hok : sx_ok1 own mt pc (len, .isub, w) = true) {k : sx_K} (h : sx_st (sx_Run X) (len, .isub, w) L st sh σ k) (hk : ∀ L st σ, k L st sh σ → sx_AT p e R s m args below meth c nc ns Q X mt.2.2.1 (pc + len) L st sh σ) : sx_AT p e R s m args below meth c nc ns Q X mt.2.2.1 pc L st sh σ := by
  have hF9 := hF
  obtain ⟨hx, hb, hml, hown, hts, hK, -⟩ := hF9
  simp only [sx_st] at h
  have hl : len = 1 := by simpa [sx_ok1] using hok
  subst hl
  obtain ⟨y, r1, rfl, g1⟩ := sx_pI_el h
  obtain ⟨x, r2, rfl, g2⟩ := sx_pI_el g1
  obtain ⟨hr, g3⟩ := g2
  intro ls H locs hG hO
  have hyr : sx_r32 y := sx_okS_hd hO
  have hxr : sx_r32 x := sx_okS_hd (sx_okS_tl hO)
  have key := hk _ _ _ g3 ls H locs hG (sx_okS_cons hr (sx_okS_tl (sx_okS_tl hO)))
  refine lv_isub hx hb hd ?_
  rw [← Int32.ofInt_sub]
  exact key
theorem sx_s_imul  (hF : sx_Fx p s m args meth c R nc ns X own mt) {len : Nat} {w : List Nat} (hd : decode mt.2.1 pc = .ok (.imul, len)) (hok : sx_ok1 own mt pc (len, .imul, w) = true) {k : sx_K} (h : sx_st (sx_Run X) (len, .imul, w) L st sh σ k) (hk : ∀ L st σ, k L st sh σ → sx_AT p e R s m args below meth c nc ns Q X mt.2.2.1 (pc + len) L st sh σ) : sx_AT p e R s m args below meth c nc ns Q X mt.2.2.1 pc L st sh σ := by
  have hF9 := hF
  obtain ⟨hx, hb, hml, hown, hts, hK, -⟩ := hF9
  simp only [sx_st] at h
  have hl : len = 1 := by simpa [sx_ok1] using hok
  subst hl
  obtain ⟨y, r1, rfl, g1⟩ := sx_pI_el h
  obtain ⟨x, r2, rfl, g2⟩ := sx_pI_el g1
  obtain ⟨hr, g3⟩ := g2
  intro ls H locs hG hO
  have hyr : sx_r32 y := sx_okS_hd hO
  have hxr : sx_r32 x := sx_okS_hd (sx_okS_tl hO)
  have key := hk _ _ _ g3 ls H locs hG (sx_okS_cons hr (sx_okS_tl (sx_okS_tl hO)))
  refine lv_imul hx hb hd ?_
  rw [← Int32.ofInt_mul]
  exact key
theorem sx_s_ladd  (hF : sx_Fx p s m args meth c R nc ns X own mt) {len : Nat} {w : List Nat} (hd : decode mt.2.1 pc = .ok (.ladd, len)) (hok : sx_ok1 own mt pc (len, .ladd, w) = true) {k : sx_K} (h : sx_st (sx_Run X) (len, .ladd, w) L st sh σ k) (hk : ∀ L st σ, k L st sh σ → sx_AT p e R s m args below meth c nc ns Q X mt.2.2.1 (pc + len) L st sh σ) : sx_AT p e R s m args below meth c nc ns Q X mt.2.2.1 pc L st sh σ := by
  have hF9 := hF
  obtain ⟨hx, hb, hml, hown, hts, hK, -⟩ := hF9
  simp only [sx_st] at h
  have hl : len = 1 := by simpa [sx_ok1] using hok
  subst hl
  obtain ⟨y, r1, rfl, g1⟩ := sx_pJ_el h
  obtain ⟨x, r2, rfl, g2⟩ := sx_pJ_el g1
  obtain ⟨hr, g3⟩ := g2
  intro ls H locs hG hO
  have hyr : sx_r64 y := sx_okS_hd hO
  have hxr : sx_r64 x := sx_okS_hd (sx_okS_tl hO)
  have key := hk _ _ _ g3 ls H locs hG (sx_okS_cons hr (sx_okS_tl (sx_okS_tl hO)))
  refine lv_ladd hx hb hd ?_
  rw [← Int64.ofInt_add]
  exact key
theorem sx_s_lsub  (hF : sx_Fx p s m args meth c R nc ns X own mt) {len : Nat} {w : List Nat} (hd : decode mt.2.1 pc = .ok (.lsub, len)) (hok : sx_ok1 own mt pc (len, .lsub, w) = true) {k : sx_K} (h : sx_st (sx_Run X) (len, .lsub, w) L st sh σ k) (hk : ∀ L st σ, k L st sh σ → sx_AT p e R s m args below meth c nc ns Q X mt.2.2.1 (pc + len) L st sh σ) : sx_AT p e R s m args below meth c nc ns Q X mt.2.2.1 pc L st sh σ := by
  have hF9 := hF
  obtain ⟨hx, hb, hml, hown, hts, hK, -⟩ := hF9
  simp only [sx_st] at h
  have hl : len = 1 := by simpa [sx_ok1] using hok
  subst hl
  obtain ⟨y, r1, rfl, g1⟩ := sx_pJ_el h
  obtain ⟨x, r2, rfl, g2⟩ := sx_pJ_el g1
  obtain ⟨hr, g3⟩ := g2
  intro ls H locs hG hO
  have hyr : sx_r64 y := sx_okS_hd hO
  have hxr : sx_r64 x := sx_okS_hd (sx_okS_tl hO)
  have key := hk _ _ _ g3 ls H locs hG (sx_okS_cons hr (sx_okS_tl (sx_okS_tl hO)))
  refine lv_lsub hx hb hd ?_
  rw [← Int64.ofInt_sub]
  exact key
theorem sx_s_lmul  (hF : sx_Fx p s m args meth c R nc ns X own mt) {len : Nat} {w : List Nat} (hd : decode mt.2.1 pc = .ok (.lmul, len)) (hok : sx_ok1 own mt pc (len, .lmul, w) = true) {k : sx_K} (h : sx_st (sx_Run X) (len, .lmul, w) L st sh σ k) (hk : ∀ L st σ, k L st sh σ → sx_AT p e R s m args below meth c nc ns Q X mt.2.2.1 (pc + len) L st sh σ) : sx_AT p e R s m args below meth c nc ns Q X mt.2.2.1 pc L st sh σ := by
  have hF9 := hF
  obtain ⟨hx, hb, hml, hown, hts, hK, -⟩ := hF9
  simp only [sx_st] at h
  have hl : len = 1 := by simpa [sx_ok1] using hok
  subst hl
  obtain ⟨y, r1, rfl, g1⟩ := sx_pJ_el h
  obtain ⟨x, r2, rfl, g2⟩ := sx_pJ_el g1
  obtain ⟨hr, g3⟩ := g2
  intro ls H locs hG hO
  have hyr : sx_r64 y := sx_okS_hd hO
  have hxr : sx_r64 x := sx_okS_hd (sx_okS_tl hO)
  have key := hk _ _ _ g3 ls H locs hG (sx_okS_cons hr (sx_okS_tl (sx_okS_tl hO)))
  refine lv_lmul hx hb hd ?_
  rw [← Int64.ofInt_mul]
  exact key
theorem sx_s_idiv  (hF : sx_Fx p s m args meth c R nc ns X own mt) {len : Nat} {w : List Nat} (hd : decode mt.2.1 pc = .ok (.idiv, len)) (hok : sx_ok1 own mt pc (len, .idiv, w) = true) {k : sx_K} (h : sx_st (sx_Run X) (len, .idiv, w) L st sh σ k) (hk : ∀ L st σ, k L st sh σ → sx_AT p e R s m args below meth c nc ns Q X mt.2.2.1 (pc + len) L st sh σ) : sx_AT p e R s m args below meth c nc ns Q X mt.2.2.1 pc L st sh σ := by
  have hF9 := hF
  obtain ⟨hx, hb, hml, hown, hts, hK, -⟩ := hF9
  simp only [sx_st] at h
  have hl : len = 1 := by simpa [sx_ok1] using hok
  subst hl
  obtain ⟨y, r1, rfl, g1⟩ := sx_pI_el h
  obtain ⟨x, r2, rfl, g2⟩ := sx_pI_el g1
  obtain ⟨hn, hr, g3⟩ := g2
  intro ls H locs hG hO
  have hyr : sx_r32 y := sx_okS_hd hO
  have hxr : sx_r32 x := sx_okS_hd (sx_okS_tl hO)
  have key := hk _ _ _ g3 ls H locs hG (sx_okS_cons hr (sx_okS_tl (sx_okS_tl hO)))
  refine lv_idiv hx hb hd (sx_ne0 hyr hn) ?_
  rw [← sx_td hxr hyr]
  exact key
theorem sx_s_ldiv  (hF : sx_Fx p s m args meth c R nc ns X own mt) {len : Nat} {w : List Nat} (hd : decode mt.2.1 pc = .ok (.ldiv, len)) (hok : sx_ok1 own mt pc (len, .ldiv, w) = true) {k : sx_K} (h : sx_st (sx_Run X) (len, .ldiv, w) L st sh σ k) (hk : ∀ L st σ, k L st sh σ → sx_AT p e R s m args below meth c nc ns Q X mt.2.2.1 (pc + len) L st sh σ) : sx_AT p e R s m args below meth c nc ns Q X mt.2.2.1 pc L st sh σ := by
  have hF9 := hF
  obtain ⟨hx, hb, hml, hown, hts, hK, -⟩ := hF9
  simp only [sx_st] at h
  have hl : len = 1 := by simpa [sx_ok1] using hok
  subst hl
  obtain ⟨y, r1, rfl, g1⟩ := sx_pJ_el h
  obtain ⟨x, r2, rfl, g2⟩ := sx_pJ_el g1
  obtain ⟨hn, hr, g3⟩ := g2
  intro ls H locs hG hO
  have hyr : sx_r64 y := sx_okS_hd hO
  have hxr : sx_r64 x := sx_okS_hd (sx_okS_tl hO)
  have key := hk _ _ _ g3 ls H locs hG (sx_okS_cons hr (sx_okS_tl (sx_okS_tl hO)))
  refine lv_ldiv hx hb hd (sx_ne0J hyr hn) ?_
  rw [← sx_tdJ hxr hyr]
  exact key
theorem sx_s_irem  (hF : sx_Fx p s m args meth c R nc ns X own mt) {len : Nat} {w : List Nat} (hd : decode mt.2.1 pc = .ok (.irem, len)) (hok : sx_ok1 own mt pc (len, .irem, w) = true) {k : sx_K} (h : sx_st (sx_Run X) (len, .irem, w) L st sh σ k) (hk : ∀ L st σ, k L st sh σ → sx_AT p e R s m args below meth c nc ns Q X mt.2.2.1 (pc + len) L st sh σ) : sx_AT p e R s m args below meth c nc ns Q X mt.2.2.1 pc L st sh σ := by
  have hF9 := hF
  obtain ⟨hx, hb, hml, hown, hts, hK, -⟩ := hF9
  simp only [sx_st] at h
  have hl : len = 1 := by simpa [sx_ok1] using hok
  subst hl
  obtain ⟨y, r1, rfl, g1⟩ := sx_pI_el h
  obtain ⟨x, r2, rfl, g2⟩ := sx_pI_el g1
  obtain ⟨hn, hr, g3⟩ := g2
  intro ls H locs hG hO
  have hyr : sx_r32 y := sx_okS_hd hO
  have hxr : sx_r32 x := sx_okS_hd (sx_okS_tl hO)
  have key := hk _ _ _ g3 ls H locs hG (sx_okS_cons (show sx_r32 _ by have h8 := sx_tmr (x := x) (y := y) (B := 2147483647) ⟨by have := hxr.1; omega, hxr.2⟩; exact ⟨by omega, h8.2⟩) (sx_okS_tl (sx_okS_tl hO)))
  refine lv_irem hx hb hd (sx_ne0 hyr hn) ?_
  rw [← sx_tm hxr hyr]
  exact key
theorem sx_s_lrem  (hF : sx_Fx p s m args meth c R nc ns X own mt) {len : Nat} {w : List Nat} (hd : decode mt.2.1 pc = .ok (.lrem, len)) (hok : sx_ok1 own mt pc (len, .lrem, w) = true) {k : sx_K} (h : sx_st (sx_Run X) (len, .lrem, w) L st sh σ k) (hk : ∀ L st σ, k L st sh σ → sx_AT p e R s m args below meth c nc ns Q X mt.2.2.1 (pc + len) L st sh σ) : sx_AT p e R s m args below meth c nc ns Q X mt.2.2.1 pc L st sh σ := by
  have hF9 := hF
  obtain ⟨hx, hb, hml, hown, hts, hK, -⟩ := hF9
  simp only [sx_st] at h
  have hl : len = 1 := by simpa [sx_ok1] using hok
  subst hl
  obtain ⟨y, r1, rfl, g1⟩ := sx_pJ_el h
  obtain ⟨x, r2, rfl, g2⟩ := sx_pJ_el g1
  obtain ⟨hn, hr, g3⟩ := g2
  intro ls H locs hG hO
  have hyr : sx_r64 y := sx_okS_hd hO
  have hxr : sx_r64 x := sx_okS_hd (sx_okS_tl hO)
  have key := hk _ _ _ g3 ls H locs hG (sx_okS_cons (show sx_r64 _ by have h8 := sx_tmr (x := x) (y := y) (B := 9223372036854775807) ⟨by have := hxr.1; omega, hxr.2⟩; exact ⟨by omega, h8.2⟩) (sx_okS_tl (sx_okS_tl hO)))
  refine lv_lrem hx hb hd (sx_ne0J hyr hn) ?_
  rw [← sx_tmJ hxr hyr]
  exact key
theorem sx_s_iand  (hF : sx_Fx p s m args meth c R nc ns X own mt) {len : Nat} {w : List Nat} (hd : decode mt.2.1 pc = .ok (.iand, len)) (hok : sx_ok1 own mt pc (len, .iand, w) = true) {k : sx_K} (h : sx_st (sx_Run X) (len, .iand, w) L st sh σ k) (hk : ∀ L st σ, k L st sh σ → sx_AT p e R s m args below meth c nc ns Q X mt.2.2.1 (pc + len) L st sh σ) : sx_AT p e R s m args below meth c nc ns Q X mt.2.2.1 pc L st sh σ := by
  have hF9 := hF
  obtain ⟨hx, hb, hml, hown, hts, hK, -⟩ := hF9
  simp only [sx_st] at h
  have hl : len = 1 := by simpa [sx_ok1] using hok
  subst hl
  obtain ⟨y, r1, rfl, g1⟩ := sx_pI_el h
  obtain ⟨x, r2, rfl, g2⟩ := sx_pI_el g1
  intro ls H locs hG hO
  have key := hk _ _ _ g2 ls H locs hG (sx_okS_cons (show sx_r32 (sx_and x y) from sx_oki _) (sx_okS_tl (sx_okS_tl hO)))
  refine lv_iand hx hb hd ?_
  have e9 : sx_tv X.2.2.2.2.1 (.inl (sx_and x y)) = .int (Int32.ofInt x &&& Int32.ofInt y) := congrArg Value.int (sx_wi _)
  rw [List.map_cons, e9] at key
  exact key
theorem sx_s_ior  (hF : sx_Fx p s m args meth c R nc ns X own mt) {len : Nat} {w : List Nat} (hd : decode mt.2.1 pc = .ok (.ior, len)) (hok : sx_ok1 own mt pc (len, .ior, w) = true) {k : sx_K} (h : sx_st (sx_Run X) (len, .ior, w) L st sh σ k) (hk : ∀ L st σ, k L st sh σ → sx_AT p e R s m args below meth c nc ns Q X mt.2.2.1 (pc + len) L st sh σ) : sx_AT p e R s m args below meth c nc ns Q X mt.2.2.1 pc L st sh σ := by
  have hF9 := hF
  obtain ⟨hx, hb, hml, hown, hts, hK, -⟩ := hF9
  simp only [sx_st] at h
  have hl : len = 1 := by simpa [sx_ok1] using hok
  subst hl
  obtain ⟨y, r1, rfl, g1⟩ := sx_pI_el h
  obtain ⟨x, r2, rfl, g2⟩ := sx_pI_el g1
  intro ls H locs hG hO
  have key := hk _ _ _ g2 ls H locs hG (sx_okS_cons (show sx_r32 (sx_or x y) from sx_oki _) (sx_okS_tl (sx_okS_tl hO)))
  refine lv_ior hx hb hd ?_
  have e9 : sx_tv X.2.2.2.2.1 (.inl (sx_or x y)) = .int (Int32.ofInt x ||| Int32.ofInt y) := congrArg Value.int (sx_wi _)
  rw [List.map_cons, e9] at key
  exact key
theorem sx_s_ishl  (hF : sx_Fx p s m args meth c R nc ns X own mt) {len : Nat} {w : List Nat} (hd : decode mt.2.1 pc = .ok (.ishl, len)) (hok : sx_ok1 own mt pc (len, .ishl, w) = true) {k : sx_K} (h : sx_st (sx_Run X) (len, .ishl, w) L st sh σ k) (hk : ∀ L st σ, k L st sh σ → sx_AT p e R s m args below meth c nc ns Q X mt.2.2.1 (pc + len) L st sh σ) : sx_AT p e R s m args below meth c nc ns Q X mt.2.2.1 pc L st sh σ := by
  have hF9 := hF
  obtain ⟨hx, hb, hml, hown, hts, hK, -⟩ := hF9
  simp only [sx_st] at h
  have hl : len = 1 := by simpa [sx_ok1] using hok
  subst hl
  obtain ⟨y, r1, rfl, g1⟩ := sx_pI_el h
  obtain ⟨x, r2, rfl, g2⟩ := sx_pI_el g1
  intro ls H locs hG hO
  have key := hk _ _ _ g2 ls H locs hG (sx_okS_cons (show sx_r32 (sx_shl x y) from sx_oki _) (sx_okS_tl (sx_okS_tl hO)))
  refine lv_ishl hx hb hd ?_
  have e9 : sx_tv X.2.2.2.2.1 (.inl (sx_shl x y)) = .int (Int32.ofInt x <<< (Int32.ofInt y &&& 31)) := congrArg Value.int (sx_wi _)
  rw [List.map_cons, e9] at key
  exact key
theorem sx_s_ishr  (hF : sx_Fx p s m args meth c R nc ns X own mt) {len : Nat} {w : List Nat} (hd : decode mt.2.1 pc = .ok (.ishr, len)) (hok : sx_ok1 own mt pc (len, .ishr, w) = true) {k : sx_K} (h : sx_st (sx_Run X) (len, .ishr, w) L st sh σ k) (hk : ∀ L st σ, k L st sh σ → sx_AT p e R s m args below meth c nc ns Q X mt.2.2.1 (pc + len) L st sh σ) : sx_AT p e R s m args below meth c nc ns Q X mt.2.2.1 pc L st sh σ := by
  have hF9 := hF
  obtain ⟨hx, hb, hml, hown, hts, hK, -⟩ := hF9
  simp only [sx_st] at h
  have hl : len = 1 := by simpa [sx_ok1] using hok
  subst hl
  obtain ⟨y, r1, rfl, g1⟩ := sx_pI_el h
  obtain ⟨x, r2, rfl, g2⟩ := sx_pI_el g1
  intro ls H locs hG hO
  have key := hk _ _ _ g2 ls H locs hG (sx_okS_cons (show sx_r32 (sx_shr x y) from sx_oki _) (sx_okS_tl (sx_okS_tl hO)))
  refine lv_ishr hx hb hd ?_
  have e9 : sx_tv X.2.2.2.2.1 (.inl (sx_shr x y)) = .int (Int32.ofInt x >>> (Int32.ofInt y &&& 31)) := congrArg Value.int (sx_wi _)
  rw [List.map_cons, e9] at key
  exact key
theorem sx_s_land  (hF : sx_Fx p s m args meth c R nc ns X own mt) {len : Nat} {w : List Nat} (hd : decode mt.2.1 pc = .ok (.land, len)) (hok : sx_ok1 own mt pc (len, .land, w) = true) {k : sx_K} (h : sx_st (sx_Run X) (len, .land, w) L st sh σ k) (hk : ∀ L st σ, k L st sh σ → sx_AT p e R s m args below meth c nc ns Q X mt.2.2.1 (pc + len) L st sh σ) : sx_AT p e R s m args below meth c nc ns Q X mt.2.2.1 pc L st sh σ := by
  have hF9 := hF
  obtain ⟨hx, hb, hml, hown, hts, hK, -⟩ := hF9
  simp only [sx_st] at h
  have hl : len = 1 := by simpa [sx_ok1] using hok
  subst hl
  obtain ⟨y, r1, rfl, g1⟩ := sx_pJ_el h
  obtain ⟨x, r2, rfl, g2⟩ := sx_pJ_el g1
  intro ls H locs hG hO
  have key := hk _ _ _ g2 ls H locs hG (sx_okS_cons (show sx_r64 (sx_andL x y) from sx_okj _) (sx_okS_tl (sx_okS_tl hO)))
  refine lv_land hx hb hd ?_
  have e9 : sx_tv X.2.2.2.2.1 (.inr (.inl (sx_andL x y))) = .long (Int64.ofInt x &&& Int64.ofInt y) := congrArg Value.long (sx_wj _)
  rw [List.map_cons, e9] at key
  exact key
theorem sx_s_lor  (hF : sx_Fx p s m args meth c R nc ns X own mt) {len : Nat} {w : List Nat} (hd : decode mt.2.1 pc = .ok (.lor, len)) (hok : sx_ok1 own mt pc (len, .lor, w) = true) {k : sx_K} (h : sx_st (sx_Run X) (len, .lor, w) L st sh σ k) (hk : ∀ L st σ, k L st sh σ → sx_AT p e R s m args below meth c nc ns Q X mt.2.2.1 (pc + len) L st sh σ) : sx_AT p e R s m args below meth c nc ns Q X mt.2.2.1 pc L st sh σ := by
  have hF9 := hF
  obtain ⟨hx, hb, hml, hown, hts, hK, -⟩ := hF9
  simp only [sx_st] at h
  have hl : len = 1 := by simpa [sx_ok1] using hok
  subst hl
  obtain ⟨y, r1, rfl, g1⟩ := sx_pJ_el h
  obtain ⟨x, r2, rfl, g2⟩ := sx_pJ_el g1
  intro ls H locs hG hO
  have key := hk _ _ _ g2 ls H locs hG (sx_okS_cons (show sx_r64 (sx_orL x y) from sx_okj _) (sx_okS_tl (sx_okS_tl hO)))
  refine lv_lor hx hb hd ?_
  have e9 : sx_tv X.2.2.2.2.1 (.inr (.inl (sx_orL x y))) = .long (Int64.ofInt x ||| Int64.ofInt y) := congrArg Value.long (sx_wj _)
  rw [List.map_cons, e9] at key
  exact key
theorem sx_s_lxor  (hF : sx_Fx p s m args meth c R nc ns X own mt) {len : Nat} {w : List Nat} (hd : decode mt.2.1 pc = .ok (.lxor, len)) (hok : sx_ok1 own mt pc (len, .lxor, w) = true) {k : sx_K} (h : sx_st (sx_Run X) (len, .lxor, w) L st sh σ k) (hk : ∀ L st σ, k L st sh σ → sx_AT p e R s m args below meth c nc ns Q X mt.2.2.1 (pc + len) L st sh σ) : sx_AT p e R s m args below meth c nc ns Q X mt.2.2.1 pc L st sh σ := by
  have hF9 := hF
  obtain ⟨hx, hb, hml, hown, hts, hK, -⟩ := hF9
  simp only [sx_st] at h
  have hl : len = 1 := by simpa [sx_ok1] using hok
  subst hl
  obtain ⟨y, r1, rfl, g1⟩ := sx_pJ_el h
  obtain ⟨x, r2, rfl, g2⟩ := sx_pJ_el g1
  intro ls H locs hG hO
  have key := hk _ _ _ g2 ls H locs hG (sx_okS_cons (show sx_r64 (sx_xorL x y) from sx_okj _) (sx_okS_tl (sx_okS_tl hO)))
  refine lv_lxor hx hb hd ?_
  have e9 : sx_tv X.2.2.2.2.1 (.inr (.inl (sx_xorL x y))) = .long (Int64.ofInt x ^^^ Int64.ofInt y) := congrArg Value.long (sx_wj _)
  rw [List.map_cons, e9] at key
  exact key
theorem sx_s_lshl  (hF : sx_Fx p s m args meth c R nc ns X own mt) {len : Nat} {w : List Nat} (hd : decode mt.2.1 pc = .ok (.lshl, len)) (hok : sx_ok1 own mt pc (len, .lshl, w) = true) {k : sx_K} (h : sx_st (sx_Run X) (len, .lshl, w) L st sh σ k) (hk : ∀ L st σ, k L st sh σ → sx_AT p e R s m args below meth c nc ns Q X mt.2.2.1 (pc + len) L st sh σ) : sx_AT p e R s m args below meth c nc ns Q X mt.2.2.1 pc L st sh σ := by
  have hF9 := hF
  obtain ⟨hx, hb, hml, hown, hts, hK, -⟩ := hF9
  simp only [sx_st] at h
  have hl : len = 1 := by simpa [sx_ok1] using hok
  subst hl
  obtain ⟨y, r1, rfl, g1⟩ := sx_pI_el h
  obtain ⟨x, r2, rfl, g2⟩ := sx_pJ_el g1
  intro ls H locs hG hO
  have key := hk _ _ _ g2 ls H locs hG (sx_okS_cons (show sx_r64 (sx_shlL x y) from sx_okj _) (sx_okS_tl (sx_okS_tl hO)))
  exact lv_lshl hx hb hd (sx_wj _).symm key
theorem sx_s_lshr  (hF : sx_Fx p s m args meth c R nc ns X own mt) {len : Nat} {w : List Nat} (hd : decode mt.2.1 pc = .ok (.lshr, len)) (hok : sx_ok1 own mt pc (len, .lshr, w) = true) {k : sx_K} (h : sx_st (sx_Run X) (len, .lshr, w) L st sh σ k) (hk : ∀ L st σ, k L st sh σ → sx_AT p e R s m args below meth c nc ns Q X mt.2.2.1 (pc + len) L st sh σ) : sx_AT p e R s m args below meth c nc ns Q X mt.2.2.1 pc L st sh σ := by
  have hF9 := hF
  obtain ⟨hx, hb, hml, hown, hts, hK, -⟩ := hF9
  simp only [sx_st] at h
  have hl : len = 1 := by simpa [sx_ok1] using hok
  subst hl
  obtain ⟨y, r1, rfl, g1⟩ := sx_pI_el h
  obtain ⟨x, r2, rfl, g2⟩ := sx_pJ_el g1
  intro ls H locs hG hO
  have key := hk _ _ _ g2 ls H locs hG (sx_okS_cons (show sx_r64 (sx_shrL x y) from sx_okj _) (sx_okS_tl (sx_okS_tl hO)))
  exact lv_lshr hx hb hd (sx_wj _).symm key
theorem sx_s_lushr  (hF : sx_Fx p s m args meth c R nc ns X own mt) {len : Nat} {w : List Nat} (hd : decode mt.2.1 pc = .ok (.lushr, len)) (hok : sx_ok1 own mt pc (len, .lushr, w) = true) {k : sx_K} (h : sx_st (sx_Run X) (len, .lushr, w) L st sh σ k) (hk : ∀ L st σ, k L st sh σ → sx_AT p e R s m args below meth c nc ns Q X mt.2.2.1 (pc + len) L st sh σ) : sx_AT p e R s m args below meth c nc ns Q X mt.2.2.1 pc L st sh σ := by
  have hF9 := hF
  obtain ⟨hx, hb, hml, hown, hts, hK, -⟩ := hF9
  simp only [sx_st] at h
  have hl : len = 1 := by simpa [sx_ok1] using hok
  subst hl
  obtain ⟨y, r1, rfl, g1⟩ := sx_pI_el h
  obtain ⟨x, r2, rfl, g2⟩ := sx_pJ_el g1
  intro ls H locs hG hO
  have key := hk _ _ _ g2 ls H locs hG (sx_okS_cons (show sx_r64 (sx_ushrL x y) from sx_okj _) (sx_okS_tl (sx_okS_tl hO)))
  exact lv_lushr hx hb hd (sx_wj _).symm key
theorem sx_s_ineg  (hF : sx_Fx p s m args meth c R nc ns X own mt) {len : Nat} {w : List Nat} (hd : decode mt.2.1 pc = .ok (.ineg, len)) (hok : sx_ok1 own mt pc (len, .ineg, w) = true) {k : sx_K} (h : sx_st (sx_Run X) (len, .ineg, w) L st sh σ k) (hk : ∀ L st σ, k L st sh σ → sx_AT p e R s m args below meth c nc ns Q X mt.2.2.1 (pc + len) L st sh σ) : sx_AT p e R s m args below meth c nc ns Q X mt.2.2.1 pc L st sh σ := by
  have hF9 := hF
  obtain ⟨hx, hb, hml, hown, hts, hK, -⟩ := hF9
  simp only [sx_st] at h
  have hl : len = 1 := by simpa [sx_ok1] using hok
  subst hl
  obtain ⟨x, r, rfl, hr, g1⟩ := sx_pI_el h
  intro ls H locs hG hO
  have key := hk _ _ _ g1 ls H locs hG (sx_okS_cons hr (sx_okS_tl hO))
  refine lv_ineg hx hb hd ?_
  rw [← Int32.ofInt_neg]
  exact key
theorem sx_s_lneg  (hF : sx_Fx p s m args meth c R nc ns X own mt) {len : Nat} {w : List Nat} (hd : decode mt.2.1 pc = .ok (.lneg, len)) (hok : sx_ok1 own mt pc (len, .lneg, w) = true) {k : sx_K} (h : sx_st (sx_Run X) (len, .lneg, w) L st sh σ k) (hk : ∀ L st σ, k L st sh σ → sx_AT p e R s m args below meth c nc ns Q X mt.2.2.1 (pc + len) L st sh σ) : sx_AT p e R s m args below meth c nc ns Q X mt.2.2.1 pc L st sh σ := by
  have hF9 := hF
  obtain ⟨hx, hb, hml, hown, hts, hK, -⟩ := hF9
  simp only [sx_st] at h
  have hl : len = 1 := by simpa [sx_ok1] using hok
  subst hl
  obtain ⟨x, r, rfl, hr, g1⟩ := sx_pJ_el h
  intro ls H locs hG hO
  have key := hk _ _ _ g1 ls H locs hG (sx_okS_cons hr (sx_okS_tl hO))
  refine lv_lneg hx hb hd ?_
  rw [← Int64.ofInt_neg]
  exact key
theorem sx_s_lcmp  (hF : sx_Fx p s m args meth c R nc ns X own mt) {len : Nat} {w : List Nat} (hd : decode mt.2.1 pc = .ok (.lcmp, len)) (hok : sx_ok1 own mt pc (len, .lcmp, w) = true) {k : sx_K} (h : sx_st (sx_Run X) (len, .lcmp, w) L st sh σ k) (hk : ∀ L st σ, k L st sh σ → sx_AT p e R s m args below meth c nc ns Q X mt.2.2.1 (pc + len) L st sh σ) : sx_AT p e R s m args below meth c nc ns Q X mt.2.2.1 pc L st sh σ := by
  have hF9 := hF
  obtain ⟨hx, hb, hml, hown, hts, hK, -⟩ := hF9
  simp only [sx_st] at h
  have hl : len = 1 := by simpa [sx_ok1] using hok
  subst hl
  obtain ⟨y, r1, rfl, g1⟩ := sx_pJ_el h
  obtain ⟨x, r2, rfl, g2⟩ := sx_pJ_el g1
  intro ls H locs hG hO
  have key := hk _ _ _ g2 ls H locs hG (sx_okS_cons (sx_cmp_r x y) (sx_okS_tl (sx_okS_tl hO)))
  refine W.lcmp hx hb hd ?_
  rw [sx_cmp_lg (sx_okS_hd (sx_okS_tl hO)) (sx_okS_hd hO)]
  exact key
theorem sx_s_i2l  (hF : sx_Fx p s m args meth c R nc ns X own mt) {len : Nat} {w : List Nat} (hd : decode mt.2.1 pc = .ok (.i2l, len)) (hok : sx_ok1 own mt pc (len, .i2l, w) = true) {k : sx_K} (h : sx_st (sx_Run X) (len, .i2l, w) L st sh σ k) (hk : ∀ L st σ, k L st sh σ → sx_AT p e R s m args below meth c nc ns Q X mt.2.2.1 (pc + len) L st sh σ) : sx_AT p e R s m args below meth c nc ns Q X mt.2.2.1 pc L st sh σ := by
  have hF9 := hF
  obtain ⟨hx, hb, hml, hown, hts, hK, -⟩ := hF9
  simp only [sx_st] at h
  have hl : len = 1 := by simpa [sx_ok1] using hok
  subst hl
  obtain ⟨x, r, rfl, g1⟩ := sx_pI_el h
  intro ls H locs hG hO
  have hr : sx_r32 x := sx_okS_hd hO
  exact lv_i2l hx hb hd (sx_i2l hr) (hk _ _ _ g1 ls H locs hG (sx_okS_cons (show sx_r64 x from ⟨by have := hr.1; omega, by have := hr.2; omega⟩) (sx_okS_tl hO)))
theorem sx_s_l2i  (hF : sx_Fx p s m args meth c R nc ns X own mt) {len : Nat} {w : List Nat} (hd : decode mt.2.1 pc = .ok (.l2i, len)) (hok : sx_ok1 own mt pc (len, .l2i, w) = true) {k : sx_K} (h : sx_st (sx_Run X) (len, .l2i, w) L st sh σ k) (hk : ∀ L st σ, k L st sh σ → sx_AT p e R s m args below meth c nc ns Q X mt.2.2.1 (pc + len) L st sh σ) : sx_AT p e R s m args below meth c nc ns Q X mt.2.2.1 pc L st sh σ := by
  have hF9 := hF
  obtain ⟨hx, hb, hml, hown, hts, hK, -⟩ := hF9
  simp only [sx_st] at h
  have hl : len = 1 := by simpa [sx_ok1] using hok
  subst hl
  obtain ⟨x, r, rfl, hr, g1⟩ := sx_pJ_el h
  intro ls H locs hG hO
  exact lv_l2i hx hb hd (sx_l2i hr) (hk _ _ _ g1 ls H locs hG (sx_okS_cons hr (sx_okS_tl hO)))
theorem sx_s_i2b  (hF : sx_Fx p s m args meth c R nc ns X own mt) {len : Nat} {w : List Nat} (hd : decode mt.2.1 pc = .ok (.i2b, len)) (hok : sx_ok1 own mt pc (len, .i2b, w) = true) {k : sx_K} (h : sx_st (sx_Run X) (len, .i2b, w) L st sh σ k) (hk : ∀ L st σ, k L st sh σ → sx_AT p e R s m args below meth c nc ns Q X mt.2.2.1 (pc + len) L st sh σ) : sx_AT p e R s m args below meth c nc ns Q X mt.2.2.1 pc L st sh σ := by
  have hF9 := hF
  obtain ⟨hx, hb, hml, hown, hts, hK, -⟩ := hF9
  simp only [sx_st] at h
  have hl : len = 1 := by simpa [sx_ok1] using hok
  subst hl
  obtain ⟨x, r, rfl, g1⟩ := sx_pI_el h
  intro ls H locs hG hO
  exact lv_i2b hx hb hd (sx_wi _).symm (hk _ _ _ g1 ls H locs hG (sx_okS_cons (show sx_r32 (sx_b8 x) from sx_oki _) (sx_okS_tl hO)))
theorem sx_s_dup  (hF : sx_Fx p s m args meth c R nc ns X own mt) {len : Nat} {w : List Nat} (hd : decode mt.2.1 pc = .ok (.dup, len)) (hok : sx_ok1 own mt pc (len, .dup, w) = true) {k : sx_K} (h : sx_st (sx_Run X) (len, .dup, w) L st sh σ k) (hk : ∀ L st σ, k L st sh σ → sx_AT p e R s m args below meth c nc ns Q X mt.2.2.1 (pc + len) L st sh σ) : sx_AT p e R s m args below meth c nc ns Q X mt.2.2.1 pc L st sh σ := by
  have hF9 := hF
  obtain ⟨hx, hb, hml, hown, hts, hK, -⟩ := hF9
  simp only [sx_st] at h
  have hl : len = 1 := by simpa [sx_ok1] using hok
  subst hl
  split at h
  · intro ls H locs hG hO
    exact lv_dup hx hb hd rfl (hk _ _ _ h ls H locs hG (sx_okS_cons (sx_okS_hd hO) hO))
  · intro ls H locs hG hO
    exact lv_dup hx hb hd (sx_cat1 (fun _ q => by cases q)) (hk _ _ _ h ls H locs hG (sx_okS_cons (sx_okS_hd hO) hO))
  · exact h.elim
theorem sx_s_pop  (hF : sx_Fx p s m args meth c R nc ns X own mt) {len : Nat} {w : List Nat} (hd : decode mt.2.1 pc = .ok (.pop, len)) (hok : sx_ok1 own mt pc (len, .pop, w) = true) {k : sx_K} (h : sx_st (sx_Run X) (len, .pop, w) L st sh σ k) (hk : ∀ L st σ, k L st sh σ → sx_AT p e R s m args below meth c nc ns Q X mt.2.2.1 (pc + len) L st sh σ) : sx_AT p e R s m args below meth c nc ns Q X mt.2.2.1 pc L st sh σ := by
  have hF9 := hF
  obtain ⟨hx, hb, hml, hown, hts, hK, -⟩ := hF9
  simp only [sx_st] at h
  have hl : len = 1 := by simpa [sx_ok1] using hok
  subst hl
  split at h
  · intro ls H locs hG hO
    exact lv_pop hx hb hd rfl (hk _ _ _ h ls H locs hG (sx_okS_tl hO))
  · intro ls H locs hG hO
    exact lv_pop hx hb hd (sx_cat1 (fun _ q => by cases q)) (hk _ _ _ h ls H locs hG (sx_okS_tl hO))
  · exact h.elim
theorem sx_s_dup2  (hF : sx_Fx p s m args meth c R nc ns X own mt) {len : Nat} {w : List Nat} (hd : decode mt.2.1 pc = .ok (.dup2, len)) (hok : sx_ok1 own mt pc (len, .dup2, w) = true) {k : sx_K} (h : sx_st (sx_Run X) (len, .dup2, w) L st sh σ k) (hk : ∀ L st σ, k L st sh σ → sx_AT p e R s m args below meth c nc ns Q X mt.2.2.1 (pc + len) L st sh σ) : sx_AT p e R s m args below meth c nc ns Q X mt.2.2.1 pc L st sh σ := by
  have hF9 := hF
  obtain ⟨hx, hb, hml, hown, hts, hK, -⟩ := hF9
  simp only [sx_st] at h
  have hl : len = 1 := by simpa [sx_ok1] using hok
  subst hl
  split at h
  · intro ls H locs hG hO
    exact lv_dup2_11 hx hb hd rfl (sx_cat1 (fun _ q => by cases q)) (hk _ _ _ h ls H locs hG (sx_okS_cons (sx_okS_hd hO) (sx_okS_cons (sx_okS_hd (sx_okS_tl hO)) hO)))
  · intro ls H locs hG hO
    exact lv_dup2_2 hx hb hd rfl (hk _ _ _ h ls H locs hG (sx_okS_cons (sx_okS_hd hO) hO))
  · exact h.elim
theorem sx_s_getfield {i : Nat} (hF : sx_Fx p s m args meth c R nc ns X own mt) {len : Nat} {w : List Nat} (hd : decode mt.2.1 pc = .ok (.getfield i, len)) (hok : sx_ok1 own mt pc (len, .getfield i, w) = true) {k : sx_K} (h : sx_st (sx_Run X) (len, .getfield i, w) L st sh σ k) (hk : ∀ L st σ, k L st sh σ → sx_AT p e R s m args below meth c nc ns Q X mt.2.2.1 (pc + len) L st sh σ) : sx_AT p e R s m args below meth c nc ns Q X mt.2.2.1 pc L st sh σ := by
  match w, hok, h with
  | [ci, f, t], hok2, h2x =>
    clear h hok
    have h := h2x
    have hok := hok2
    simp only [sx_st] at h
    have hl : len = 3 ∧ sx_has sx_fl own i ci f = true ∧ t = sx_tg (sx_ty ci f) := by simpa [sx_ok1] using hok
    obtain ⟨rfl, hh, rfl⟩ := hl
    obtain ⟨a, r, rfl, hlk, g1⟩ := sx_pA_el h
    exact sx_o_get hF hd hh hlk (hk _ _ _ g1)
  | [], hok2, h2x => exact h2x.elim
  | [_], hok2, h2x => exact h2x.elim
  | [_, _], hok2, h2x => exact h2x.elim
  | _ :: _ :: _ :: _ :: _, hok2, h2x => simp [sx_ok1] at hok2
theorem sx_s_putfield {i : Nat} (hF : sx_Fx p s m args meth c R nc ns X own mt) {len : Nat} {w : List Nat} (hd : decode mt.2.1 pc = .ok (.putfield i, len)) (hok : sx_ok1 own mt pc (len, .putfield i, w) = true) {k : sx_K} (h : sx_st (sx_Run X) (len, .putfield i, w) L st sh σ k) (hk : ∀ L st σ, k L st sh σ → sx_AT p e R s m args below meth c nc ns Q X mt.2.2.1 (pc + len) L st sh σ) : sx_AT p e R s m args below meth c nc ns Q X mt.2.2.1 pc L st sh σ := by
  match w, hok, h with
  | [ci, f, t], hok2, h2x =>
    clear h hok
    have h := h2x
    have hok := hok2
    have hl : len = 3 ∧ sx_has sx_fl own i ci f = true ∧ t = sx_tg (sx_ty ci f) ∧ ((sx_cT ci f).2.2.2 = false ∨ mt.1.name = "<init>" ∧ (sx_cT ci f).1 = sx_rn own) := by simpa [sx_ok1] using hok
    obtain ⟨rfl, hh, ht, hfin⟩ := hl
    match t, ht, h with
    | 0, ht2, h2x =>
      clear h ht
      have h := h2x
      have ht := ht2
      simp only [sx_st] at h
      obtain ⟨v, r1, rfl, g1⟩ := sx_pI_el h
      obtain ⟨a, r, rfl, hlk, g2⟩ := sx_pA_el g1
      intro ls H locs hG hO
      exact sx_o_put hF hd hh hfin hlk (by rw [← ht]; rfl) (by rw [← ht]; exact sx_okS_hd hO) (hk _ _ _ g2) ls H locs hG hO
    | 1, ht2, h2x =>
      clear h ht
      have h := h2x
      have ht := ht2
      simp only [sx_st] at h
      obtain ⟨v, r1, rfl, g3⟩ := sx_pJ_el h
      obtain ⟨a, r, rfl, hlk, g4⟩ := sx_pA_el g3
      intro ls H locs hG hO
      exact sx_o_put hF hd hh hfin hlk (by rw [← ht]; rfl) (by rw [← ht]; exact sx_okS_hd hO) (hk _ _ _ g4) ls H locs hG hO
    | 2, ht2, h2x =>
      clear h ht
      have h := h2x
      have ht := ht2
      simp only [sx_st] at h
      obtain ⟨v, r1, rfl, g5⟩ := sx_pA_el h
      obtain ⟨a, r, rfl, hlk, g6⟩ := sx_pA_el g5
      intro ls H locs hG hO
      exact sx_o_put hF hd hh hfin hlk (by rw [← ht]; rfl) (by rw [← ht]; trivial) (hk _ _ _ g6) ls H locs hG hO
    | 3, ht2, h2x =>
      clear h ht
      have h := h2x
      have ht := ht2
      simp only [sx_st] at h
      obtain ⟨v, r1, rfl, g7⟩ := sx_pI_el h
      obtain ⟨a, r, rfl, hlk, hv, g8⟩ := sx_pA_el g7
      intro ls H locs hG hO
      exact sx_o_put hF hd hh hfin hlk (by rw [← ht]; rfl) (by rw [← ht]; exact hv) (hk _ _ _ g8) ls H locs hG hO
    | n + 4, ht2, h2x => exact h2x.elim
  | [], hok2, h2x => exact h2x.elim
  | [_], hok2, h2x => exact h2x.elim
  | [_, _], hok2, h2x => exact h2x.elim
  | _ :: _ :: _ :: _ :: _, hok2, h2x => simp [sx_ok1] at hok2
theorem sx_s_iaload  (hF : sx_Fx p s m args meth c R nc ns X own mt) {len : Nat} {w : List Nat} (hd : decode mt.2.1 pc = .ok (.iaload, len)) (hok : sx_ok1 own mt pc (len, .iaload, w) = true) {k : sx_K} (h : sx_st (sx_Run X) (len, .iaload, w) L st sh σ k) (hk : ∀ L st σ, k L st sh σ → sx_AT p e R s m args below meth c nc ns Q X mt.2.2.1 (pc + len) L st sh σ) : sx_AT p e R s m args below meth c nc ns Q X mt.2.2.1 pc L st sh σ := by
  have hF9 := hF
  obtain ⟨hx, hb, hml, hown, hts, hK, -⟩ := hF9
  simp only [sx_st] at h
  have hl : len = 1 := by simpa [sx_ok1] using hok
  subst hl
  obtain ⟨i, r1, rfl, g1⟩ := sx_pI_el h
  obtain ⟨a, r, rfl, hix, g2⟩ := sx_pA_el g1
  obtain ⟨n, h1, h2, h3⟩ := sx_ixe hix
  exact sx_o_iald hF hd h1 h2 h3 (hk _ _ _ g2)
theorem sx_s_laload  (hF : sx_Fx p s m args meth c R nc ns X own mt) {len : Nat} {w : List Nat} (hd : decode mt.2.1 pc = .ok (.laload, len)) (hok : sx_ok1 own mt pc (len, .laload, w) = true) {k : sx_K} (h : sx_st (sx_Run X) (len, .laload, w) L st sh σ k) (hk : ∀ L st σ, k L st sh σ → sx_AT p e R s m args below meth c nc ns Q X mt.2.2.1 (pc + len) L st sh σ) : sx_AT p e R s m args below meth c nc ns Q X mt.2.2.1 pc L st sh σ := by
  have hF9 := hF
  obtain ⟨hx, hb, hml, hown, hts, hK, -⟩ := hF9
  simp only [sx_st] at h
  have hl : len = 1 := by simpa [sx_ok1] using hok
  subst hl
  obtain ⟨i, r1, rfl, g1⟩ := sx_pI_el h
  obtain ⟨a, r, rfl, hix, g2⟩ := sx_pA_el g1
  obtain ⟨n, h1, h2, h3⟩ := sx_ixe hix
  exact sx_o_lald hF hd h1 h2 h3 (hk _ _ _ g2)
theorem sx_s_aaload  (hF : sx_Fx p s m args meth c R nc ns X own mt) {len : Nat} {w : List Nat} (hd : decode mt.2.1 pc = .ok (.aaload, len)) (hok : sx_ok1 own mt pc (len, .aaload, w) = true) {k : sx_K} (h : sx_st (sx_Run X) (len, .aaload, w) L st sh σ k) (hk : ∀ L st σ, k L st sh σ → sx_AT p e R s m args below meth c nc ns Q X mt.2.2.1 (pc + len) L st sh σ) : sx_AT p e R s m args below meth c nc ns Q X mt.2.2.1 pc L st sh σ := by
  have hF9 := hF
  obtain ⟨hx, hb, hml, hown, hts, hK, -⟩ := hF9
  simp only [sx_st] at h
  have hl : len = 1 := by simpa [sx_ok1] using hok
  subst hl
  obtain ⟨i, r1, rfl, g1⟩ := sx_pI_el h
  obtain ⟨a, r, rfl, hix, g2⟩ := sx_pA_el g1
  obtain ⟨n, h1, h2, h3⟩ := sx_ixe hix
  exact sx_o_aald hF hd h1 h2 h3 (hk _ _ _ g2)
theorem sx_s_baload  (hF : sx_Fx p s m args meth c R nc ns X own mt) {len : Nat} {w : List Nat} (hd : decode mt.2.1 pc = .ok (.baload, len)) (hok : sx_ok1 own mt pc (len, .baload, w) = true) {k : sx_K} (h : sx_st (sx_Run X) (len, .baload, w) L st sh σ k) (hk : ∀ L st σ, k L st sh σ → sx_AT p e R s m args below meth c nc ns Q X mt.2.2.1 (pc + len) L st sh σ) : sx_AT p e R s m args below meth c nc ns Q X mt.2.2.1 pc L st sh σ := by
  have hl : len = 1 := by simpa [sx_ok1] using hok
  subst hl
  match w, h with
  | [t], h2x =>
    clear h
    have h := h2x
    simp only [sx_st] at h
    obtain ⟨ht, g1⟩ := h
    obtain ⟨i, r1, rfl, g2⟩ := sx_pI_el g1
    obtain ⟨a, r, rfl, hix, g3⟩ := sx_pA_el g2
    obtain ⟨n, h1, h2, h3⟩ := sx_ixe hix
    exact sx_o_bald hF hd ht h1 h2 h3 (hk _ _ _ g3)
  | [], h2x => exact h2x.elim
  | _ :: _ :: _, h2x => exact h2x.elim
theorem sx_s_iastore  (hF : sx_Fx p s m args meth c R nc ns X own mt) {len : Nat} {w : List Nat} (hd : decode mt.2.1 pc = .ok (.iastore, len)) (hok : sx_ok1 own mt pc (len, .iastore, w) = true) {k : sx_K} (h : sx_st (sx_Run X) (len, .iastore, w) L st sh σ k) (hk : ∀ L st σ, k L st sh σ → sx_AT p e R s m args below meth c nc ns Q X mt.2.2.1 (pc + len) L st sh σ) : sx_AT p e R s m args below meth c nc ns Q X mt.2.2.1 pc L st sh σ := by
  have hF9 := hF
  obtain ⟨hx, hb, hml, hown, hts, hK, -⟩ := hF9
  simp only [sx_st] at h
  have hl : len = 1 := by simpa [sx_ok1] using hok
  subst hl
  obtain ⟨v, r2, rfl, g1⟩ := sx_pI_el h
  obtain ⟨i, r1, rfl, g2⟩ := sx_pI_el g1
  obtain ⟨a, r, rfl, hix, g3⟩ := sx_pA_el g2
  obtain ⟨n, h1, h2, h3⟩ := sx_ixe hix
  exact sx_o_iast hF hd h1 h2 h3 (hk _ _ _ g3)
theorem sx_s_lastore  (hF : sx_Fx p s m args meth c R nc ns X own mt) {len : Nat} {w : List Nat} (hd : decode mt.2.1 pc = .ok (.lastore, len)) (hok : sx_ok1 own mt pc (len, .lastore, w) = true) {k : sx_K} (h : sx_st (sx_Run X) (len, .lastore, w) L st sh σ k) (hk : ∀ L st σ, k L st sh σ → sx_AT p e R s m args below meth c nc ns Q X mt.2.2.1 (pc + len) L st sh σ) : sx_AT p e R s m args below meth c nc ns Q X mt.2.2.1 pc L st sh σ := by
  have hF9 := hF
  obtain ⟨hx, hb, hml, hown, hts, hK, -⟩ := hF9
  simp only [sx_st] at h
  have hl : len = 1 := by simpa [sx_ok1] using hok
  subst hl
  obtain ⟨v, r2, rfl, g1⟩ := sx_pJ_el h
  obtain ⟨i, r1, rfl, g2⟩ := sx_pI_el g1
  obtain ⟨a, r, rfl, hix, g3⟩ := sx_pA_el g2
  obtain ⟨n, h1, h2, h3⟩ := sx_ixe hix
  exact sx_o_last hF hd h1 h2 h3 (hk _ _ _ g3)
theorem sx_s_bastore  (hF : sx_Fx p s m args meth c R nc ns X own mt) {len : Nat} {w : List Nat} (hd : decode mt.2.1 pc = .ok (.bastore, len)) (hok : sx_ok1 own mt pc (len, .bastore, w) = true) {k : sx_K} (h : sx_st (sx_Run X) (len, .bastore, w) L st sh σ k) (hk : ∀ L st σ, k L st sh σ → sx_AT p e R s m args below meth c nc ns Q X mt.2.2.1 (pc + len) L st sh σ) : sx_AT p e R s m args below meth c nc ns Q X mt.2.2.1 pc L st sh σ := by
  have hl : len = 1 := by simpa [sx_ok1] using hok
  subst hl
  match w, h with
  | [3], h2x =>
    clear h
    have h := h2x
    simp only [sx_st] at h
    obtain ⟨v, r2, rfl, g1⟩ := sx_pI_el h
    obtain ⟨i, r1, rfl, g2⟩ := sx_pI_el g1
    obtain ⟨a, r, rfl, hix, hv, g3⟩ := sx_pA_el g2
    obtain ⟨n, h1, h2, h3⟩ := sx_ixe hix
    exact sx_o_bast hF hd h1 h2 h3 hv (hk _ _ _ g3)
  | [4], h2x =>
    clear h
    have h := h2x
    simp only [sx_st] at h
    obtain ⟨v, r2, rfl, g4⟩ := sx_pI_el h
    obtain ⟨i, r1, rfl, g5⟩ := sx_pI_el g4
    obtain ⟨a, r, rfl, hix, hv, g6⟩ := sx_pA_el g5
    obtain ⟨n, h1, h2, h3⟩ := sx_ixe hix
    exact sx_o_zast hF hd h1 h2 h3 hv (hk _ _ _ g6)
  | [], h2x => exact h2x.elim
  | [0], h2x => exact h2x.elim
  | [1], h2x => exact h2x.elim
  | [2], h2x => exact h2x.elim
  | [n + 5], h2x => exact h2x.elim
  | _ :: _ :: _, h2x => simp [sx_st] at h2x
theorem sx_s_arraylength  (hF : sx_Fx p s m args meth c R nc ns X own mt) {len : Nat} {w : List Nat} (hd : decode mt.2.1 pc = .ok (.arraylength, len)) (hok : sx_ok1 own mt pc (len, .arraylength, w) = true) {k : sx_K} (h : sx_st (sx_Run X) (len, .arraylength, w) L st sh σ k) (hk : ∀ L st σ, k L st sh σ → sx_AT p e R s m args below meth c nc ns Q X mt.2.2.1 (pc + len) L st sh σ) : sx_AT p e R s m args below meth c nc ns Q X mt.2.2.1 pc L st sh σ := by
  have hF9 := hF
  obtain ⟨hx, hb, hml, hown, hts, hK, -⟩ := hF9
  simp only [sx_st] at h
  have hl : len = 1 := by simpa [sx_ok1] using hok
  subst hl
  obtain ⟨a, r, rfl, ht, g1⟩ := sx_pA_el h
  exact sx_o_alen hF hd (n := (sx_lk sh a).2) rfl ht (hk _ _ _ g1)
theorem sx_s_invokevirtual {i : Nat} (hF : sx_Fx p s m args meth c R nc ns X own mt) {len : Nat} {w : List Nat} (hd : decode mt.2.1 pc = .ok (.invokevirtual i, len)) (hok : sx_ok1 own mt pc (len, .invokevirtual i, w) = true) {k : sx_K} (h : sx_st (sx_Run X) (len, .invokevirtual i, w) L st sh σ k) (hk : ∀ L st σ, k L st sh σ → sx_AT p e R s m args below meth c nc ns Q X mt.2.2.1 (pc + len) L st sh σ) : sx_AT p e R s m args below meth c nc ns Q X mt.2.2.1 pc L st sh σ := by
  match w, hok, h with
  | [0, q, n, ci], hok2, h2x =>
    clear h hok
    have h := h2x
    have hok := hok2
    simp only [sx_st, sx_call] at h
    have hl : len = 3 ∧ sx_okc own mt i 0 q n = true ∧ sx_rn ci = (sx_M q).1.cls ∧ ci < 13 := by simpa [sx_ok1] using hok
    obtain ⟨rfl, hh, hcn, hci⟩ := hl
    obtain ⟨h1, h2, h3, h4⟩ := h
    exact sx_o_callV hF hd hh hcn hci h1 h2 h3 h4 (fun r σ' hr => hk _ _ _ hr)
  | [], hok2, h2x => simp [sx_ok1] at hok2
  | [_], hok2, h2x => simp [sx_ok1] at hok2
  | [_, _], hok2, h2x => simp [sx_ok1] at hok2
  | [_, _, _], hok2, h2x => simp [sx_ok1] at hok2
  | [a + 1, _, _, _], hok2, h2x => simp [sx_ok1] at hok2
  | _ :: _ :: _ :: _ :: _ :: _, hok2, h2x => simp [sx_ok1] at hok2
theorem sx_b_max {x y : Int} {idx : Nat} (hF : sx_Fx p s m args meth c R nc ns X own mt) (hd : decode mt.2.1 pc = .ok (.invokestatic idx, 3)) (hl : sx_has4 sx_bl own idx 0 = true) (hfr : 1 ≤ mt.2.2.2.2.1) (hlo : 24 ≤ mt.2.2.2.2.2.1) (hcat : sx_cat st ≤ 8) (h : sx_AT p e R s m args below meth c nc ns Q X mt.2.2.1 (pc + 3) L (.inl (if x < y then y else x) :: st) sh σ) : sx_AT p e R s m args below meth c nc ns Q X mt.2.2.1 pc L (.inl (y) :: .inl (x) :: st) sh σ := by
  obtain ⟨hx, hb, hml, hown, hts, hK, -, -, -, hRf, hRl, hnc, -⟩ := hF
  obtain ⟨pl, hpl⟩ := sx_has4_el hl
  have hlk : Cond.methodLink (sx_rn own) idx (sx_bn 0) ∈ sx_TB := sx_words (of_decide_eq_true (List.all_eq_true.mp sx_blok _ hpl)) rfl
  have hg : ∀ {w : Cond}, w ∈ lw_tbl → goodWord w = true → w.before args s = true := fun h1 h2 => hts _ (List.mem_filter.mpr ⟨h1, h2⟩)
  intro ls H locs hG hO
  have hyr : sx_r32 y := sx_okS_hd hO
  have hxr : sx_r32 x := sx_okS_hd (sx_okS_tl hO)
  have key := h ls H locs hG (sx_okS_cons (show sx_r32 (if x < y then y else x) by split <;> assumption) (sx_okS_tl (sx_okS_tl hO)))
  have hcs := sx_catS (ad := X.2.2.2.2.1) st
  have e9 : Int32.ofInt (if x < y then y else x) = if Int32.ofInt x < Int32.ofInt y then Int32.ofInt y else Int32.ofInt x := by
    by_cases q : (x < y)
    · rw [if_pos q, if_pos ((sx_ilt hxr hyr).mpr q)]
    · rw [if_neg q, if_neg (fun z => q ((sx_ilt hxr hyr).mp z))]
  refine va_mmax hx hb (hml.trans hG.2.1.1.symm) hown (hts _ hlk) (hg sx_bs0 rfl) (hg sx_bi0 rfl) (hg sx_bc0 rfl) (by omega) (by omega) hnc.1 hnc.2 hd ?_
  rw [← e9]
  exact key
theorem sx_b_min {x y : Int} {idx : Nat} (hF : sx_Fx p s m args meth c R nc ns X own mt) (hd : decode mt.2.1 pc = .ok (.invokestatic idx, 3)) (hl : sx_has4 sx_bl own idx 1 = true) (hfr : 1 ≤ mt.2.2.2.2.1) (hlo : 24 ≤ mt.2.2.2.2.2.1) (hcat : sx_cat st ≤ 8) (h : sx_AT p e R s m args below meth c nc ns Q X mt.2.2.1 (pc + 3) L (.inl (if y < x then y else x) :: st) sh σ) : sx_AT p e R s m args below meth c nc ns Q X mt.2.2.1 pc L (.inl (y) :: .inl (x) :: st) sh σ := by
  obtain ⟨hx, hb, hml, hown, hts, hK, -, -, -, hRf, hRl, hnc, -⟩ := hF
  obtain ⟨pl, hpl⟩ := sx_has4_el hl
  have hlk : Cond.methodLink (sx_rn own) idx (sx_bn 1) ∈ sx_TB := sx_words (of_decide_eq_true (List.all_eq_true.mp sx_blok _ hpl)) rfl
  have hg : ∀ {w : Cond}, w ∈ lw_tbl → goodWord w = true → w.before args s = true := fun h1 h2 => hts _ (List.mem_filter.mpr ⟨h1, h2⟩)
  intro ls H locs hG hO
  have hyr : sx_r32 y := sx_okS_hd hO
  have hxr : sx_r32 x := sx_okS_hd (sx_okS_tl hO)
  have key := h ls H locs hG (sx_okS_cons (show sx_r32 (if y < x then y else x) by split <;> assumption) (sx_okS_tl (sx_okS_tl hO)))
  have hcs := sx_catS (ad := X.2.2.2.2.1) st
  have e9 : Int32.ofInt (if y < x then y else x) = if Int32.ofInt y < Int32.ofInt x then Int32.ofInt y else Int32.ofInt x := by
    by_cases q : (y < x)
    · rw [if_pos q, if_pos ((sx_ilt hyr hxr).mpr q)]
    · rw [if_neg q, if_neg (fun z => q ((sx_ilt hyr hxr).mp z))]
  refine va_mmin hx hb (hml.trans hG.2.1.1.symm) hown (hts _ hlk) (hg sx_bs1 rfl) (hg sx_bi0 rfl) (hg sx_bc1 rfl) (by omega) (by omega) hnc.1 hnc.2 hd ?_
  rw [← e9]
  exact key
theorem sx_b_abs {x : Int} {idx : Nat} (hF : sx_Fx p s m args meth c R nc ns X own mt) (hd : decode mt.2.1 pc = .ok (.invokestatic idx, 3)) (hl : sx_has4 sx_bl own idx 2 = true) (hfr : 1 ≤ mt.2.2.2.2.1) (hlo : 24 ≤ mt.2.2.2.2.2.1) (hcat : sx_cat st ≤ 8) (hneg : sx_r32 (-x)) (h : sx_AT p e R s m args below meth c nc ns Q X mt.2.2.1 (pc + 3) L (.inl (if 0 < x then x else -x) :: st) sh σ) : sx_AT p e R s m args below meth c nc ns Q X mt.2.2.1 pc L (.inl (x) :: st) sh σ := by
  obtain ⟨hx, hb, hml, hown, hts, hK, -, -, -, hRf, hRl, hnc, -⟩ := hF
  obtain ⟨pl, hpl⟩ := sx_has4_el hl
  have hlk : Cond.methodLink (sx_rn own) idx (sx_bn 2) ∈ sx_TB := sx_words (of_decide_eq_true (List.all_eq_true.mp sx_blok _ hpl)) rfl
  have hg : ∀ {w : Cond}, w ∈ lw_tbl → goodWord w = true → w.before args s = true := fun h1 h2 => hts _ (List.mem_filter.mpr ⟨h1, h2⟩)
  intro ls H locs hG hO
  have hxr : sx_r32 x := sx_okS_hd hO
  have hz : sx_r32 0 := ⟨by omega, by omega⟩
  have key := h ls H locs hG (sx_okS_cons (show sx_r32 (if 0 < x then x else -x) by split <;> assumption) (sx_okS_tl hO))
  have hcs := sx_catS (ad := X.2.2.2.2.1) st
  have e9 : Int32.ofInt (if 0 < x then x else -x) = if 0 ≤ Int32.ofInt x then Int32.ofInt x else 0 - Int32.ofInt x := by
    by_cases q : 0 < x
    · rw [if_pos q, if_pos (show (0 : Int32) ≤ Int32.ofInt x from (sx_ile hz hxr).mpr (by omega))]
    · rw [if_neg q]
      by_cases q2 : x = 0
      · subst q2; rfl
      · rw [if_neg (show ¬ (0 : Int32) ≤ Int32.ofInt x from fun z => q (by have := (sx_ile hz hxr).mp z; omega)), show (-x : Int) = 0 - x by omega, Int32.ofInt_sub]; rfl
  refine va_mabs hx hb (hml.trans hG.2.1.1.symm) hown (hts _ hlk) (hg sx_bs2 rfl) (hg sx_bi0 rfl) (hg sx_bc2 rfl) (by omega) (by omega) hnc.1 hnc.2 hd ?_
  rw [← e9]
  exact key
theorem sx_b_maxl {x y : Int} {idx : Nat} (hF : sx_Fx p s m args meth c R nc ns X own mt) (hd : decode mt.2.1 pc = .ok (.invokestatic idx, 3)) (hl : sx_has4 sx_bl own idx 3 = true) (hfr : 1 ≤ mt.2.2.2.2.1) (hlo : 24 ≤ mt.2.2.2.2.2.1) (hcat : sx_cat st ≤ 8) (h : sx_AT p e R s m args below meth c nc ns Q X mt.2.2.1 (pc + 3) L (.inr (.inl (if x < y then y else x)) :: st) sh σ) : sx_AT p e R s m args below meth c nc ns Q X mt.2.2.1 pc L (.inr (.inl (y)) :: .inr (.inl (x)) :: st) sh σ := by
  obtain ⟨hx, hb, hml, hown, hts, hK, -, -, -, hRf, hRl, hnc, -⟩ := hF
  obtain ⟨pl, hpl⟩ := sx_has4_el hl
  have hlk : Cond.methodLink (sx_rn own) idx (sx_bn 3) ∈ sx_TB := sx_words (of_decide_eq_true (List.all_eq_true.mp sx_blok _ hpl)) rfl
  have hg : ∀ {w : Cond}, w ∈ lw_tbl → goodWord w = true → w.before args s = true := fun h1 h2 => hts _ (List.mem_filter.mpr ⟨h1, h2⟩)
  intro ls H locs hG hO
  have hyr : sx_r64 y := sx_okS_hd hO
  have hxr : sx_r64 x := sx_okS_hd (sx_okS_tl hO)
  have key := h ls H locs hG (sx_okS_cons (show sx_r64 (if x < y then y else x) by split <;> assumption) (sx_okS_tl (sx_okS_tl hO)))
  have hcs := sx_catS (ad := X.2.2.2.2.1) st
  have e9 : Int64.ofInt (if x < y then y else x) = if Int64.ofInt y < Int64.ofInt x then Int64.ofInt x else Int64.ofInt y := by
    by_cases q : y < x
    · rw [if_neg (by omega), if_pos ((sx_jlt hyr hxr).mpr q)]
    · rw [if_neg (fun z => q ((sx_jlt hyr hxr).mp z))]
      by_cases q2 : x < y
      · rw [if_pos q2]
      · rw [if_neg q2, show x = y by omega]
  refine va_mmax_long hx hb (hml.trans hG.2.1.1.symm) hown (hts _ hlk) (hg sx_bs3 rfl) (hg sx_bi0 rfl) (hg sx_bc3 rfl) (by omega) (by omega) hnc.1 hnc.2 hd ?_
  rw [← e9]
  exact key
theorem sx_b_minl {x y : Int} {idx : Nat} (hF : sx_Fx p s m args meth c R nc ns X own mt) (hd : decode mt.2.1 pc = .ok (.invokestatic idx, 3)) (hl : sx_has4 sx_bl own idx 4 = true) (hfr : 1 ≤ mt.2.2.2.2.1) (hlo : 24 ≤ mt.2.2.2.2.2.1) (hcat : sx_cat st ≤ 8) (h : sx_AT p e R s m args below meth c nc ns Q X mt.2.2.1 (pc + 3) L (.inr (.inl (if y < x then y else x)) :: st) sh σ) : sx_AT p e R s m args below meth c nc ns Q X mt.2.2.1 pc L (.inr (.inl (y)) :: .inr (.inl (x)) :: st) sh σ := by
  obtain ⟨hx, hb, hml, hown, hts, hK, -, -, -, hRf, hRl, hnc, -⟩ := hF
  obtain ⟨pl, hpl⟩ := sx_has4_el hl
  have hlk : Cond.methodLink (sx_rn own) idx (sx_bn 4) ∈ sx_TB := sx_words (of_decide_eq_true (List.all_eq_true.mp sx_blok _ hpl)) rfl
  have hg : ∀ {w : Cond}, w ∈ lw_tbl → goodWord w = true → w.before args s = true := fun h1 h2 => hts _ (List.mem_filter.mpr ⟨h1, h2⟩)
  intro ls H locs hG hO
  have hyr : sx_r64 y := sx_okS_hd hO
  have hxr : sx_r64 x := sx_okS_hd (sx_okS_tl hO)
  have key := h ls H locs hG (sx_okS_cons (show sx_r64 (if y < x then y else x) by split <;> assumption) (sx_okS_tl (sx_okS_tl hO)))
  have hcs := sx_catS (ad := X.2.2.2.2.1) st
  have e9 : Int64.ofInt (if y < x then y else x) = if Int64.ofInt y < Int64.ofInt x then Int64.ofInt y else Int64.ofInt x := by
    by_cases q : (y < x)
    · rw [if_pos q, if_pos ((sx_jlt hyr hxr).mpr q)]
    · rw [if_neg q, if_neg (fun z => q ((sx_jlt hyr hxr).mp z))]
  refine va_mmin_long hx hb (hml.trans hG.2.1.1.symm) hown (hts _ hlk) (hg sx_bs4 rfl) (hg sx_bi0 rfl) (hg sx_bc4 rfl) (by omega) (by omega) hnc.1 hnc.2 hd ?_
  rw [← e9]
  exact key
theorem sx_b_absl {x : Int} {idx : Nat} (hF : sx_Fx p s m args meth c R nc ns X own mt) (hd : decode mt.2.1 pc = .ok (.invokestatic idx, 3)) (hl : sx_has4 sx_bl own idx 5 = true) (hfr : 1 ≤ mt.2.2.2.2.1) (hlo : 24 ≤ mt.2.2.2.2.2.1) (hcat : sx_cat st ≤ 8) (hneg : sx_r64 (-x)) (h : sx_AT p e R s m args below meth c nc ns Q X mt.2.2.1 (pc + 3) L (.inr (.inl (if 0 < x then x else -x)) :: st) sh σ) : sx_AT p e R s m args below meth c nc ns Q X mt.2.2.1 pc L (.inr (.inl (x)) :: st) sh σ := by
  obtain ⟨hx, hb, hml, hown, hts, hK, -, -, -, hRf, hRl, hnc, -⟩ := hF
  obtain ⟨pl, hpl⟩ := sx_has4_el hl
  have hlk : Cond.methodLink (sx_rn own) idx (sx_bn 5) ∈ sx_TB := sx_words (of_decide_eq_true (List.all_eq_true.mp sx_blok _ hpl)) rfl
  have hg : ∀ {w : Cond}, w ∈ lw_tbl → goodWord w = true → w.before args s = true := fun h1 h2 => hts _ (List.mem_filter.mpr ⟨h1, h2⟩)
  intro ls H locs hG hO
  have hxr : sx_r64 x := sx_okS_hd hO
  have hz : sx_r64 0 := ⟨by omega, by omega⟩
  have key := h ls H locs hG (sx_okS_cons (show sx_r64 (if 0 < x then x else -x) by split <;> assumption) (sx_okS_tl hO))
  have hcs := sx_catS (ad := X.2.2.2.2.1) st
  have e9 : Int64.ofInt (if 0 < x then x else -x) = if 0 < Int64.ofInt x then Int64.ofInt x else -Int64.ofInt x := by
    by_cases q : 0 < x
    · rw [if_pos q, if_pos (show (0 : Int64) < Int64.ofInt x from (sx_jlt hz hxr).mpr q)]
    · rw [if_neg q, if_neg (show ¬ (0 : Int64) < Int64.ofInt x from fun z => q ((sx_jlt hz hxr).mp z)), Int64.ofInt_neg]
  refine va_mabs_long hx hb (hml.trans hG.2.1.1.symm) hown (hts _ hlk) (hg sx_bs5 rfl) (hg sx_bi0 rfl) (hg sx_bc5 rfl) (by omega) (by omega) hnc.1 hnc.2 hd ?_
  rw [← e9]
  exact key
end SXD
