/-! SOUNDNESS: stores into arrays, lengths, copies -/
theorem sx_up_arrJ {f : Int → Int} {i v : Int} (h0 : 0 ≤ i) : (fun j : Nat => Int64.ofInt (if (j : Int) = i then v else f (j : Int))) = vp_updL (fun j : Nat => Int64.ofInt (f (j : Int))) i.toNat (Int64.ofInt v) := by
  funext j
  unfold vp_updL
  by_cases e : j = i.toNat
  · rw [if_pos e, if_pos (by omega)]
  · rw [if_neg e, if_neg (by omega)]
theorem sx_all_up {f : Int → Int} {P : Int → Prop} {i v : Int} (h : ∀ k, P (f k)) (hv : P v) : ∀ k, P (if k = i then v else f k) := by
  intro k
  split
  · exact hv
  · exact h k
theorem sx_b8r {v : Int} (h : -128 ≤ v ∧ v ≤ 127) : vp_nar .byte (Int32.ofInt v) = Int32.ofInt v := by
  rw [vp_nar_byte]
  apply Int32.toInt_inj.mp
  have hr : sx_r32 v := ⟨by omega, by omega⟩
  simp only [Int8.toInt_toInt32, Int32.toInt_toInt8, sx_ti hr]
  rw [Int.bmod_eq_of_le (by omega) (by omega)]
section SXU
variable {p : Program} {e : Env} {R : Room} {s : State} {m : MethodId} {args : Array Value} {below : List Frame} {meth : Method} {c : Code} {nc ns : Nat} {Q : State → Prop} {X : sx_X} {own : Nat} {mt : sx_Mt}
variable {L : sx_L} {st : List sx_V} {sh : sx_H} {σ : sx_S} {pc : Nat}
theorem sx_o_iast {nL n : Nat} {a i v : Int} (hF : sx_Fx p s m args meth c R nc ns X own mt) (hd : decode mt.2.1 pc = .ok (.iastore, 1)) (ha : sx_lk sh a = (1, n)) (h0 : 0 ≤ i) (h1 : i < (n : Int))
    (h : sx_AT p e R s m args below meth c nc ns Q X nL (pc + 1) L st sh (sx_up σ a i v)) : sx_AT p e R s m args below meth c nc ns Q X nL pc L (.inl v :: .inl i :: .inr (.inr a) :: st) sh σ := by
  obtain ⟨hx, hb, hml, hown, hts, hK, -⟩ := hF
  intro ls H locs hG hO
  obtain ⟨⟨hlen, hwf, hP, hD⟩, hlv, hLl, hLo, hS⟩ := hG
  obtain ⟨hat, hlt, ea, ha0, hsh⟩ := sx_ent_at (X := X) (σ := σ) ha (by omega)
  have hrv : sx_r32 v := sx_okS_hd hO
  have hri : sx_r32 i := sx_okS_hd (sx_okS_tl hO)
  have hok := hwf _ hlt
  rw [hsh, ea] at hok
  show W p X.1 e R s m args below meth c H locs nc ns Q (F0 m pc ls (.int (Int32.ofInt v) :: .int (Int32.ofInt i) :: sx_tv X.2.2.2.2.1 (.inr (.inr a)) :: st.map (sx_tv X.2.2.2.2.1)))
  rw [sx_tv_ref ha0]
  refine va_iast hx hb hK hP hD hS a.toNat 1 hat rfl (sx_in hri h0 h1) hd ?_
  intro H1 locs1 hP1 hD1 hS1
  rw [sx_cl hri h0] at hP1 hD1
  have hset : (.inl (X.2.2.1 1, n, .inl (upd (fun j : Nat => Int32.ofInt (σ a (j : Int))) i.toNat (Int32.ofInt v))) : va_E) = sx_ce X (1, n) (sx_up σ a i v a) := by
    rw [sx_up_self]
    show _ = (.inl (X.2.2.1 1, n, .inl fun j : Nat => Int32.ofInt (if (j : Int) = i then v else σ a (j : Int))) : va_E)
    rw [sx_up_arr Int32.ofInt h0 (Int32.ofInt v) rfl]
  exact h ls H1 locs1 ⟨sx_sim_up hlen hwf ha (by omega) hset (by rw [sx_up_self]; exact ⟨hok.1, sx_all_up hok.2 hrv⟩) hP1 hD1, hlv, hLl, hLo, hS1⟩ (sx_okS_tl (sx_okS_tl (sx_okS_tl hO)))
theorem sx_o_last {nL n : Nat} {a i v : Int} (hF : sx_Fx p s m args meth c R nc ns X own mt) (hd : decode mt.2.1 pc = .ok (.lastore, 1)) (ha : sx_lk sh a = (2, n)) (h0 : 0 ≤ i) (h1 : i < (n : Int))
    (h : sx_AT p e R s m args below meth c nc ns Q X nL (pc + 1) L st sh (sx_up σ a i v)) : sx_AT p e R s m args below meth c nc ns Q X nL pc L (.inr (.inl v) :: .inl i :: .inr (.inr a) :: st) sh σ := by
  obtain ⟨hx, hb, hml, hown, hts, hK, -⟩ := hF
  intro ls H locs hG hO
  obtain ⟨⟨hlen, hwf, hP, hD⟩, hlv, hLl, hLo, hS⟩ := hG
  obtain ⟨hat, hlt, ea, ha0, hsh⟩ := sx_ent_at (X := X) (σ := σ) ha (by omega)
  have hrv : sx_r64 v := sx_okS_hd hO
  have hri : sx_r32 i := sx_okS_hd (sx_okS_tl hO)
  have hok := hwf _ hlt
  rw [hsh, ea] at hok
  show W p X.1 e R s m args below meth c H locs nc ns Q (F0 m pc ls (.long (Int64.ofInt v) :: .int (Int32.ofInt i) :: sx_tv X.2.2.2.2.1 (.inr (.inr a)) :: st.map (sx_tv X.2.2.2.2.1)))
  rw [sx_tv_ref ha0]
  refine va_last hx hb hK hP hD hS a.toNat 2 hat rfl (sx_in hri h0 h1) hd ?_
  intro H1 locs1 hP1 hD1 hS1
  rw [sx_cl hri h0] at hP1 hD1
  have hset : (.inl (X.2.2.1 2, n, .inr (.inl (vp_updL (fun j : Nat => Int64.ofInt (σ a (j : Int))) i.toNat (Int64.ofInt v)))) : va_E) = sx_ce X (2, n) (sx_up σ a i v a) := by
    rw [sx_up_self]
    show _ = (.inl (X.2.2.1 2, n, .inr (.inl fun j : Nat => Int64.ofInt (if (j : Int) = i then v else σ a (j : Int)))) : va_E)
    rw [sx_up_arrJ h0]
  exact h ls H1 locs1 ⟨sx_sim_up hlen hwf ha (by omega) hset (by rw [sx_up_self]; exact ⟨hok.1, sx_all_up hok.2 hrv⟩) hP1 hD1, hlv, hLl, hLo, hS1⟩ (sx_okS_tl (sx_okS_tl (sx_okS_tl hO)))
theorem sx_o_bast {nL n : Nat} {a i v : Int} (hF : sx_Fx p s m args meth c R nc ns X own mt) (hd : decode mt.2.1 pc = .ok (.bastore, 1)) (ha : sx_lk sh a = (3, n)) (h0 : 0 ≤ i) (h1 : i < (n : Int)) (hv : -128 ≤ v ∧ v ≤ 127)
    (h : sx_AT p e R s m args below meth c nc ns Q X nL (pc + 1) L st sh (sx_up σ a i v)) : sx_AT p e R s m args below meth c nc ns Q X nL pc L (.inl v :: .inl i :: .inr (.inr a) :: st) sh σ := by
  obtain ⟨hx, hb, hml, hown, hts, hK, -⟩ := hF
  intro ls H locs hG hO
  obtain ⟨⟨hlen, hwf, hP, hD⟩, hlv, hLl, hLo, hS⟩ := hG
  obtain ⟨hat, hlt, ea, ha0, hsh⟩ := sx_ent_at (X := X) (σ := σ) ha (by omega)
  have hri : sx_r32 i := sx_okS_hd (sx_okS_tl hO)
  have hok := hwf _ hlt
  rw [hsh, ea] at hok
  show W p X.1 e R s m args below meth c H locs nc ns Q (F0 m pc ls (.int (Int32.ofInt v) :: .int (Int32.ofInt i) :: sx_tv X.2.2.2.2.1 (.inr (.inr a)) :: st.map (sx_tv X.2.2.2.2.1)))
  rw [sx_tv_ref ha0]
  refine va_bast hx hb hK hP hD hS a.toNat 3 hat rfl (sx_in hri h0 h1) hd ?_
  intro H1 locs1 hP1 hD1 hS1
  rw [sx_cl hri h0, sx_b8r hv] at hP1 hD1
  have hset : (.inl (X.2.2.1 3, n, .inl (upd (fun j : Nat => Int32.ofInt (σ a (j : Int))) i.toNat (Int32.ofInt v))) : va_E) = sx_ce X (3, n) (sx_up σ a i v a) := by
    rw [sx_up_self]
    show _ = (.inl (X.2.2.1 3, n, .inl fun j : Nat => Int32.ofInt (if (j : Int) = i then v else σ a (j : Int))) : va_E)
    rw [sx_up_arr Int32.ofInt h0 (Int32.ofInt v) rfl]
  exact h ls H1 locs1 ⟨sx_sim_up hlen hwf ha (by omega) hset (by rw [sx_up_self]; exact ⟨hok.1, sx_all_up (P := fun x => -128 ≤ x ∧ x ≤ 127) hok.2 hv⟩) hP1 hD1, hlv, hLl, hLo, hS1⟩ (sx_okS_tl (sx_okS_tl (sx_okS_tl hO)))
theorem sx_o_zast {nL n : Nat} {a i v : Int} (hF : sx_Fx p s m args meth c R nc ns X own mt) (hd : decode mt.2.1 pc = .ok (.bastore, 1)) (ha : sx_lk sh a = (4, n)) (h0 : 0 ≤ i) (h1 : i < (n : Int)) (hv : v = 0 ∨ v = 1)
    (h : sx_AT p e R s m args below meth c nc ns Q X nL (pc + 1) L st sh (sx_up σ a i v)) : sx_AT p e R s m args below meth c nc ns Q X nL pc L (.inl v :: .inl i :: .inr (.inr a) :: st) sh σ := by
  obtain ⟨hx, hb, hml, hown, hts, hK, -⟩ := hF
  intro ls H locs hG hO
  obtain ⟨⟨hlen, hwf, hP, hD⟩, hlv, hLl, hLo, hS⟩ := hG
  obtain ⟨hat, hlt, ea, ha0, hsh⟩ := sx_ent_at (X := X) (σ := σ) ha (by omega)
  have hri : sx_r32 i := sx_okS_hd (sx_okS_tl hO)
  have hok := hwf _ hlt
  rw [hsh, ea] at hok
  have hn : vp_nar .boolean (Int32.ofInt v) = Int32.ofInt v := by rcases hv with rfl | rfl <;> rfl
  show W p X.1 e R s m args below meth c H locs nc ns Q (F0 m pc ls (.int (Int32.ofInt v) :: .int (Int32.ofInt i) :: sx_tv X.2.2.2.2.1 (.inr (.inr a)) :: st.map (sx_tv X.2.2.2.2.1)))
  rw [sx_tv_ref ha0]
  refine va_zast hx hb hK hP hD hS a.toNat 4 hat rfl (sx_in hri h0 h1) hd ?_
  intro H1 locs1 hP1 hD1 hS1
  rw [sx_cl hri h0, hn] at hP1 hD1
  have hset : (.inl (X.2.2.1 4, n, .inl (upd (fun j : Nat => Int32.ofInt (σ a (j : Int))) i.toNat (Int32.ofInt v))) : va_E) = sx_ce X (4, n) (sx_up σ a i v a) := by
    rw [sx_up_self]
    show _ = (.inl (X.2.2.1 4, n, .inl fun j : Nat => Int32.ofInt (if (j : Int) = i then v else σ a (j : Int))) : va_E)
    rw [sx_up_arr Int32.ofInt h0 (Int32.ofInt v) rfl]
  exact h ls H1 locs1 ⟨sx_sim_up hlen hwf ha (by omega) hset (by rw [sx_up_self]; exact ⟨hok.1, sx_all_up (P := fun x => x = 0 ∨ x = 1) hok.2 hv⟩) hP1 hD1, hlv, hLl, hLo, hS1⟩ (sx_okS_tl (sx_okS_tl (sx_okS_tl hO)))
theorem sx_o_alen {nL n t : Nat} {a : Int} (hF : sx_Fx p s m args meth c R nc ns X own mt) (hd : decode mt.2.1 pc = .ok (.arraylength, 1)) (ha : sx_lk sh a = (t, n)) (ht : 1 ≤ t ∧ t ≤ 5)
    (h : sx_AT p e R s m args below meth c nc ns Q X nL (pc + 1) L (.inl (n : Int) :: st) sh σ) : sx_AT p e R s m args below meth c nc ns Q X nL pc L (.inr (.inr a) :: st) sh σ := by
  obtain ⟨hx, hb, hml, hown, hts, hK, -⟩ := hF
  intro ls H locs hG hO
  have hG' := hG
  obtain ⟨⟨hlen, hwf, hP, hD⟩, -⟩ := hG'
  obtain ⟨hat, hlt, ea, ha0, hsh⟩ := sx_ent_at (X := X) (σ := σ) ha (by omega)
  have hok := hwf _ hlt
  rw [hsh, ea] at hok
  show W p X.1 e R s m args below meth c H locs nc ns Q (F0 m pc ls (sx_tv X.2.2.2.2.1 (.inr (.inr a)) :: st.map (sx_tv X.2.2.2.2.1)))
  rw [sx_tv_ref ha0]
  have hnn : n < 2147483648 := by
    have : t = 1 ∨ t = 2 ∨ t = 3 ∨ t = 4 ∨ t = 5 := by omega
    rcases this with rfl | rfl | rfl | rfl | rfl
    · exact hok.1
    · exact hok.1
    · exact hok.1
    · exact hok.1
    · exact hok
  have k := h ls H locs hG (sx_okS_cons (show sx_r32 _ from ⟨by omega, by omega⟩) (sx_okS_tl hO))
  have ev : Int32.ofNat n = Int32.ofInt (n : Int) := (Int32.ofInt_eq_ofNat (n := n)).symm
  have : t = 1 ∨ t = 2 ∨ t = 3 ∨ t = 4 ∨ t = 5 := by omega
  rcases this with rfl | rfl | rfl | rfl | rfl
  · exact va_alen hx hb hK hP a.toNat 1 hat rfl ev hd k
  · exact va_alen hx hb hK hP a.toNat 2 hat rfl ev hd k
  · exact va_alen hx hb hK hP a.toNat 3 hat rfl ev hd k
  · exact va_alen hx hb hK hP a.toNat 4 hat rfl ev hd k
  · exact va_alen hx hb hK hP a.toNat 5 hat rfl ev hd k
theorem sx_catS {ad : List Nat} : ∀ st : List sx_V, ((st.map (sx_tv ad)).map fun v => v.category).sum = sx_cat st
  | [] => rfl
  | .inl x :: r => by simp only [List.map_cons, List.sum_cons, sx_catS r]; rfl
  | .inr (.inl x) :: r => by simp only [List.map_cons, List.sum_cons, sx_catS r]; rfl
  | .inr (.inr x) :: r => by
    simp only [List.map_cons, List.sum_cons, sx_catS r]
    show (if x < 0 then Value.null else Value.ref (ad.getD x.toNat 0)).category + _ = 1 + _
    split <;> rfl
theorem sx_o_copy {idx : Nat} {a b i j n : Int} (hF : sx_Fx p s m args meth c R nc ns X own mt) (hd : decode mt.2.1 pc = .ok (.invokestatic idx, 3)) (hl : sx_has4 sx_bl own idx 6 = true) (hfr : 1 ≤ mt.2.2.2.2.1) (hlo : 8 + (nativeFrameWords "java/lang/System" "arraycopy" 5 + 11) ≤ mt.2.2.2.2.2.1) (hcat : sx_cat st ≤ 8)
    (ha : (sx_lk sh a).1 = 1) (hb2 : (sx_lk sh b).1 = 1) (hi : 0 ≤ i) (hj : 0 ≤ j) (hn : 0 ≤ n) (hin : i + n ≤ ((sx_lk sh a).2 : Int)) (hjn : j + n ≤ ((sx_lk sh b).2 : Int))
    (h : sx_AT p e R s m args below meth c nc ns Q X mt.2.2.1 (pc + 3) L st sh (sx_cp σ a i b j n)) : sx_AT p e R s m args below meth c nc ns Q X mt.2.2.1 pc L (.inl n :: .inl j :: .inr (.inr b) :: .inl i :: .inr (.inr a) :: st) sh σ := by
  obtain ⟨hx, hb, hml, hown, hts, hK, -, -, -, hRf, hRl, -⟩ := hF
  intro ls H locs hG hO
  obtain ⟨⟨hlen, hwf, hP, hD⟩, hlv, hLl, hLo, hS⟩ := hG
  obtain ⟨n0, en0⟩ : ∃ n0, (sx_lk sh a).2 = n0 := ⟨_, rfl⟩
  obtain ⟨n1, en1⟩ : ∃ n1, (sx_lk sh b).2 = n1 := ⟨_, rfl⟩
  have ha' : sx_lk sh a = (1, n0) := by rw [← ha, ← en0]
  have hb' : sx_lk sh b = (1, n1) := by rw [← hb2, ← en1]
  rw [en0] at hin
  rw [en1] at hjn
  obtain ⟨hat, hlt, ea, ha0, hsh⟩ := sx_ent_at (X := X) (σ := σ) ha' (by omega)
  obtain ⟨hbt, hltb, eb, hb0, hshb⟩ := sx_ent_at (X := X) (σ := σ) hb' (by omega)
  have hrn : sx_r32 n := sx_okS_hd hO
  have hrj : sx_r32 j := sx_okS_hd (sx_okS_tl hO)
  have hri : sx_r32 i := sx_okS_hd (sx_okS_tl (sx_okS_tl (sx_okS_tl hO)))
  have hoka := hwf _ hlt
  rw [hsh, ea] at hoka
  have hokb := hwf _ hltb
  rw [hshb, eb] at hokb
  obtain ⟨pl, hpl⟩ := sx_has4_el hl
  have hlk : Cond.methodLink (sx_rn own) idx arraycopyName ∈ sx_TB := by
    have h1 := List.all_eq_true.mp sx_blok _ hpl
    exact sx_words (of_decide_eq_true h1) rfl
  have hg : ∀ {w : Cond}, w ∈ lw_tbl → goodWord w = true → w.before args s = true := fun h1 h2 => hts _ (List.mem_filter.mpr ⟨h1, h2⟩)
  show W p X.1 e R s m args below meth c H locs nc ns Q (F0 m pc ls (.int (Int32.ofInt n) :: .int (Int32.ofInt j) :: sx_tv X.2.2.2.2.1 (.inr (.inr b)) :: .int (Int32.ofInt i) :: sx_tv X.2.2.2.2.1 (.inr (.inr a)) :: st.map (sx_tv X.2.2.2.2.1)))
  rw [sx_tv_ref ha0, sx_tv_ref hb0]
  refine va_copyi (ty := .int) hx hb (hml.trans ?_) hown (hts _ hlk) (hg sx_bv rfl) (hg sx_bs6 rfl) (hg sx_bi1 rfl) hK hP hD hS a.toNat b.toNat 1 1 hat hbt rfl rfl rfl ?_ ?_ ?_ ?_ ?_ (fun _ _ => rfl) (by omega) ?_ hd ?_
  · exact hlv.1.symm
  · rw [Int32.lt_iff_toInt_lt, sx_ti hri]; simp; omega
  · rw [Int32.lt_iff_toInt_lt, sx_ti hrj]; simp; omega
  · rw [Int32.lt_iff_toInt_lt, sx_ti hrn]; simp; omega
  · rw [sx_cl hri hi, sx_cl hrn hn]; omega
  · rw [sx_cl hrj hj, sx_cl hrn hn]; omega
  · rw [sx_catS]; omega
  · intro H1 locs1 hP1 hD1 hS1
    rw [sx_cl hri hi, sx_cl hrj hj, sx_cl hrn hn] at hP1 hD1
    have hset : (.inl (X.2.2.1 1, n1, .inl (va_cpy (fun k : Nat => Int32.ofInt (σ a (k : Int))) (fun k : Nat => Int32.ofInt (σ b (k : Int))) i.toNat j.toNat n.toNat)) : va_E) = sx_ce X (sh.getD b.toNat (9, 0)) (sx_cp σ a i b j n ((b.toNat : Nat) : Int)) := by
      rw [hshb, eb]
      show _ = (.inl (X.2.2.1 1, n1, .inl fun k : Nat => Int32.ofInt (sx_cp σ a i b j n b (k : Int))) : va_E)
      congr 4
      funext k
      unfold va_cpy sx_cp
      by_cases hk : j.toNat ≤ k ∧ k < j.toNat + n.toNat
      · have e5 : ((i.toNat + (k - j.toNat) : Nat) : Int) = i + ((k : Int) - j) := by omega
        rw [if_pos hk, if_pos ⟨rfl, by omega, by omega⟩, ← e5]
      · rw [if_neg hk, if_neg (fun z => hk ⟨by omega, by omega⟩)]
    have ew := sx_wd_set (X := X) (σ := σ) (σ' := sx_cp σ a i b j n) hltb hset (fun d hd => sx_cp_ne (by rw [eb] at hd; exact hd))
    rw [ew] at hP1 hD1
    refine h ls H1 locs1 ⟨⟨hlen, sx_wf_one hwf (fun d hd => sx_cp_ne hd) (fun _ _ => ?_), hP1, hD1⟩, hlv, hLl, hLo, hS1⟩ (sx_okS_tl (sx_okS_tl (sx_okS_tl (sx_okS_tl (sx_okS_tl hO)))))
    rw [hshb]
    refine ⟨hokb.1, fun k => ?_⟩
    unfold sx_cp
    split
    · exact hoka.2 _
    · exact hokb.2 k
end SXU
