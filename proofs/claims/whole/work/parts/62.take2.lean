/-! TAKEN FROM ANOTHER: snow, and laid to be tried (by wip/whole) -/
section SXL9
variable {X : sx_X} {Q : sx_R} {s t p b c x kk : Int} {σ σ0 σ' σ1 : sx_S} {P : aP} {A : aM} {W : aW}
abbrev FX (s a i : Int) : Prop := (a = s ∧ (i = 1 ∨ (7 ≤ i ∧ i ≤ 10))) ∨ (a = s + 4 ∧ i = 0) ∨ (s + 1 ≤ a ∧ a ≤ s + 3) ∨ (s + 5 ≤ a ∧ a ≤ s + 13)
theorem FX_pts : ([40, 55, 70] : List Int).all (fun s => ptL.all (fun q => decide (¬ FX s q.1 q.2.1))) = true := by decide +kernel
theorem fr.ptx {s : Int} {σ σ' : sx_S} (h : fr (FX s) σ σ') (hs : isS s) (hT : PT σ) : PT σ' := hT.fr (fun q hq => h _ _ (by
  have h1 := List.all_eq_true.mp FX_pts s (by rcases hs with e | e | e <;> subst e <;> decide)
  exact of_decide_eq_true (List.all_eq_true.mp h1 q hq)))
theorem cp_in5 {a b k n : Int} (h0 : 0 ≤ k) (h1 : k < n) : sx_cp σ a 0 b 0 n b k = σ a k := cp_in h0 h1
abbrev FY (a i : Int) : Prop := (146 ≤ a ∧ a ≤ 153 ∧ 90 ≤ i) ∨ (154 ≤ a ∧ a ≤ 156 ∧ i = 1)
theorem FY_pts : ptL.all (fun q => decide (¬ FY q.1 q.2.1)) = true := by decide +kernel
theorem fr.pty {σ σ' : sx_S} (h : fr FY σ σ') (hT : PT σ) : PT σ' := hT.fr (fun q hq => h _ _ (of_decide_eq_true (List.all_eq_true.mp FY_pts q hq)))
set_option maxRecDepth 20000 in
theorem a_Stake (hs : isS s) (ht : isS t) (hp : isP p) (hst : t + 15 ≤ s ∨ s + 15 ≤ t) (wp : wP P) (wm : wM P A c) (g : GC t p P A σ) (hW : cW P t σ W) (h : ∀ σ', fr (FX s) σ σ' → GC s p P A σ' → cW P s σ' W → Q none shM σ') : sx_Run X 78 [.inr (.inr s), .inr (.inr t)] shM σ Q := by
  have k0 := lkS0 hs
  have k1 := lkS1 hs
  have k2 := lkS2 hs
  have k3 := lkS3 hs
  have k4 := lkS4 hs
  have k13 := lkS13 hs
  have l0 := lkS0 ht
  have l1 := lkS1 ht
  have l2 := lkS2 ht
  have l3 := lkS3 ht
  have l4 := lkS4 ht
  have l13 := lkS13 ht
  have hsz := hs.ge
  have htz := ht.ge
  have hps := ps_lt hp hs
  have hpt := ps_lt hp ht
  have hpz : p + 20 < 38 := by rcases hp with h9 | h9 <;> omega
  have v5 := wp.wa
  refine sx_rule0 (own := 9) (cd := kX9_takeFrom) (nL := 2) (by decide +kernel) (by decide +kernel) kX9_takeFrom_ok (by decide +kernel) (Nat.le_of_ble_eq_true rfl) 40 ?_
  conv => whnf
  refine ⟨(by first | assumption | rfl), ?_⟩
  try simp (disch := omega) only [Int.cast_ofNat_Int, up_s, up_a, up_i, mp_a, mp_ge]
  try simp only [g.ep]
  try simp only [u1, u2]
  try simp only [w7]
  try simp only [w8]
  try simp only [w9]
  try simp only [w10]
  conv => whnf
  refine ⟨(by first | assumption | rfl), ?_⟩
  try simp (disch := omega) only [Int.cast_ofNat_Int, up_s, up_a, up_i, mp_a, mp_ge]
  try simp only [g.ep]
  try simp only [u1, u2]
  try simp only [w7]
  try simp only [w8]
  try simp only [w9]
  try simp only [w10]
  generalize e1 : sx_up σ s 1 p = σ1
  have F1 : fr (FX s) σ σ1 := fun a i z => by rw [← e1]; unfold sx_up; rw [if_neg (by unfold FX at z; omega)]
  have T := F1.ptx hs g.pt
  have u1 := ptS_2 T hs
  have u2 := ptS_2 T ht
  conv => whnf
  refine ⟨(by first | assumption | rfl), ?_⟩
  try simp (disch := omega) only [Int.cast_ofNat_Int, up_s, up_a, up_i, mp_a, mp_ge]
  try simp only [g.ep]
  try simp only [u1, u2]
  try simp only [w7]
  try simp only [w8]
  try simp only [w9]
  try simp only [w10]
  conv => whnf
  refine ⟨(by first | assumption | rfl), ?_⟩
  try simp (disch := omega) only [Int.cast_ofNat_Int, up_s, up_a, up_i, mp_a, mp_ge]
  try simp only [g.ep]
  try simp only [u1, u2]
  try simp only [w7]
  try simp only [w8]
  try simp only [w9]
  try simp only [w10]
  conv => whnf
  refine ⟨Nat.le_of_ble_eq_true rfl, by first | rfl | (simp only [*]; done), by first | rfl | (simp only [*]; done), by omega, by omega, by omega, by first | decide | (simp only [*]; omega), by first | decide | (simp only [*]; omega), ?_⟩
  generalize e2 : sx_cp _ _ _ _ _ _ = σ2
  have F2 : fr (FX s) σ σ2 := F1.trans (fun a i z => by rw [← e2, cp_a (by unfold FX at z; omega)])
  have T := F2.ptx hs g.pt
  have u1 := ptS_3 T hs
  have u2 := ptS_3 T ht
  conv => whnf
  refine ⟨(by first | assumption | rfl), ?_⟩
  try simp (disch := omega) only [Int.cast_ofNat_Int, up_s, up_a, up_i, mp_a, mp_ge]
  try simp only [g.ep]
  try simp only [u1, u2]
  try simp only [w7]
  try simp only [w8]
  try simp only [w9]
  try simp only [w10]
  conv => whnf
  refine ⟨(by first | assumption | rfl), ?_⟩
  try simp (disch := omega) only [Int.cast_ofNat_Int, up_s, up_a, up_i, mp_a, mp_ge]
  try simp only [g.ep]
  try simp only [u1, u2]
  try simp only [w7]
  try simp only [w8]
  try simp only [w9]
  try simp only [w10]
  conv => whnf
  refine ⟨Nat.le_of_ble_eq_true rfl, by first | rfl | (simp only [*]; done), by first | rfl | (simp only [*]; done), by omega, by omega, by omega, by first | decide | (simp only [*]; omega), by first | decide | (simp only [*]; omega), ?_⟩
  generalize e3 : sx_cp _ _ _ _ _ _ = σ3
  have F3 : fr (FX s) σ σ3 := F2.trans (fun a i z => by rw [← e3, cp_a (by unfold FX at z; omega)])
  have T := F3.ptx hs g.pt
  have u1 := ptS_4 T hs
  have u2 := ptS_4 T ht
  conv => whnf
  refine ⟨(by first | assumption | rfl), ?_⟩
  try simp (disch := omega) only [Int.cast_ofNat_Int, up_s, up_a, up_i, mp_a, mp_ge]
  try simp only [g.ep]
  try simp only [u1, u2]
  try simp only [w7]
  try simp only [w8]
  try simp only [w9]
  try simp only [w10]
  conv => whnf
  refine ⟨(by first | assumption | rfl), ?_⟩
  try simp (disch := omega) only [Int.cast_ofNat_Int, up_s, up_a, up_i, mp_a, mp_ge]
  try simp only [g.ep]
  try simp only [u1, u2]
  try simp only [w7]
  try simp only [w8]
  try simp only [w9]
  try simp only [w10]
  conv => whnf
  refine ⟨Nat.le_of_ble_eq_true rfl, by first | rfl | (simp only [*]; done), by first | rfl | (simp only [*]; done), by omega, by omega, by omega, by first | decide | (simp only [*]; omega), by first | decide | (simp only [*]; omega), ?_⟩
  generalize e4 : sx_cp _ _ _ _ _ _ = σ4
  have F4 : fr (FX s) σ σ4 := F3.trans (fun a i z => by rw [← e4, cp_a (by unfold FX at z; omega)])
  have T := F4.ptx hs g.pt
  have u1 := ptS_5 T hs
  have u2 := ptS_5 T ht
  conv => whnf
  refine ⟨(by first | assumption | rfl), ?_⟩
  try simp (disch := omega) only [Int.cast_ofNat_Int, up_s, up_a, up_i, mp_a, mp_ge]
  try simp only [g.ep]
  try simp only [u1, u2]
  try simp only [w7]
  try simp only [w8]
  try simp only [w9]
  try simp only [w10]
  conv => whnf
  refine ⟨(by first | assumption | rfl), ?_⟩
  try simp (disch := omega) only [Int.cast_ofNat_Int, up_s, up_a, up_i, mp_a, mp_ge]
  try simp only [g.ep]
  try simp only [u1, u2]
  try simp only [w7]
  try simp only [w8]
  try simp only [w9]
  try simp only [w10]
  conv => whnf
  refine ⟨Nat.le_of_ble_eq_true rfl, Nat.le_of_ble_eq_true rfl, (by first | assumption | rfl), ?_⟩
  refine a_Mtake T hs ht hst (x := A.n) (by rw [F4 _ _ (by unfold FX; omega)]; exact g.cs.n) wm.n ?_
  intro σ5 hcp
  have F5 : fr (FX s) σ σ5 := F4.trans (fun a i z => hcp.1 a i (by unfold FX at z; omega) (by unfold FX at z; omega))
  have T := F5.ptx hs g.pt
  have u1 := ptS_6 T hs
  have u2 := ptS_6 T ht
  conv => whnf
  refine ⟨(by first | assumption | rfl), ?_⟩
  try simp (disch := omega) only [Int.cast_ofNat_Int, up_s, up_a, up_i, mp_a, mp_ge]
  try simp only [g.ep]
  try simp only [u1, u2]
  try simp only [w7]
  try simp only [w8]
  try simp only [w9]
  try simp only [w10]
  conv => whnf
  refine ⟨(by first | assumption | rfl), ?_⟩
  try simp (disch := omega) only [Int.cast_ofNat_Int, up_s, up_a, up_i, mp_a, mp_ge]
  try simp only [g.ep]
  try simp only [u1, u2]
  try simp only [w7]
  try simp only [w8]
  try simp only [w9]
  try simp only [w10]
  conv => whnf
  refine ⟨Nat.le_of_ble_eq_true rfl, by first | rfl | (simp only [*]; done), by first | rfl | (simp only [*]; done), by omega, by omega, by omega, by first | decide | (simp only [*]; omega), by first | decide | (simp only [*]; omega), ?_⟩
  generalize e6 : sx_cp _ _ _ _ _ _ = σ6
  have F6 : fr (FX s) σ σ6 := F5.trans (fun a i z => by rw [← e6, cp_a (by unfold FX at z; omega)])
  have w7 : σ6 t 7 = σ t 7 := F6 _ _ (by unfold FX; omega)
  have w8 : σ6 t 8 = σ t 8 := F6 _ _ (by unfold FX; omega)
  have w9 : σ6 t 9 = σ t 9 := F6 _ _ (by unfold FX; omega)
  have w10 : σ6 t 10 = σ t 10 := F6 _ _ (by unfold FX; omega)
  conv => whnf
  refine ⟨(by first | assumption | rfl), ?_⟩
  try simp (disch := omega) only [Int.cast_ofNat_Int, up_s, up_a, up_i, mp_a, mp_ge]
  try simp only [g.ep]
  try simp only [u1, u2]
  try simp only [w7]
  try simp only [w8]
  try simp only [w9]
  try simp only [w10]
  conv => whnf
  refine ⟨(by first | assumption | rfl), ?_⟩
  try simp (disch := omega) only [Int.cast_ofNat_Int, up_s, up_a, up_i, mp_a, mp_ge]
  try simp only [g.ep]
  try simp only [u1, u2]
  try simp only [w7]
  try simp only [w8]
  try simp only [w9]
  try simp only [w10]
  conv => whnf
  refine ⟨(by first | assumption | rfl), ?_⟩
  try simp (disch := omega) only [Int.cast_ofNat_Int, up_s, up_a, up_i, mp_a, mp_ge]
  try simp only [g.ep]
  try simp only [u1, u2]
  try simp only [w7]
  try simp only [w8]
  try simp only [w9]
  try simp only [w10]
  conv => whnf
  refine ⟨(by first | assumption | rfl), ?_⟩
  try simp (disch := omega) only [Int.cast_ofNat_Int, up_s, up_a, up_i, mp_a, mp_ge]
  try simp only [g.ep]
  try simp only [u1, u2]
  try simp only [w7]
  try simp only [w8]
  try simp only [w9]
  try simp only [w10]
  conv => whnf
  refine ⟨(by first | assumption | rfl), ?_⟩
  try simp (disch := omega) only [Int.cast_ofNat_Int, up_s, up_a, up_i, mp_a, mp_ge]
  try simp only [g.ep]
  try simp only [u1, u2]
  try simp only [w7]
  try simp only [w8]
  try simp only [w9]
  try simp only [w10]
  conv => whnf
  refine ⟨(by first | assumption | rfl), ?_⟩
  try simp (disch := omega) only [Int.cast_ofNat_Int, up_s, up_a, up_i, mp_a, mp_ge]
  try simp only [g.ep]
  try simp only [u1, u2]
  try simp only [w7]
  try simp only [w8]
  try simp only [w9]
  try simp only [w10]
  conv => whnf
  refine ⟨(by first | assumption | rfl), ?_⟩
  try simp (disch := omega) only [Int.cast_ofNat_Int, up_s, up_a, up_i, mp_a, mp_ge]
  try simp only [g.ep]
  try simp only [u1, u2]
  try simp only [w7]
  try simp only [w8]
  try simp only [w9]
  try simp only [w10]
  conv => whnf
  refine ⟨(by first | assumption | rfl), ?_⟩
  try simp (disch := omega) only [Int.cast_ofNat_Int, up_s, up_a, up_i, mp_a, mp_ge]
  try simp only [g.ep]
  try simp only [u1, u2]
  try simp only [w7]
  try simp only [w8]
  try simp only [w9]
  try simp only [w10]
  conv => whnf
  refine ⟨rfl, ?_⟩
  generalize e8 : sx_up _ s 10 _ = σ8
  have X8 : ∀ a i : Int, ¬ (a = s ∧ 7 ≤ i ∧ i ≤ 10) → σ8 a i = σ6 a i := fun a i z => by
    rw [← e8]; unfold sx_up; rw [if_neg (by omega), if_neg (by omega), if_neg (by omega), if_neg (by omega)]
  have F8 : fr (FX s) σ σ8 := F6.trans (fun a i z => X8 a i (by unfold FX at z; omega))
  have X5 : ∀ k m : Int, 4 ≤ k → k ≤ 12 → σ8 (s + k) m = σ5 (s + k) m := fun k m y0 y1 => by rw [X8 _ _ (by omega), ← e6, cp_a (by omega)]
  have Y : ∀ k m : Int, 5 ≤ k → k ≤ 12 → 0 ≤ m → m < A.n → σ8 (s + k) m = σ (t + k) m := fun k m y0 y1 y2 y3 => by rw [X5 k m (by omega) y1, hcp.2.2 k m y0 (by omega) y2 y3, F4 _ _ (by unfold FX; omega)]
  have Z : ∀ k w : Int, 1 ≤ k → k ≤ 3 → σ8 (s + k) w = σ4 (s + k) w := fun k w y0 y1 => by rw [X8 _ _ (by omega), ← e6, cp_a (by omega), hcp.1 _ _ (by omega) (by omega)]
  refine h σ8 F8 (GC.mk (F8.ptx hs g.pt) ?_ (g.cp.of (fun a i y0 y1 => F8 _ _ (by unfold FX; omega))) ?_ (g.sc.of (fun a i y0 y1 => F8 _ _ (by unfold FX; omega)))) ?_
  · rw [X8 _ _ (by omega), ← e6, cp_a (by omega), hcp.1 _ _ (by omega) (by omega), ← e4, cp_a (by omega), ← e3, cp_a (by omega), ← e2, cp_a (by omega), ← e1, up_s]
  · refine cS.mk ?_ ?_ ?_ ?_ (fun m y0 y1 => (Y 5 m (by decide) (by decide) y0 y1).trans (g.cs.lk m y0 y1)) (fun m y0 y1 => (Y 6 m (by decide) (by decide) y0 y1).trans (g.cs.ce m y0 y1)) (fun m y0 y1 => (Y 7 m (by decide) (by decide) y0 y1).trans (g.cs.wy m y0 y1)) (fun m y0 y1 => (Y 8 m (by decide) (by decide) y0 y1).trans (g.cs.bo m y0 y1)) (fun m y0 y1 => (Y 9 m (by decide) (by decide) y0 y1).trans (g.cs.dp m y0 y1)) (fun m y0 y1 => (Y 10 m (by decide) (by decide) y0 y1).trans (g.cs.cv m y0 y1)) (fun m y0 y1 => (Y 11 m (by decide) (by decide) y0 y1).trans (g.cs.ow m y0 y1)) (fun m y0 y1 => (Y 12 m (by decide) (by decide) y0 y1).trans (g.cs.bl m y0 y1))
    · rw [X5 4 0 (by decide) (by decide)]; exact hcp.2.1
    · rw [← e8, up_i (by decide), up_i (by decide), up_i (by decide), up_s]; exact g.cs.hr
    · rw [← e8, up_i (by decide), up_i (by decide), up_s]; exact g.cs.sn
    · rw [← e8, up_s]; exact g.cs.la
  · refine cW.mk (fun w y0 y1 => ?_) (fun w y0 y1 => ?_) (fun w y0 y1 => ?_) (fun f y0 y1 => ?_) ?_
    · rw [Z 1 w (by decide) (by decide), ← e4, cp_a (by omega), ← e3, cp_a (by omega), ← e2, cp_in y0 (by omega), F1 _ _ (by unfold FX; omega)]; exact hW.at1 w y0 y1
    · rw [Z 2 w (by decide) (by decide), ← e4, cp_a (by omega), ← e3, cp_in y0 (by omega), F2 _ _ (by unfold FX; omega)]; exact hW.st w y0 y1
    · rw [Z 3 w (by decide) (by decide), ← e4, cp_in y0 (by omega), F3 _ _ (by unfold FX; omega)]; exact hW.bt w y0 y1
    · rw [X8 _ _ (by omega), ← e6, cp_in y0 (by omega), F5 _ _ (by unfold FX; omega)]; exact hW.db f y0 y1
    · rw [← e8, up_i (by decide), up_s]; exact hW.wi
theorem up_n {σ : sx_S} {a i v b j : Int} (h : ¬ (b = a ∧ j = i)) : sx_up σ a i v b j = σ b j := by unfold sx_up; rw [if_neg h]
set_option maxRecDepth 20000 in
theorem c_Rcopy (hT : PT σ) {y z : Int} (hy : 0 ≤ y ∧ y < 180) (hz : 0 ≤ z ∧ z < 180) (hyz : ¬ y = z) (hbl : 0 ≤ σ 153 z ∧ σ 153 z ≤ 1) (h : ∀ σ', (∀ a i : Int, ¬ (146 ≤ a ∧ a ≤ 153 ∧ i = y) → σ' a i = σ a i) → (∀ a : Int, 146 ≤ a → a ≤ 153 → σ' a y = σ a z) → Q none shM σ') : sx_Run X 225 [.inr (.inr 124), .inl y, .inl z] shM σ Q := by
  have r57 := pt_124_57 hT
  have r58 := pt_124_58 hT
  have r59 := pt_124_59 hT
  have r60 := pt_124_60 hT
  have r61 := pt_124_61 hT
  have r62 := pt_124_62 hT
  have r63 := pt_124_63 hT
  have r64 := pt_124_64 hT
  refine sx_rule0 (own := 12) (cd := kX12_copyMark) (nL := 3) (by decide +kernel) (by decide +kernel) kX12_copyMark_ok (by decide +kernel) (Nat.le_of_ble_eq_true rfl) 40 ?_
  conv => whnf
  refine ⟨(by first | assumption | rfl), ?_⟩
  try simp (disch := omega) only [Int.cast_ofNat_Int, up_s, up_a, up_i, mp_a, mp_ge]
  try simp only [r57]
  try simp only [r58]
  try simp only [r59]
  try simp only [r60]
  try simp only [r61]
  try simp only [r62]
  try simp only [r63]
  try simp only [r64]
  conv => whnf
  refine ⟨(by first | assumption | rfl), ?_⟩
  try simp (disch := omega) only [Int.cast_ofNat_Int, up_s, up_a, up_i, mp_a, mp_ge]
  try simp only [r57]
  try simp only [r58]
  try simp only [r59]
  try simp only [r60]
  try simp only [r61]
  try simp only [r62]
  try simp only [r63]
  try simp only [r64]
  conv => whnf
  refine ⟨sx_ixI (by first | assumption | rfl) (by omega) (by omega), ?_⟩
  try simp (disch := omega) only [Int.cast_ofNat_Int, up_s, up_a, up_i, mp_a, mp_ge]
  try simp only [r57]
  try simp only [r58]
  try simp only [r59]
  try simp only [r60]
  try simp only [r61]
  try simp only [r62]
  try simp only [r63]
  try simp only [r64]
  conv => whnf
  refine ⟨sx_ixI (by first | assumption | rfl) (by omega) (by omega), ?_⟩
  conv => whnf
  refine ⟨(by first | assumption | rfl), ?_⟩
  try simp (disch := omega) only [Int.cast_ofNat_Int, up_s, up_a, up_i, mp_a, mp_ge]
  try simp only [r57]
  try simp only [r58]
  try simp only [r59]
  try simp only [r60]
  try simp only [r61]
  try simp only [r62]
  try simp only [r63]
  try simp only [r64]
  conv => whnf
  refine ⟨(by first | assumption | rfl), ?_⟩
  try simp (disch := omega) only [Int.cast_ofNat_Int, up_s, up_a, up_i, mp_a, mp_ge]
  try simp only [r57]
  try simp only [r58]
  try simp only [r59]
  try simp only [r60]
  try simp only [r61]
  try simp only [r62]
  try simp only [r63]
  try simp only [r64]
  conv => whnf
  refine ⟨sx_ixI (by first | assumption | rfl) (by omega) (by omega), ?_⟩
  try simp (disch := omega) only [Int.cast_ofNat_Int, up_s, up_a, up_i, mp_a, mp_ge]
  try simp only [r57]
  try simp only [r58]
  try simp only [r59]
  try simp only [r60]
  try simp only [r61]
  try simp only [r62]
  try simp only [r63]
  try simp only [r64]
  conv => whnf
  refine ⟨sx_ixI (by first | assumption | rfl) (by omega) (by omega), ?_⟩
  conv => whnf
  refine ⟨(by first | assumption | rfl), ?_⟩
  try simp (disch := omega) only [Int.cast_ofNat_Int, up_s, up_a, up_i, mp_a, mp_ge]
  try simp only [r57]
  try simp only [r58]
  try simp only [r59]
  try simp only [r60]
  try simp only [r61]
  try simp only [r62]
  try simp only [r63]
  try simp only [r64]
  conv => whnf
  refine ⟨(by first | assumption | rfl), ?_⟩
  try simp (disch := omega) only [Int.cast_ofNat_Int, up_s, up_a, up_i, mp_a, mp_ge]
  try simp only [r57]
  try simp only [r58]
  try simp only [r59]
  try simp only [r60]
  try simp only [r61]
  try simp only [r62]
  try simp only [r63]
  try simp only [r64]
  conv => whnf
  refine ⟨sx_ixI (by first | assumption | rfl) (by omega) (by omega), ?_⟩
  try simp (disch := omega) only [Int.cast_ofNat_Int, up_s, up_a, up_i, mp_a, mp_ge]
  try simp only [r57]
  try simp only [r58]
  try simp only [r59]
  try simp only [r60]
  try simp only [r61]
  try simp only [r62]
  try simp only [r63]
  try simp only [r64]
  conv => whnf
  refine ⟨sx_ixI (by first | assumption | rfl) (by omega) (by omega), ?_⟩
  conv => whnf
  refine ⟨(by first | assumption | rfl), ?_⟩
  try simp (disch := omega) only [Int.cast_ofNat_Int, up_s, up_a, up_i, mp_a, mp_ge]
  try simp only [r57]
  try simp only [r58]
  try simp only [r59]
  try simp only [r60]
  try simp only [r61]
  try simp only [r62]
  try simp only [r63]
  try simp only [r64]
  conv => whnf
  refine ⟨(by first | assumption | rfl), ?_⟩
  try simp (disch := omega) only [Int.cast_ofNat_Int, up_s, up_a, up_i, mp_a, mp_ge]
  try simp only [r57]
  try simp only [r58]
  try simp only [r59]
  try simp only [r60]
  try simp only [r61]
  try simp only [r62]
  try simp only [r63]
  try simp only [r64]
  conv => whnf
  refine ⟨sx_ixI (by first | assumption | rfl) (by omega) (by omega), ?_⟩
  try simp (disch := omega) only [Int.cast_ofNat_Int, up_s, up_a, up_i, mp_a, mp_ge]
  try simp only [r57]
  try simp only [r58]
  try simp only [r59]
  try simp only [r60]
  try simp only [r61]
  try simp only [r62]
  try simp only [r63]
  try simp only [r64]
  conv => whnf
  refine ⟨sx_ixI (by first | assumption | rfl) (by omega) (by omega), ?_⟩
  conv => whnf
  refine ⟨(by first | assumption | rfl), ?_⟩
  try simp (disch := omega) only [Int.cast_ofNat_Int, up_s, up_a, up_i, mp_a, mp_ge]
  try simp only [r57]
  try simp only [r58]
  try simp only [r59]
  try simp only [r60]
  try simp only [r61]
  try simp only [r62]
  try simp only [r63]
  try simp only [r64]
  conv => whnf
  refine ⟨(by first | assumption | rfl), ?_⟩
  try simp (disch := omega) only [Int.cast_ofNat_Int, up_s, up_a, up_i, mp_a, mp_ge]
  try simp only [r57]
  try simp only [r58]
  try simp only [r59]
  try simp only [r60]
  try simp only [r61]
  try simp only [r62]
  try simp only [r63]
  try simp only [r64]
  conv => whnf
  refine ⟨sx_ixI (by first | assumption | rfl) (by omega) (by omega), ?_⟩
  try simp (disch := omega) only [Int.cast_ofNat_Int, up_s, up_a, up_i, mp_a, mp_ge]
  try simp only [r57]
  try simp only [r58]
  try simp only [r59]
  try simp only [r60]
  try simp only [r61]
  try simp only [r62]
  try simp only [r63]
  try simp only [r64]
  conv => whnf
  refine ⟨sx_ixI (by first | assumption | rfl) (by omega) (by omega), ?_⟩
  conv => whnf
  refine ⟨(by first | assumption | rfl), ?_⟩
  try simp (disch := omega) only [Int.cast_ofNat_Int, up_s, up_a, up_i, mp_a, mp_ge]
  try simp only [r57]
  try simp only [r58]
  try simp only [r59]
  try simp only [r60]
  try simp only [r61]
  try simp only [r62]
  try simp only [r63]
  try simp only [r64]
  conv => whnf
  refine ⟨(by first | assumption | rfl), ?_⟩
  try simp (disch := omega) only [Int.cast_ofNat_Int, up_s, up_a, up_i, mp_a, mp_ge]
  try simp only [r57]
  try simp only [r58]
  try simp only [r59]
  try simp only [r60]
  try simp only [r61]
  try simp only [r62]
  try simp only [r63]
  try simp only [r64]
  conv => whnf
  refine ⟨sx_ixI (by first | assumption | rfl) (by omega) (by omega), ?_⟩
  try simp (disch := omega) only [Int.cast_ofNat_Int, up_s, up_a, up_i, mp_a, mp_ge]
  try simp only [r57]
  try simp only [r58]
  try simp only [r59]
  try simp only [r60]
  try simp only [r61]
  try simp only [r62]
  try simp only [r63]
  try simp only [r64]
  conv => whnf
  refine ⟨sx_ixI (by first | assumption | rfl) (by omega) (by omega), ?_⟩
  conv => whnf
  refine ⟨(by first | assumption | rfl), ?_⟩
  try simp (disch := omega) only [Int.cast_ofNat_Int, up_s, up_a, up_i, mp_a, mp_ge]
  try simp only [r57]
  try simp only [r58]
  try simp only [r59]
  try simp only [r60]
  try simp only [r61]
  try simp only [r62]
  try simp only [r63]
  try simp only [r64]
  conv => whnf
  refine ⟨(by first | assumption | rfl), ?_⟩
  try simp (disch := omega) only [Int.cast_ofNat_Int, up_s, up_a, up_i, mp_a, mp_ge]
  try simp only [r57]
  try simp only [r58]
  try simp only [r59]
  try simp only [r60]
  try simp only [r61]
  try simp only [r62]
  try simp only [r63]
  try simp only [r64]
  conv => whnf
  refine ⟨sx_ixI (by first | assumption | rfl) (by omega) (by omega), ?_⟩
  try simp (disch := omega) only [Int.cast_ofNat_Int, up_s, up_a, up_i, mp_a, mp_ge]
  try simp only [r57]
  try simp only [r58]
  try simp only [r59]
  try simp only [r60]
  try simp only [r61]
  try simp only [r62]
  try simp only [r63]
  try simp only [r64]
  conv => whnf
  refine ⟨sx_ixI (by first | assumption | rfl) (by omega) (by omega), ?_⟩
  conv => whnf
  refine ⟨(by first | assumption | rfl), ?_⟩
  try simp (disch := omega) only [Int.cast_ofNat_Int, up_s, up_a, up_i, mp_a, mp_ge]
  try simp only [r57]
  try simp only [r58]
  try simp only [r59]
  try simp only [r60]
  try simp only [r61]
  try simp only [r62]
  try simp only [r63]
  try simp only [r64]
  conv => whnf
  refine ⟨(by first | assumption | rfl), ?_⟩
  try simp (disch := omega) only [Int.cast_ofNat_Int, up_s, up_a, up_i, mp_a, mp_ge]
  try simp only [r57]
  try simp only [r58]
  try simp only [r59]
  try simp only [r60]
  try simp only [r61]
  try simp only [r62]
  try simp only [r63]
  try simp only [r64]
  conv => whnf
  refine ⟨by decide, ?_⟩
  conv => whnf
  refine ⟨sx_ixI (by first | assumption | rfl) (by omega) (by omega), ?_⟩
  try simp (disch := omega) only [Int.cast_ofNat_Int, up_s, up_a, up_i, mp_a, mp_ge]
  try simp only [r57]
  try simp only [r58]
  try simp only [r59]
  try simp only [r60]
  try simp only [r61]
  try simp only [r62]
  try simp only [r63]
  try simp only [r64]
  conv => whnf
  refine ⟨sx_ixI (by first | assumption | rfl) (by omega) (by omega), by omega, ?_⟩
  conv => whnf
  refine ⟨rfl, ?_⟩
  refine h _ (fun a i y1 => ?_) (fun a y1 y2 => ?_)
  · rw [up_n (by omega), up_n (by omega), up_n (by omega), up_n (by omega), up_n (by omega), up_n (by omega), up_n (by omega), up_n (by omega)]
  · rcases (show a = 146 ∨ a = 147 ∨ a = 148 ∨ a = 149 ∨ a = 150 ∨ a = 151 ∨ a = 152 ∨ a = 153 by omega) with e | e | e | e | e | e | e | e <;> subst e <;> simp (disch := decide) only [up_a, up_s]
set_option maxRecDepth 20000 in
theorem a_Rtried (wm : wM P A c) (gg : GR 0 P A σ) (h : ∀ σ', fr FY σ σ' → GR 0 P A σ' → GR 1 P A σ' → Q none shM σ') : sx_Run X 226 [.inr (.inr 124)] shM σ Q := by
  have wn := wm.n
  refine sx_rule2 (own := 12) (cd := kX12_layTried) (nL := 2) (by decide +kernel) (by decide +kernel) kX12_layTried_ok (by decide +kernel) (Nat.le_of_ble_eq_true rfl) [2] 40 (fun n t L st _ σ' => (t = 2 ∧ ∃ i : Int, st = [] ∧ L = [some (.inr (.inr (124))), some (.inl (i))] ∧ (fr FY σ σ' ∧ (∀ a m : Int, 146 ≤ a → a ≤ 153 → 0 ≤ m → m < i → σ' a (90 + m) = σ a m) ∧ 0 ≤ i ∧ i ≤ A.n) ∧ n = (A.n - i).toNat)) ?_ ?_
  · skip
    conv => whnf
    refine ⟨_, ⟨rfl, _, rfl, rfl, ?_, rfl⟩⟩
    exact ⟨fr.rfl, fun a m _ _ _ _ => by omega, by omega, by omega⟩
  · intro n t L st σ' hk
    obtain ⟨rfl, i, rfl, rfl, hc, rfl⟩ := hk
    obtain ⟨hfi, hcp, hi0, hi1⟩ := hc
    have hT' := hfi.pty gg.pt
    have r65 := pt_124_65 hT'
    have r66 := pt_124_66 hT'
    have r67 := pt_124_67 hT'
    have en : σ' 154 0 = A.n := (hfi _ _ (by decide)).trans gg.rs.n
    have es : σ' 155 0 = A.sn := (hfi _ _ (by decide)).trans gg.rs.sn
    have eh : σ' 156 0 = A.hr := (hfi _ _ (by decide)).trans gg.rs.hr
    conv => whnf
    refine ⟨(by first | assumption | rfl), ?_⟩
    try simp (disch := omega) only [Int.cast_ofNat_Int, up_s, up_a, up_i, mp_a, mp_ge]
    try simp only [r65]
    try simp only [r66]
    try simp only [r67]
    try simp only [en]
    try simp only [es]
    try simp only [eh]
    conv => whnf
    refine ⟨sx_ixI (by first | assumption | rfl) (by omega) (by omega), ?_⟩
    try simp (disch := omega) only [Int.cast_ofNat_Int, up_s, up_a, up_i, mp_a, mp_ge]
    try simp only [r65]
    try simp only [r66]
    try simp only [r67]
    try simp only [en]
    try simp only [es]
    try simp only [eh]
    conv => whnf
    refine ⟨fun g => ?_, fun g => ?_⟩
    · simp only [sx_cc, Classical.not_not] at g
      conv => whnf
      refine ⟨(by first | assumption | rfl), ?_⟩
      try simp (disch := omega) only [Int.cast_ofNat_Int, up_s, up_a, up_i, mp_a, mp_ge]
      try simp only [r65]
      try simp only [r66]
      try simp only [r67]
      try simp only [en]
      try simp only [es]
      try simp only [eh]
      conv => whnf
      refine ⟨(by first | assumption | rfl), ?_⟩
      try simp (disch := omega) only [Int.cast_ofNat_Int, up_s, up_a, up_i, mp_a, mp_ge]
      try simp only [r65]
      try simp only [r66]
      try simp only [r67]
      try simp only [en]
      try simp only [es]
      try simp only [eh]
      conv => whnf
      refine ⟨sx_ixI (by first | assumption | rfl) (by omega) (by omega), ?_⟩
      try simp (disch := omega) only [Int.cast_ofNat_Int, up_s, up_a, up_i, mp_a, mp_ge]
      try simp only [r65]
      try simp only [r66]
      try simp only [r67]
      try simp only [en]
      try simp only [es]
      try simp only [eh]
      conv => whnf
      refine ⟨sx_ixI (by first | assumption | rfl) (by omega) (by omega), ?_⟩
      conv => whnf
      refine ⟨(by first | assumption | rfl), ?_⟩
      try simp (disch := omega) only [Int.cast_ofNat_Int, up_s, up_a, up_i, mp_a, mp_ge]
      try simp only [r65]
      try simp only [r66]
      try simp only [r67]
      try simp only [en]
      try simp only [es]
      try simp only [eh]
      conv => whnf
      refine ⟨(by first | assumption | rfl), ?_⟩
      try simp (disch := omega) only [Int.cast_ofNat_Int, up_s, up_a, up_i, mp_a, mp_ge]
      try simp only [r65]
      try simp only [r66]
      try simp only [r67]
      try simp only [en]
      try simp only [es]
      try simp only [eh]
      conv => whnf
      refine ⟨sx_ixI (by first | assumption | rfl) (by omega) (by omega), ?_⟩
      try simp (disch := omega) only [Int.cast_ofNat_Int, up_s, up_a, up_i, mp_a, mp_ge]
      try simp only [r65]
      try simp only [r66]
      try simp only [r67]
      try simp only [en]
      try simp only [es]
      try simp only [eh]
      conv => whnf
      refine ⟨sx_ixI (by first | assumption | rfl) (by omega) (by omega), ?_⟩
      conv => whnf
      refine ⟨(by first | assumption | rfl), ?_⟩
      try simp (disch := omega) only [Int.cast_ofNat_Int, up_s, up_a, up_i, mp_a, mp_ge]
      try simp only [r65]
      try simp only [r66]
      try simp only [r67]
      try simp only [en]
      try simp only [es]
      try simp only [eh]
      conv => whnf
      refine ⟨(by first | assumption | rfl), ?_⟩
      try simp (disch := omega) only [Int.cast_ofNat_Int, up_s, up_a, up_i, mp_a, mp_ge]
      try simp only [r65]
      try simp only [r66]
      try simp only [r67]
      try simp only [en]
      try simp only [es]
      try simp only [eh]
      conv => whnf
      refine ⟨sx_ixI (by first | assumption | rfl) (by omega) (by omega), ?_⟩
      try simp (disch := omega) only [Int.cast_ofNat_Int, up_s, up_a, up_i, mp_a, mp_ge]
      try simp only [r65]
      try simp only [r66]
      try simp only [r67]
      try simp only [en]
      try simp only [es]
      try simp only [eh]
      conv => whnf
      refine ⟨sx_ixI (by first | assumption | rfl) (by omega) (by omega), ?_⟩
      conv => whnf
      refine ⟨rfl, ?_⟩
      generalize e8 : sx_up (sx_up (sx_up σ' 154 1 _) 155 1 _) 156 1 _ = σ8
      have X8 : ∀ a i : Int, ¬ (154 ≤ a ∧ a ≤ 156 ∧ i = 1) → σ8 a i = σ' a i := fun a i z => by
        rw [← e8]; unfold sx_up; rw [if_neg (by omega), if_neg (by omega), if_neg (by omega)]
      have F8 : fr FY σ σ8 := hfi.trans (fun a i z => X8 a i (by unfold FY at z; omega))
      have T8 := F8.pty gg.pt
      have rp8 : rP σ8 P := gg.rp.of (fun a i z1 z2 => F8 _ _ (by unfold FY; omega)) (fun i z1 z2 => F8 _ _ (by unfold FY; omega))
      have sc8 : SCK σ8 := gg.sc.of (fun i => F8 _ _ (by unfold FY; omega)) (F8 _ _ (by decide))
      have Y : ∀ a m : Int, 146 ≤ a → a ≤ 153 → 0 ≤ m → m < A.n → σ8 a (90 * 1 + m) = σ a m := fun a m y0 y1 y2 y3 => by rw [X8 _ _ (by omega), show 90 * 1 + m = 90 + m by omega]; exact hcp a m y0 y1 y2 (by omega)
      have Z : ∀ a m : Int, 146 ≤ a → a ≤ 153 → m < A.n → σ8 a (90 * 0 + m) = σ a (90 * 0 + m) := fun a m y0 y1 y2 => F8 _ _ (by unfold FY; omega)
      refine h σ8 F8 (GR.mk T8 rp8 (rS.mk ((F8 _ _ (by decide)).trans gg.rs.n) ((F8 _ _ (by decide)).trans gg.rs.hr) ((F8 _ _ (by decide)).trans gg.rs.sn) ((F8 _ _ (by decide)).trans gg.rs.la) (fun m y0 y1 => (Z 146 m (by decide) (by decide) y1).trans (gg.rs.lk m y0 y1)) (fun m y0 y1 => (Z 147 m (by decide) (by decide) y1).trans (gg.rs.ce m y0 y1)) (fun m y0 y1 => (Z 148 m (by decide) (by decide) y1).trans (gg.rs.wy m y0 y1)) (fun m y0 y1 => (Z 149 m (by decide) (by decide) y1).trans (gg.rs.bo m y0 y1)) (fun m y0 y1 => (Z 150 m (by decide) (by decide) y1).trans (gg.rs.dp m y0 y1)) (fun m y0 y1 => (Z 151 m (by decide) (by decide) y1).trans (gg.rs.cv m y0 y1)) (fun m y0 y1 => (Z 152 m (by decide) (by decide) y1).trans (gg.rs.ow m y0 y1)) (fun m y0 y1 => (Z 153 m (by decide) (by decide) y1).trans (gg.rs.bl m y0 y1))) sc8) (GR.mk T8 rp8 (rS.mk ?_ ?_ ?_ ((F8 _ _ (by decide)).trans gg.rs.la) (fun m y0 y1 => by rw [Y 146 m (by decide) (by decide) y0 y1]; have h9 := gg.rs.lk m y0 y1; rw [show 90 * (0 : Int) + m = m by omega] at h9; exact h9) (fun m y0 y1 => by rw [Y 147 m (by decide) (by decide) y0 y1]; have h9 := gg.rs.ce m y0 y1; rw [show 90 * (0 : Int) + m = m by omega] at h9; exact h9) (fun m y0 y1 => by rw [Y 148 m (by decide) (by decide) y0 y1]; have h9 := gg.rs.wy m y0 y1; rw [show 90 * (0 : Int) + m = m by omega] at h9; exact h9) (fun m y0 y1 => by rw [Y 149 m (by decide) (by decide) y0 y1]; have h9 := gg.rs.bo m y0 y1; rw [show 90 * (0 : Int) + m = m by omega] at h9; exact h9) (fun m y0 y1 => by rw [Y 150 m (by decide) (by decide) y0 y1]; have h9 := gg.rs.dp m y0 y1; rw [show 90 * (0 : Int) + m = m by omega] at h9; exact h9) (fun m y0 y1 => by rw [Y 151 m (by decide) (by decide) y0 y1]; have h9 := gg.rs.cv m y0 y1; rw [show 90 * (0 : Int) + m = m by omega] at h9; exact h9) (fun m y0 y1 => by rw [Y 152 m (by decide) (by decide) y0 y1]; have h9 := gg.rs.ow m y0 y1; rw [show 90 * (0 : Int) + m = m by omega] at h9; exact h9) (fun m y0 y1 => by rw [Y 153 m (by decide) (by decide) y0 y1]; have h9 := gg.rs.bl m y0 y1; rw [show 90 * (0 : Int) + m = m by omega] at h9; exact h9)) sc8)
      · rw [← e8, up_a (by decide), up_a (by decide), up_s]
      · rw [← e8, up_s]
      · rw [← e8, up_a (by decide), up_s]
    · simp only [sx_cc, Classical.not_not] at g
      conv => whnf
      refine ⟨⟨by omega, by omega⟩, ?_⟩
      conv => whnf
      refine ⟨Nat.le_of_ble_eq_true rfl, Nat.le_of_ble_eq_true rfl, (by first | assumption | rfl), ?_⟩
      have hbl0 := wm.bl i hi0 (by omega)
      have ebl : σ' 153 i = A.bl i := by
        have h9 := gg.rs.bl i hi0 (by omega)
        rw [show 90 * (0 : Int) + i = i by omega] at h9
        rw [hfi _ _ (by unfold FY; omega)]; exact h9
      refine c_Rcopy hT' ⟨by omega, by omega⟩ ⟨by omega, by omega⟩ (by omega) (by rw [ebl]; omega) ?_
      intro σ2 hf2 hc2
      conv => whnf
      refine ⟨⟨by omega, by omega⟩, ?_⟩
      conv => whnf
      refine ⟨_, ?_, ⟨rfl, _, rfl, rfl, ?_, rfl⟩⟩
      · omega
      · refine ⟨hfi.trans (fun a j z => hf2 a j (by unfold FY at z; omega)), fun a m y0 y1 y2 y3 => ?_, by omega, by omega⟩
        by_cases e9 : m = i
        · subst e9; rw [hc2 a y0 y1]; exact hfi _ _ (by unfold FY; omega)
        · rw [hf2 a _ (by omega)]; exact hcp a m y0 y1 y2 (by omega)
end SXL9
