/-! BOTH OBJECTS MADE: what their constructors leave, and that it is the picture of nothing told -/
def gx_TC_0 : gx_T := [(0, 0, 13, 121), (0, 121, 1, 123), (0, 121, 0, 122), (0, 0, 12, 117), (0, 117, 4, 120), (0, 117, 3, 119), (0, 117, 2, 118), (0, 0, 11, 110), (0, 110, 7, 116), (0, 110, 6, 115), (0, 110, 5, 114), (0, 110, 4, 113), (0, 110, 3, 112), (0, 110, 2, 111), (0, 110, 1, -1), (0, 110, 0, 0), (0, 0, 10, 85), (0, 85, 5, 89), (0, 89, 0, 90), (0, 89, 1, 91), (0, 89, 2, 92), (0, 89, 3, 93), (0, 89, 4, 94), (0, 89, 5, 95), (0, 89, 6, 96), (0, 89, 7, 97), (0, 89, 8, 98), (0, 89, 9, 99), (0, 89, 10, 100), (0, 89, 11, 101), (0, 89, 12, 102), (0, 89, 13, 103), (0, 89, 14, 104), (0, 89, 15, 105), (0, 89, 16, 106), (0, 89, 17, 107), (0, 89, 18, 108), (0, 89, 19, 109), (0, 85, 4, 88), (0, 85, 3, 87), (0, 85, 2, 86), (0, 85, 1, 0), (0, 85, 0, 0), (0, 0, 9, 0), (0, 0, 8, 70), (0, 70, 0, 37), (0, 70, 1, 2), (0, 70, 11, 84), (0, 70, 10, 0), (0, 70, 9, 0), (0, 70, 8, 0), (0, 70, 7, 0), (0, 70, 6, 83), (0, 70, 5, 74), (0, 74, 8, 82), (0, 74, 7, 81), (0, 74, 6, 80), (0, 74, 5, 79), (0, 74, 4, 78), (0, 74, 3, 77)]
def gx_TC_1 : gx_T := [(0, 74, 2, 76), (0, 74, 1, 75), (0, 74, 0, 0), (0, 70, 4, 73), (0, 70, 3, 72), (0, 70, 2, 71), (0, 0, 7, 55), (0, 55, 0, 37), (0, 55, 1, 2), (0, 55, 11, 69), (0, 55, 10, 0), (0, 55, 9, 0), (0, 55, 8, 0), (0, 55, 7, 0), (0, 55, 6, 68), (0, 55, 5, 59), (0, 59, 8, 67), (0, 59, 7, 66), (0, 59, 6, 65), (0, 59, 5, 64), (0, 59, 4, 63), (0, 59, 3, 62), (0, 59, 2, 61), (0, 59, 1, 60), (0, 59, 0, 0), (0, 55, 4, 58), (0, 55, 3, 57), (0, 55, 2, 56), (0, 0, 6, 40), (0, 40, 0, 37), (0, 40, 1, 2), (0, 40, 11, 54), (0, 40, 10, 0), (0, 40, 9, 0), (0, 40, 8, 0), (0, 40, 7, 0), (0, 40, 6, 53), (0, 40, 5, 44), (0, 44, 8, 52), (0, 44, 7, 51), (0, 44, 6, 50), (0, 44, 5, 49), (0, 44, 4, 48), (0, 44, 3, 47), (0, 44, 2, 46), (0, 44, 1, 45), (0, 44, 0, 0), (0, 40, 4, 43), (0, 40, 3, 42), (0, 40, 2, 41), (0, 0, 5, 37), (0, 37, 1, 39), (0, 37, 0, 38), (0, 0, 4, 32), (0, 32, 4, 17), (0, 32, 10, 36), (0, 32, 5, 35), (0, 32, 3, 33), (0, 33, 0, 34), (0, 32, 2, 0)]
def gx_TC_2 : gx_T := [(0, 32, 1, -1), (0, 32, 0, 0), (0, 0, 3, 17), (4, 31, 0, 0), (4, 30, 0, 0), (0, 17, 14, 0), (0, 17, 13, 0), (25, 27, 0, 0), (0, 17, 6, 0), (0, 17, 4, 0), (49, 19, 0, -1), (49, 18, 0, 0), (0, 17, 1, 5), (0, 17, 0, 6), (0, 17, 18, 31), (0, 17, 17, 30), (0, 17, 16, 29), (0, 17, 15, 28), (0, 17, 12, 26), (0, 26, 0, 27), (0, 17, 11, 25), (0, 17, 10, 24), (0, 17, 9, 23), (0, 17, 8, 22), (0, 17, 7, 21), (0, 17, 5, 20), (0, 17, 3, 19), (0, 17, 2, 18), (0, 0, 2, 2), (4, 16, 0, 0), (4, 15, 0, 0), (0, 2, 14, 0), (0, 2, 13, 0), (25, 12, 0, 0), (0, 2, 6, 0), (0, 2, 4, 0), (49, 4, 0, -1), (49, 3, 0, 0), (0, 2, 1, 5), (0, 2, 0, 6), (0, 2, 18, 16), (0, 2, 17, 15), (0, 2, 16, 14), (0, 2, 15, 13), (0, 2, 12, 11), (0, 11, 0, 12), (0, 2, 11, 10), (0, 2, 10, 9), (0, 2, 9, 8), (0, 2, 8, 7), (0, 2, 7, 6), (0, 2, 5, 5), (0, 2, 3, 4), (0, 2, 2, 3), (0, 0, 1, 0), (0, 0, 0, 1)]
def gx_TC : gx_T := gx_TC_0 ++ (gx_TC_1 ++ (gx_TC_2))
def gx_TM_0 : gx_T := [(0, 124, 88, 170), (0, 124, 87, 169), (0, 124, 86, 168), (0, 124, 84, 167), (0, 124, 82, 166), (0, 124, 80, 165), (0, 124, 79, 164), (0, 124, 78, 163), (0, 124, 77, 162), (0, 124, 76, 161), (0, 124, 75, -1), (0, 124, 71, 160), (0, 124, 70, 159), (0, 124, 69, 158), (0, 124, 68, 157), (0, 124, 67, 156), (0, 124, 66, 155), (0, 124, 65, 154), (0, 124, 64, 153), (0, 124, 63, 152), (0, 124, 62, 151), (0, 124, 61, 150), (0, 124, 60, 149), (0, 124, 59, 148), (0, 124, 58, 147), (0, 124, 57, 146), (0, 124, 55, 145), (0, 124, 54, 144), (0, 124, 47, 143), (0, 124, 46, 142), (0, 124, 44, 141), (0, 124, 43, 140), (0, 124, 42, 139), (0, 124, 41, 138), (0, 124, 40, 137), (0, 124, 39, 136), (0, 124, 38, 135), (0, 124, 37, 134), (0, 124, 36, 133), (0, 124, 35, 132), (0, 124, 34, 131), (0, 124, 33, 130), (0, 124, 32, 129), (0, 124, 31, 128), (0, 124, 30, 127), (0, 124, 5, -1), (0, 124, 3, 126), (0, 126, 96, 32), (0, 126, 95, 110), (0, 126, 94, 119), (0, 126, 93, 111), (0, 126, 92, 32), (0, 126, 91, 119), (0, 126, 90, 111), (0, 126, 89, 110), (0, 126, 88, 115), (0, 126, 87, 32), (0, 126, 86, 101), (0, 126, 85, 103), (0, 126, 84, 97)]
def gx_TM_1 : gx_T := [(0, 126, 83, 32), (0, 126, 82, 114), (0, 126, 81, 97), (0, 126, 80, 102), (0, 126, 79, 32), (0, 126, 78, 116), (0, 126, 77, 105), (0, 126, 76, 97), (0, 126, 75, 103), (0, 126, 74, 32), (0, 126, 73, 116), (0, 126, 72, 104), (0, 126, 71, 103), (0, 126, 70, 105), (0, 126, 69, 101), (0, 126, 68, 119), (0, 126, 67, 32), (0, 126, 66, 116), (0, 126, 65, 111), (0, 126, 64, 110), (0, 126, 63, 32), (0, 126, 62, 114), (0, 126, 61, 111), (0, 126, 60, 32), (0, 126, 59, 100), (0, 126, 58, 110), (0, 126, 57, 97), (0, 126, 56, 32), (0, 126, 55, 101), (0, 126, 54, 114), (0, 126, 53, 111), (0, 126, 52, 99), (0, 126, 51, 115), (0, 126, 50, 32), (0, 126, 49, 101), (0, 126, 48, 100), (0, 126, 47, 97), (0, 126, 46, 102), (0, 126, 45, 32), (0, 126, 44, 112), (0, 126, 43, 101), (0, 126, 42, 101), (0, 126, 41, 100), (0, 126, 40, 32), (0, 126, 39, 119), (0, 126, 38, 97), (0, 126, 37, 108), (0, 126, 36, 32), (0, 126, 35, 100), (0, 126, 34, 101), (0, 126, 33, 101), (0, 126, 32, 115), (0, 126, 31, 32), (0, 126, 30, 116), (0, 126, 29, 115), (0, 126, 28, 97), (0, 126, 27, 99), (0, 126, 26, 32), (0, 126, 25, 114), (0, 126, 24, 101)]
def gx_TM_2 : gx_T := [(0, 126, 23, 107), (0, 126, 22, 108), (0, 126, 21, 97), (0, 126, 20, 119), (0, 126, 19, 32), (0, 126, 18, 109), (0, 126, 17, 114), (0, 126, 16, 97), (0, 126, 15, 102), (0, 126, 14, 32), (0, 126, 13, 101), (0, 126, 12, 99), (0, 126, 11, 105), (0, 126, 10, 32), (0, 126, 9, 101), (0, 126, 8, 101), (0, 126, 7, 114), (0, 126, 6, 116), (0, 126, 5, 32), (0, 126, 4, 100), (0, 126, 3, 108), (0, 126, 2, 101), (0, 126, 1, 105), (0, 126, 0, 102), (0, 124, 0, 125)]
def gx_TM : gx_T := gx_TM_0 ++ (gx_TM_1 ++ (gx_TM_2 ++ (gx_TC)))
set_option maxRecDepth 100000 in
theorem gx_C1 : gx_ex 5 122 [.inr (.inr 0)] 1 124 [] = some gx_TC := by decide +kernel
set_option maxRecDepth 100000 in
theorem gx_M0 : ((gx_run (gx_ex 5) [.inr (.inr 124)] 171 gI175 [] 125 gx_TC).elim false fun q => decide (q.1.length = 0) && (decide (q.2.1 = 171) && decide (q.2.2 = gx_TM))) = true := by decide +kernel
theorem gx_M1 : gx_run (gx_ex 5) [.inr (.inr 124)] 171 gI175 [] 125 gx_TC = some ([], 171, gx_TM) := by
  have h := gx_M0
  generalize gx_run (gx_ex 5) [.inr (.inr 124)] 171 gI175 [] 125 gx_TC = r at h
  cases r with
  | none => cases h
  | some q =>
    obtain ⟨a, b, c⟩ := q
    simp only [Option.elim, Bool.and_eq_true, decide_eq_true_eq] at h
    obtain ⟨h3, h4, h5⟩ := h
    rw [List.eq_nil_of_length_eq_zero h3, h4, h5]
theorem gx_PT : PT (gx_s gx_TM) := by
  have h : ptL.all (fun q => decide (gx_s gx_TM q.1 q.2.1 = q.2.2)) = true := by decide +kernel
  exact fun q hq => of_decide_eq_true (List.all_eq_true.mp h q hq)
/-- nothing told -/
def gP0 : aP := aP.mk 6 5 0 0 0 0 (fun _ => 0) (fun _ => -1) (fun _ => 0) (fun _ => 0) (fun _ => 0) (fun _ => 0) (fun _ => 0) (fun _ => 0) (fun _ => 0) (fun _ _ => none)
theorem gx_rg {f : Int → Int} {v : Int} {lo n : Nat} (h : ∀ j : Nat, j < n → f ((lo + j : Nat) : Int) = v) (c : Int) (h0 : (lo : Int) ≤ c) (h1 : c < (lo : Int) + (n : Int)) : f c = v := by
  obtain ⟨j, hj⟩ : ∃ j : Nat, c = ((lo + j : Nat) : Int) := ⟨(c - lo).toNat, by omega⟩
  rw [hj]
  exact h j (by omega)
theorem gx_un {a : Int} (h : gx_TM.all (fun q => decide (q.2.1 ≠ a)) = true) (hk : (shM.getD a.toNat (9, 0)).1 = 1 ∨ (shM.getD a.toNat (9, 0)).1 = 2) (j : Int) : gx_s gx_TM a j = 0 := by
  rw [gx_s_un h]
  unfold gx_0 gx_dv
  generalize shM.getD a.toNat (9, 0) = kd at hk
  obtain ⟨t, n⟩ := kd
  simp only at hk
  rcases hk with rfl | rfl <;> rfl
theorem gP0_w : wP gP0 := wP.mk (by decide) (by decide) (by decide) (by decide) (by decide) (by decide) (by decide) (fun c _ _ => (by decide : (0 : Int) ≤ 0 ∧ (0 : Int) ≤ 2)) (fun c _ _ => (by decide : (-1 : Int) ≤ -1 ∧ (-1 : Int) < 0)) (fun f h0 h1 => absurd (show f < 0 from h1) (by omega)) (fun f h0 h1 => absurd (show f < 0 from h1) (by omega)) (fun f h0 h1 => absurd (show f < 0 from h1) (by omega)) (fun f h0 h1 => absurd (show f < 0 from h1) (by omega)) (fun f _ _ => (by decide : (0 : Int) ≤ 0 ∧ (0 : Int) ≤ 100))
theorem gx_m3 : ∀ j : Nat, j < 48 → gx_s gx_TM 3 ((0 + j : Nat) : Int) = 0 := by decide +kernel
theorem gx_m4 : ∀ j : Nat, j < 48 → gx_s gx_TM 4 ((0 + j : Nat) : Int) = -1 := by decide +kernel
theorem gx_m12 : ∀ j : Nat, j < 24 → gx_s gx_TM 12 ((0 + j : Nat) : Int) = 0 := by decide +kernel
theorem gx_m15 : ∀ j : Nat, j < 3 → gx_s gx_TM 15 ((0 + j : Nat) : Int) = 0 := by decide +kernel
theorem gx_m16 : ∀ j : Nat, j < 3 → gx_s gx_TM 16 ((0 + j : Nat) : Int) = 0 := by decide +kernel
theorem gx_m126 : ∀ j : Nat, j < 97 → gx_s gx_TM 126 (j : Int) = fRw (j : Int) := by decide +kernel
section GXI
variable {σ2 σ3 σ4 : sx_S}
theorem gx_c0 (e : ∀ a i : Int, a < 124 → σ4 a i = gx_s gx_TM a i) : cP 2 σ4 gP0 := by
  refine cP.mk ?_ ?_ ?_ ?_ ?_ ?_ (fun c h0 h1 => ?_) (fun c h0 h1 => ?_) (fun f h0 h1 => absurd (show f < 0 from h1) (by omega)) (fun f h0 h1 => absurd (show f < 0 from h1) (by omega)) (fun f h0 h1 => absurd (show f < 0 from h1) (by omega)) (fun f h0 h1 => absurd (show f < 0 from h1) (by omega)) (fun f h0 h1 => absurd (show f < 0 from h1) (by omega)) (fun f h0 h1 => absurd (show f < 0 from h1) (by omega)) (fun f h0 h1 => ?_) (fun f h0 h1 => ?_) (fun k nm h0 h1 _ => ?_)
  · rw [e _ _ (by decide)]; decide +kernel
  · rw [e _ _ (by decide)]; decide +kernel
  · rw [e _ _ (by decide)]; decide +kernel
  · rw [e _ _ (by decide)]; decide +kernel
  · rw [e _ _ (by decide)]; decide +kernel
  · rw [e _ _ (by decide)]; decide +kernel
  · rw [e _ _ (by decide)]; exact gx_rg (lo := 0) gx_m3 c h0 (by omega)
  · rw [e _ _ (by decide)]; exact gx_rg (lo := 0) gx_m4 c h0 (by omega)
  · rw [e _ _ (by decide), gx_un (a := 2 + 8) (by decide +kernel) (by decide)]; decide
  · rw [e _ _ (by decide)]; exact gx_rg (lo := 0) gx_m12 f h0 (by omega)
  · refine Or.inl ⟨?_, rfl⟩
    rw [e _ _ (by decide), e _ _ (by decide)]
    have h2 : gx_s gx_TM (2 + 14) k = 0 := gx_rg (lo := 0) gx_m16 k h0 (by omega)
    have h3 : gx_s gx_TM (2 + 13) k = 0 := gx_rg (lo := 0) gx_m15 k h0 (by omega)
    rw [h2, h3]
    decide
theorem gx_r0 (f1 : fr FPl (gx_s gx_TM) σ2) (p0 : pPl0 σ2) (k1 : ∀ c : Int, 48 ≤ c → c < 96 → σ2 127 c = 0 ∧ σ2 128 c = -1) (k2 : ∀ c : Int, 24 ≤ c → c < 48 → σ2 135 c = 0) (k3 : ∀ c : Int, 3 ≤ c → c < 6 → σ2 136 c = 0) (kp : pKp 142 σ2 σ3) : rP σ3 gP0 := by
  obtain ⟨q0, q1, q2⟩ := kp
  obtain ⟨v18, v19, v20, v21, v22, v51, v23, v24, v25, v26, v27, v28, v29⟩ := p0
  have e136 : ∀ k : Int, 0 ≤ k → k < 3 → σ3 136 (fLk k) = 0 := fun k h0 h1 => by
    have hb : 0 ≤ fLk k ∧ fLk k < 3 := by unfold fLk; split <;> omega
    rw [q2 136 (fLk k) (by decide) (by decide) hb.1 (show fLk k < 3 from hb.2)]
    exact k3 (3 + fLk k) (by omega) (by omega)
  refine rP.mk ?_ ?_ ?_ ?_ ?_ ?_ (fun c h0 h1 => ?_) (fun c h0 h1 => ?_) (fun f h0 h1 => absurd (show f < 0 from h1) (by omega)) (fun f h0 h1 => absurd (show f < 0 from h1) (by omega)) (fun f h0 h1 => absurd (show f < 0 from h1) (by omega)) (fun f h0 h1 => absurd (show f < 0 from h1) (by omega)) (fun f h0 h1 => absurd (show f < 0 from h1) (by omega)) (fun f h0 h1 => absurd (show f < 0 from h1) (by omega)) (fun f h0 h1 => ?_) (fun f h0 h1 => ?_) (fun k nm h0 h1 _ => rfl) (fun k h0 h1 h2 => absurd (e136 k h0 h1) h2) (fun k nm h0 h1 h2 => absurd (e136 k h0 h1) h2)
  · exact (q1 12 (by decide) (by decide)).trans v18
  · exact (q1 13 (by decide) (by decide)).trans v19
  · exact (q1 14 (by decide) (by decide)).trans v20
  · exact (q1 15 (by decide) (by decide)).trans v21
  · exact (q1 16 (by decide) (by decide)).trans v22
  · exact (q1 17 (by decide) (by decide)).trans v23
  · rw [q2 127 c (by decide) (by decide) h0 (show c < 48 from h1)]; exact (k1 (48 + c) (by omega) (by omega)).1
  · rw [q2 128 c (by decide) (by decide) h0 (show c < 48 from h1)]; exact (k1 (48 + c) (by omega) (by omega)).2
  · rw [q2 134 f (by decide) (by decide) h0 (show f < 5 from h1), f1 134 _ (by unfold FPl; omega), gx_un (a := 134) (by decide +kernel) (by decide)]; decide
  · rw [q2 135 f (by decide) (by decide) h0 (show f < 24 from h1)]; exact k2 (24 + f) (by omega) (by omega)
theorem gx_sck (f1 : fr FPl (gx_s gx_TM) σ2) : SCK σ2 := by
  refine ⟨fun j _ _ => ?_, ?_⟩
  · rw [f1 145 _ (by unfold FPl; omega), gx_un (a := 145) (by decide +kernel) (by decide)]; unfold pB12; decide
  · rw [f1 124 56 (by unfold FPl; omega)]; left; decide +kernel
theorem gx_inv0 (f1 : fr FPl (gx_s gx_TM) σ2) (kp : pKp 142 σ2 σ3) (fb : fr FBr σ3 σ4) (gr : GR 0 gP0 (aM0 gP0) σ4) (rw9 : rW gP0 σ4 (aW0 gP0)) (e74 : σ4 124 74 = 0) (e75 : σ4 124 75 = -1) (e83 : σ4 124 83 = 0) (e85 : σ4 124 85 = 0) : Inv 0 σ4 ∧ σ4 171 = gx_0 171 := by
  have eC : ∀ a i : Int, a < 124 → σ4 a i = gx_s gx_TM a i := fun a i h => by
    rw [fb a i (by unfold FBr; omega), kp.1 a i (by omega) (by omega), f1 a i (by unfold FPl; omega)]
  have eR : ∀ a i : Int, ¬ FBr a i → ¬ (a = 124 ∧ 12 ≤ i ∧ i ≤ 17) → ¬ (127 ≤ a ∧ a < 142 ∧ 0 ≤ i ∧ i < fHalf a) → ¬ FPl a i → σ4 a i = gx_s gx_TM a i := fun a i h1 h2 h3 h4 => by
    rw [fb a i h1, kp.1 a i h2 h3, f1 a i h4]
  refine ⟨⟨2, gP0, aM0 gP0, aW0 gP0, aM0 gP0, aW0 gP0, aC.mk 0 (-1) (fun _ => 0) (fun _ => 0) (fun _ => 0) (fun _ => 0) (fun _ => 0), 0, 0, 0, 0, 0, -1, fun _ => 0, ?_, ?_, ?_, ?_⟩, ?_⟩
  · exact jW.mk (Or.inl rfl) gP0_w (wM0 gP0_w) (wW0 gP0_w) (wM0 gP0_w) (wW0 gP0_w) (wC.mk (by decide) (by decide) (fun k h0 h1 => absurd (show k < 0 from h1) (by omega)) (fun k h0 h1 => absurd (show k < 0 from h1) (by omega))) (Or.inl rfl) (by decide) (by decide) (by decide) (by decide)
  · refine jC.mk (GC.mk gr.pt ?_ (gx_c0 eC) (cS.empty0 (Or.inl rfl) rfl ?_ ?_ ?_ ?_) ⟨fun j _ _ => ?_, ?_⟩) (cW.mk (fun w h0 h1 => absurd (show w < 0 from h1) (by omega)) (fun w h0 h1 => absurd (show w < 0 from h1) (by omega)) (fun w h0 h1 => absurd (show w < 0 from h1) (by omega)) (fun f _ _ => ?_) ?_) ?_ ?_ ?_ (fun z => absurd z (by decide)) ?_ ?_ (cC.mk ?_ ?_ (fun k h0 h1 => absurd (show k < 0 from h1) (by omega)) (fun k h0 h1 => absurd (show k < 0 from h1) (by omega)) (fun k h0 h1 => absurd (show k < 0 from h1) (by omega)) (fun k h0 h1 => absurd (show k < 0 from h1) (by omega)) (fun k h0 h1 => absurd (show k < 0 from h1) (by omega))) ?_ (fun j h0 h1 => absurd h1 (by omega)) ?_ ?_ (fun f _ _ => ?_)
    · rw [eC _ _ (by decide)]; decide +kernel
    · rw [eC _ _ (by decide)]; decide +kernel
    · rw [eC _ _ (by decide)]; decide +kernel
    · rw [eC _ _ (by decide)]; decide +kernel
    · rw [eC _ _ (by decide)]; decide +kernel
    · rw [eC _ _ (by decide), gx_un (a := 39) (by decide +kernel) (by decide)]; unfold pB12; decide
    · rw [eC _ _ (by decide)]; left; decide +kernel
    · rw [eC _ _ (by decide), gx_un (a := 40 + 13) (by decide +kernel) (by decide)]; rfl
    · rw [eC _ _ (by decide)]; decide +kernel
    · rw [eC _ _ (by decide)]; decide +kernel
    · rw [eC _ _ (by decide)]; decide +kernel
    · rw [eC _ _ (by decide)]; decide +kernel
    · rw [eC _ _ (by decide)]; decide +kernel
    · rw [eC _ _ (by decide)]; decide +kernel
    · rw [eC _ _ (by decide)]; decide +kernel
    · rw [eC _ _ (by decide)]; decide +kernel
    · rw [eC _ _ (by decide)]; decide +kernel
    · rw [eC _ _ (by decide)]; decide +kernel
    · rw [eC _ _ (by decide)]; decide +kernel
    · rw [eC _ _ (by decide), gx_un (a := 19 - 2 + 8) (by decide +kernel) (by decide)]; decide
  · refine jR.mk gr rw9 e85 (fun z => absurd z (by decide)) e83 (rC.mk e74 e75 (fun k h0 h1 => absurd (show k < 0 from h1) (by omega)) (fun k h0 h1 => absurd (show k < 0 from h1) (by omega)) (fun k h0 h1 => absurd (show k < 0 from h1) (by omega)) (fun k h0 h1 => absurd (show k < 0 from h1) (by omega)) (fun k h0 h1 => absurd (show k < 0 from h1) (by omega)) (fun k h0 h1 => absurd (show k < 0 from h1) (by omega))) ?_ (fun j h0 h1 => absurd h1 (by omega)) ?_ ?_ (fun f h0 h1 => ?_) (fun j h0 h1 => ?_)
    · rw [eR 124 1 (by unfold FBr; omega) (by omega) (by omega) (by unfold FPl; omega)]; decide +kernel
    · rw [eR 124 4 (by unfold FBr; omega) (by omega) (by omega) (by unfold FPl; omega)]; decide +kernel
    · rw [eR 124 5 (by unfold FBr; omega) (by omega) (by omega) (by unfold FPl; omega)]; decide +kernel
    · rw [eR 134 (5 + f) (by unfold FBr; omega) (by omega) (fun z => absurd z.2.2.2 (by rw [show fHalf 134 = 5 by decide]; omega)) (by unfold FPl; omega), gx_un (a := 134) (by decide +kernel) (by decide)]
      decide
    · rw [eR 126 j (by unfold FBr; omega) (by omega) (by omega) (by unfold FPl; omega)]
      have h5 := gx_m126 j.toNat (by omega)
      rw [show ((j.toNat : Nat) : Int) = j by omega] at h5
      exact h5
  · trivial
  · funext i
    rw [eR 171 i (by unfold FBr; omega) (by omega) (by omega) (by unfold FPl; omega), gx_s_un (k := 171) (by decide +kernel)]
end GXI
set_option maxRecDepth 20000 in
/-- THE REFERENCE MADE -/
theorem gx_Model {X : sx_X} (hX : gx_X X) (hN : gx_N X) (hst : sx_stb X) : gx_Run X 175 [.inr (.inr 124)] 125 171 (gx_s gx_TC) (fun σ' => Inv 0 σ' ∧ σ' 171 = gx_0 171) := by
  refine gx_entry (own := 12) (by decide +kernel) (by decide +kernel) hst rfl (by decide +kernel) (fun p e s m args below meth c L R hF hsz hR hL hr hlk => ?_)
  have hL0 : L[0]? = some (some (.inr (.inr 124))) := hL 0 _ rfl
  have h9 := gx_run_ok (e := e) (below := below) (Q := MQ below (gx_Qc X 171 (fun σ' => Inv 0 σ' ∧ σ' 171 = gx_0 171)) args s (171 - 125) (gx_z 171 - gx_z 125) (sx_A X)) hF hX hN hsz (by decide) hR hL (gx_ok hX hN hst 5) gI175 0 [] 125 gx_TC [] 171 gx_TM gI175_ok gx_M1 (Nat.le_refl _) (by decide) (fun h1 h2 => ?_)
  · rw [Nat.sub_self, Nat.sub_self] at h9
    exact h9
  have hF1 : sx_Fx p s m args meth c R (171 - 125) (gx_z 171 - gx_z 125) X 12 (sx_M 175) := gx_Fx hF hR
  rw [show 0 + gx_ln gI175 = 963 by decide +kernel]
  refine sx_st_ok hF1 (I := (1, .aload_n 0, [])) (k := fun L' st' _ σ' => L' = L ∧ st' = [.inr (.inr 124)] ∧ σ' = gx_s gx_TM) (by decide +kernel) (by decide +kernel) ?_ (fun L1 st1 σ1 hk => ?_)
  · show sx_lA L 0 _
    unfold sx_lA
    rw [hL0]
    exact ⟨rfl, rfl, rfl⟩
  obtain ⟨rfl, rfl, rfl⟩ := hk
  refine sx_st_ok hF1 (I := (3, .invokevirtual 157, [0, 189, 1, 12])) (k := fun L' st' _ σ' => L' = L1 ∧ st' = [] ∧ fr FPl (gx_s gx_TM) σ' ∧ pPl0 σ' ∧ (∀ c : Int, 48 ≤ c → c < 96 → σ' 127 c = 0 ∧ σ' 128 c = -1) ∧ (∀ c : Int, 24 ≤ c → c < 48 → σ' 135 c = 0) ∧ (∀ c : Int, 3 ≤ c → c < 6 → σ' 136 c = 0)) (by decide +kernel) (by decide +kernel) ?_ (fun L2 st2 σ2 hk => ?_)
  · refine ⟨Nat.le_refl _, by decide, rfl, ?_⟩
    exact c_RplainN gx_PT (fun σ' a1 a2 a3 a4 a5 => ⟨rfl, rfl, a1, a2, a3, a4, a5⟩)
  obtain ⟨rfl, rfl, f1, p0, k1, k2, k3⟩ := hk
  refine sx_st_ok hF1 (I := (1, .aload_n 0, [])) (k := fun L' st' _ σ' => L' = L2 ∧ st' = [.inr (.inr 124)] ∧ σ' = σ2) (by decide +kernel) (by decide +kernel) ?_ (fun L3 st3 σ3 hk => ?_)
  · show sx_lA L2 0 _
    unfold sx_lA
    rw [hL0]
    exact ⟨rfl, rfl, rfl⟩
  obtain ⟨rfl, rfl, rfl⟩ := hk
  refine sx_st_ok hF1 (I := (3, .invokevirtual 160, [0, 191, 1, 12])) (k := fun L' st' _ σ' => L' = L3 ∧ st' = [] ∧ Inv 0 σ' ∧ σ' 171 = gx_0 171) (by decide +kernel) (by decide +kernel) ?_ (fun L4 st4 σ4 hk => ?_)
  · refine ⟨Nat.le_refl _, by decide, rfl, ?_⟩
    exact c_Rkeept2N gP0_w (f1.ptpl gx_PT) (gx_sck f1) (fun i h0 h1 => Or.inl (k3 i h0 h1)) (fun σ1 kp => gx_r0 f1 p0 k1 k2 k3 kp) (fun σ1 σ' kp fb g9 w9 e74 e75 e83 e85 => ⟨rfl, rfl, gx_inv0 f1 kp fb g9 w9 e74 e75 e83 e85⟩)
  obtain ⟨rfl, rfl, hi⟩ := hk
  exact gx_ret hF (hr.trans (by decide +kernel)) hlk (by decide +kernel) hi
