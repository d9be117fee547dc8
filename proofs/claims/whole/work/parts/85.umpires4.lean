/-! UMPIRES, both searches find the same (by wip/whole) -/
section SXM18
variable {X : sx_X} {Q : sx_R} {p : Int} {σ σ0 σ' σ1 σ2 : sx_S} {P : aP} {A : aM} {N g a b c : Int}
theorem or0 (x y : Int) : sx_xorL (sx_orL x 0) y = sx_xorL x y := by
  unfold sx_xorL sx_orL
  rw [Int64.ofInt_toInt]
  have e : Int64.ofInt x ||| Int64.ofInt 0 = Int64.ofInt x := by
    apply Int64.toBitVec_inj.mp
    rw [Int64.toBitVec_or, show (Int64.ofInt 0).toBitVec = 0#64 from by decide, BitVec.or_zero]
  rw [e]
theorem or00 (x y : Int) : sx_xorL (sx_orL (sx_orL x 0) 0) y = sx_xorL x y := by rw [or0, or0]
theorem and_m (x : Int) : sx_andL x (sx_xorL 0 (-1)) = (Int64.ofInt x).toInt := by
  unfold sx_andL sx_xorL
  rw [Int64.ofInt_toInt]
  congr 1
  apply Int64.toBitVec_inj.mp
  rw [Int64.toBitVec_and, show (Int64.ofInt 0 ^^^ Int64.ofInt (-1)).toBitVec = BitVec.allOnes 64 from by decide, BitVec.and_allOnes]
theorem cv_t (ht : P.ki a = 1) (hg : -9223372036854775808 ≤ g ∧ g ≤ 9223372036854775807) : cv P g a = g := by
  unfold cv fS
  rw [if_pos ht, and_m, Int64.toInt_ofInt_of_le (by omega) (by omega)]
theorem cv_t2 (ht : P.ki b = 1) : cv P (cv P g a) b = cv P g a := by
  unfold cv
  rw [show fS P b = 0 from if_pos ht, and_m]
  unfold sx_andL
  rw [Int64.ofInt_toInt]
theorem cv2 : cv P (cv P g a) b = sx_andL g (sx_xorL (sx_orL (fS P a) (fS P b)) (-1)) := by
  unfold cv; exact and_not2 g _ _
theorem cv3 : cv P (cv P (cv P g a) b) c = sx_andL g (sx_xorL (sx_orL (sx_orL (fS P a) (fS P b)) (fS P c)) (-1)) := by
  rw [show cv P (cv P (cv P g a) b) c = sx_andL (cv P (cv P g a) b) (sx_xorL (fS P c) (-1)) from rfl, cv2, and_not2]
theorem tp1 (hg : -9223372036854775808 ≤ g ∧ g ≤ 9223372036854775807) (h0 : ¬ g = 0) : tp P 1 g a b c ↔ cv P g a = 0 := by
  have e : tp P 1 g a b c ↔ (¬ P.ki a = 1 ∧ cv P g a = 0) := by
    unfold tp cv
    rw [if_pos (by decide), if_pos (by decide), or00]
    exact ⟨fun z => ⟨z.1, z.2.2.2⟩, fun z => ⟨z.1, fun y => absurd (by decide) y, fun y => absurd (by decide) y, z.2⟩⟩
  rw [e]
  exact ⟨fun z => z.2, fun z => ⟨fun y => h0 (by rw [← cv_t y hg]; exact z), z⟩⟩
theorem tp2 (hg : -9223372036854775808 ≤ g ∧ g ≤ 9223372036854775807) (h1 : pN1 P N g) (ha : 0 ≤ a ∧ a < N) (hb : 0 ≤ b ∧ b < N) : tp P 2 g a b c ↔ cv P (cv P g a) b = 0 := by
  have e : tp P 2 g a b c ↔ (¬ P.ki a = 1 ∧ ¬ P.ki b = 1 ∧ cv P (cv P g a) b = 0) := by
    rw [cv2]
    unfold tp
    rw [if_neg (by decide), if_pos (by decide), or0]
    exact ⟨fun z => ⟨z.1, z.2.1 (by decide), z.2.2.2⟩, fun z => ⟨z.1, fun _ => z.2.1, fun y => absurd (by decide) y, z.2.2⟩⟩
  rw [e]
  refine ⟨fun z => z.2.2, fun z => ⟨fun y => ?_, fun y => ?_, z⟩⟩
  · rw [cv_t y hg] at z; exact h1 b hb.1 hb.2 z
  · rw [cv_t2 y] at z; exact h1 a ha.1 ha.2 z
theorem tp3 (hg : -9223372036854775808 ≤ g ∧ g ≤ 9223372036854775807) (h2 : pN2 P N 0 g) (ha : 0 ≤ a ∧ a < b) (hb : b < c ∧ c < N) : tp P 3 g a b c ↔ cv P (cv P (cv P g a) b) c = 0 := by
  have e : tp P 3 g a b c ↔ (¬ P.ki a = 1 ∧ ¬ P.ki b = 1 ∧ ¬ P.ki c = 1 ∧ cv P (cv P (cv P g a) b) c = 0) := by
    rw [cv3]
    unfold tp
    rw [if_neg (by decide), if_neg (by decide)]
    exact ⟨fun z => ⟨z.1, z.2.1 (by decide), z.2.2.1 (by decide), z.2.2.2⟩, fun z => ⟨z.1, fun _ => z.2.1, fun _ => z.2.2.1, z.2.2.2⟩⟩
  rw [e]
  refine ⟨fun z => z.2.2.2, fun z => ⟨fun y => ?_, fun y => ?_, fun y => ?_, z⟩⟩
  · rw [cv_t y hg] at z; exact h2 b c (by omega) hb.1 hb.2 z
  · rw [cv_t2 y] at z; exact h2 a c ha.1 (by omega) hb.2 z
  · rw [cv_t2 y] at z; exact h2 a b ha.1 ha.2 (by omega) z
theorem r2 : lo2 2 a = a + 1 ∧ hi2 2 N = N ∧ lo3 2 b = 47 ∧ hi3 2 N = 48 ∧ lo2 3 a = a + 1 ∧ hi2 3 N = N ∧ lo3 3 b = b + 1 ∧ hi3 3 N = N ∧ lo2 1 a = 47 ∧ hi2 1 N = 48 ∧ lo3 1 b = 47 ∧ hi3 1 N = 48 := ⟨rfl, rfl, rfl, rfl, rfl, rfl, rfl, rfl, rfl, rfl, rfl, rfl⟩
theorem tN_1 (hg : -9223372036854775808 ≤ g ∧ g ≤ 9223372036854775807) (h0 : ¬ g = 0) (h : tN3 P N 1 g) : pN1 P N g := fun j y0 y1 z => h j 47 47 y0 y1 (show lo2 1 j ≤ 47 from Int.le_refl _) (show (47 : Int) < 48 by decide) (show lo3 1 47 ≤ 47 from Int.le_refl _) (show (47 : Int) < 48 by decide) ((tp1 hg h0).mpr z)
theorem tN_2 (hg : -9223372036854775808 ≤ g ∧ g ≤ 9223372036854775807) (h1 : pN1 P N g) (h : tN3 P N 2 g) : pN2 P N 0 g := fun i j y0 y1 y2 z => h i j 47 y0 (by omega) (show i + 1 ≤ j by omega) (show j < N from y2) (show lo3 2 j ≤ 47 from Int.le_refl _) (show (47 : Int) < 48 by decide) ((tp2 hg h1 ⟨y0, by omega⟩ ⟨by omega, y2⟩).mpr z)
theorem tN_3 (hg : -9223372036854775808 ≤ g ∧ g ≤ 9223372036854775807) (h2 : pN2 P N 0 g) (h : tN3 P N 3 g) : pN3 P N g := fun i y0 y1 j k y2 y3 y4 z => h i j k y0 y1 (show i + 1 ≤ j from y2) (show j < N by omega) (show j + 1 ≤ k by omega) (show k < N from y4) ((tp3 hg h2 ⟨y0, by omega⟩ ⟨y3, y4⟩).mpr z)
theorem tA_1 (hg : -9223372036854775808 ≤ g ∧ g ≤ 9223372036854775807) (h0 : ¬ g = 0) (h : tA3 P N 1 g a b c) : pL1 P N g a := by
  obtain ⟨⟨h1, h2, h3, h4, h5, h6, h7⟩, n1, n2, n3⟩ := h
  exact ⟨h1, h2, (tp1 hg h0).mp h7, fun j y0 y1 z => n1 j 47 47 y0 y1 (show lo2 1 j ≤ 47 from Int.le_refl _) (show (47 : Int) < 48 by decide) (show lo3 1 47 ≤ 47 from Int.le_refl _) (show (47 : Int) < 48 by decide) ((tp1 hg h0).mpr z)⟩
theorem tA_2 (hg : -9223372036854775808 ≤ g ∧ g ≤ 9223372036854775807) (hn : pN1 P N g) (h : tA3 P N 2 g a b c) : pL2 P N 0 g a b := by
  obtain ⟨⟨h1, h2, h3, h4, h5, h6, h7⟩, n1, n2, n3⟩ := h
  have h3' : a + 1 ≤ b := h3
  have h4' : b < N := h4
  refine ⟨h1, by omega, h4', (tp2 hg hn ⟨h1, h2⟩ ⟨by omega, h4'⟩).mp h7, fun i j y0 y1 y2 y3 z => ?_, fun j y0 y1 z => ?_⟩
  · exact n1 i j 47 y0 y1 (show i + 1 ≤ j by omega) (show j < N from y3) (show lo3 2 j ≤ 47 from Int.le_refl _) (show (47 : Int) < 48 by decide) ((tp2 hg hn ⟨y0, by omega⟩ ⟨by omega, y3⟩).mpr z)
  · exact n2 j 47 (show a + 1 ≤ j by omega) y1 (show lo3 2 j ≤ 47 from Int.le_refl _) (show (47 : Int) < 48 by decide) ((tp2 hg hn ⟨h1, h2⟩ ⟨by omega, by omega⟩).mpr z)
theorem tA_3 (hg : -9223372036854775808 ≤ g ∧ g ≤ 9223372036854775807) (hn : pN2 P N 0 g) (h : tA3 P N 3 g a b c) : pL3 P N g a b c := by
  obtain ⟨⟨h1, h2, h3, h4, h5, h6, h7⟩, n1, n2, n3⟩ := h
  have h3' : a + 1 ≤ b := h3
  have h5' : b + 1 ≤ c := h5
  have h6' : c < N := h6
  refine ⟨h1, h2, ⟨h3', by omega, h6', (tp3 hg hn ⟨h1, by omega⟩ ⟨by omega, h6'⟩).mp h7, fun i j y0 y1 y2 y3 z => ?_, fun j y0 y1 z => ?_⟩, fun i y0 y1 j k y2 y3 y4 z => ?_⟩
  · exact n2 i j y0 y1 (show i + 1 ≤ j by omega) (show j < N from y3) ((tp3 hg hn ⟨h1, by omega⟩ ⟨y2, y3⟩).mpr z)
  · exact n3 j (show b + 1 ≤ j by omega) y1 ((tp3 hg hn ⟨h1, by omega⟩ ⟨by omega, by omega⟩).mpr z)
  · exact n1 i j k y0 y1 (show i + 1 ≤ j from y2) (show j < N by omega) (show j + 1 ≤ k by omega) (show k < N from y4) ((tp3 hg hn ⟨y0, by omega⟩ ⟨y3, y4⟩).mpr z)
theorem pL1_u {d : Int} (h : pL1 P N g a) (h' : pL1 P N g d) : a = d := by
  by_cases e : a < d
  · exact absurd h.2.2.1 (h'.2.2.2 a h.1 e)
  · by_cases e' : d < a
    · exact absurd h'.2.2.1 (h.2.2.2 d h'.1 e')
    · omega
theorem pL2_u {s d f : Int} (h : pL2 P N s g a b) (h' : pL2 P N s g d f) : a = d ∧ b = f := by
  obtain ⟨h1, h2, h3, h4, h5, h6⟩ := h
  obtain ⟨k1, k2, k3, k4, k5, k6⟩ := h'
  have e : a = d := by
    by_cases e : a < d
    · exact absurd h4 (k5 a b h1 e h2 h3)
    · by_cases e' : d < a
      · exact absurd k4 (h5 d f k1 e' k2 k3)
      · omega
  subst e
  refine ⟨rfl, ?_⟩
  by_cases e : b < f
  · exact absurd h4 (k6 b h2 e)
  · by_cases e' : f < b
    · exact absurd k4 (h6 f k2 e')
    · omega
theorem pL3_u {d e f : Int} (h : pL3 P N g a b c) (h' : pL3 P N g d e f) : a = d ∧ b = e ∧ c = f := by
  obtain ⟨h1, h2, h3, h4⟩ := h
  obtain ⟨k1, k2, k3, k4⟩ := h'
  have e : a = d := by
    by_cases e9 : a < d
    · exact absurd h3.2.2.2.1 (k4 a h1 e9 b c h3.1 h3.2.1 h3.2.2.1)
    · by_cases e8 : d < a
      · exact absurd k3.2.2.2.1 (h4 d k1 e8 e f k3.1 k3.2.1 k3.2.2.1)
      · omega
  subst e
  exact ⟨rfl, pL2_u h3 k3⟩
/-- how many there are is one number, and which -/
theorem pUm_u {m m' : Int} {u u' : Int → Int} (h : pUm P N g m u) (h' : pUm P N g m' u') : m = m' ∧ ∀ k : Int, 0 ≤ k → k < m → u k = u' k := by
  rcases h with ⟨h1, h2⟩ | ⟨h1, h2, h3⟩ | ⟨h1, h2, h3, h4⟩ | ⟨h1, h2, h3, h4, h5⟩ | ⟨h1, h2, h3, h4, h5⟩ <;> rcases h' with ⟨k1, k2⟩ | ⟨k1, k2, k3⟩ | ⟨k1, k2, k3, k4⟩ | ⟨k1, k2, k3, k4, k5⟩ | ⟨k1, k2, k3, k4, k5⟩
  all_goals first | (exact absurd h2 k1) | (exact absurd k2 h1) | skip
  · exact ⟨by omega, fun k y0 y1 => by omega⟩
  · refine ⟨by omega, fun k y0 y1 => ?_⟩
    rw [show k = 0 by omega]; exact pL1_u h3 k3
  · exact absurd h3.2.2.1 (k3 _ h3.1 h3.2.1)
  · exact absurd h3.2.2.1 (k3 _ h3.1 h3.2.1)
  · exact absurd h3.2.2.1 (k3 _ h3.1 h3.2.1)
  · exact absurd k3.2.2.1 (h3 _ k3.1 k3.2.1)
  · refine ⟨by omega, fun k y0 y1 => ?_⟩
    have e := pL2_u h4 k4
    rcases (show k = 0 ∨ k = 1 by omega) with e9 | e9
    · rw [e9]; exact e.1
    · rw [e9]; exact e.2
  · exact absurd h4.2.2.2.1 (k4 _ _ h4.1 h4.2.1 h4.2.2.1)
  · exact absurd h4.2.2.2.1 (k4 _ _ h4.1 h4.2.1 h4.2.2.1)
  · exact absurd k3.2.2.1 (h3 _ k3.1 k3.2.1)
  · exact absurd k4.2.2.2.1 (h4 _ _ k4.1 k4.2.1 k4.2.2.1)
  · refine ⟨by omega, fun k y0 y1 => ?_⟩
    have e := pL3_u h5 k5
    rcases (show k = 0 ∨ k = 1 ∨ k = 2 by omega) with e9 | e9 | e9
    · rw [e9]; exact e.1
    · rw [e9]; exact e.2.1
    · rw [e9]; exact e.2.2
  · exact absurd h5.2.2.1.2.2.2.1 (k5 _ h5.1 h5.2.1 _ _ h5.2.2.1.1 h5.2.2.1.2.1 h5.2.2.1.2.2.1)
  · exact absurd k3.2.2.1 (h3 _ k3.1 k3.2.1)
  · exact absurd k4.2.2.2.1 (h4 _ _ k4.1 k4.2.1 k4.2.2.1)
  · exact absurd k5.2.2.1.2.2.2.1 (h5 _ k5.1 k5.2.1 _ _ k5.2.2.1.1 k5.2.2.1.2.1 k5.2.2.1.2.2.1)
  · exact ⟨by omega, fun k y0 y1 => by omega⟩
end SXM18
