/-! A LAW'S KNOTS OUT OF ITS SIGNS (by wip/whole) -/
section SXQ3
variable {X : sx_X} {Q : sx_R} {σ σ0 σ' σ1 σ2 s s' : sx_S} {tx : Int → Int} {n9 p i lo hi : Int} {code num : Int → Int}
abbrev pLf (c : Int) : Prop := c = 21 ∨ (10 ≤ c ∧ c ≤ 16)
abbrev pBn (c : Int) : Prop := c = 17 ∨ c = 18 ∨ (25 ≤ c ∧ c ≤ 34)
/-- depth and stack of a law's signs from lo on -/
def fStq (code : Int → Int) (lo : Int) : Nat → Int × (Int → Int)
  | 0 => (0, fun _ => 0)
  | n + 1 => if pLf (code (lo + n)) then ((fStq code lo n).1 + 1, fun j => if j = (fStq code lo n).1 then lo + n else (fStq code lo n).2 j) else if code (lo + n) = 19 then ((fStq code lo n).1, fun j => if j = (fStq code lo n).1 - 1 then lo + n else (fStq code lo n).2 j) else ((fStq code lo n).1 - 1, fun j => if j = (fStq code lo n).1 - 2 then lo + n else (fStq code lo n).2 j)
def dpF (code : Int → Int) (lo i : Int) : Int := (fStq code lo (i - lo).toNat).1
def ixF (code : Int → Int) (lo i : Int) : Int → Int := (fStq code lo (i - lo).toNat).2
theorem stk_s (h : lo ≤ i) : fStq code lo (i + 1 - lo).toNat = if pLf (code i) then (dpF code lo i + 1, fun j => if j = dpF code lo i then i else ixF code lo i j) else if code i = 19 then (dpF code lo i, fun j => if j = dpF code lo i - 1 then i else ixF code lo i j) else (dpF code lo i - 1, fun j => if j = dpF code lo i - 2 then i else ixF code lo i j) := by
  rw [show (i + 1 - lo).toNat = (i - lo).toNat + 1 by omega]
  have e : lo + (((i - lo).toNat : Nat) : Int) = i := by omega
  show (if pLf (code (lo + (((i - lo).toNat : Nat) : Int))) then _ else _) = _
  rw [e]
  rfl
theorem stk_l (h : lo ≤ i) (hc : pLf (code i)) : dpF code lo (i + 1) = dpF code lo i + 1 ∧ ixF code lo (i + 1) = fun j => if j = dpF code lo i then i else ixF code lo i j := by
  constructor
  · show (fStq code lo (i + 1 - lo).toNat).1 = _
    rw [stk_s h, if_pos hc]
  · show (fStq code lo (i + 1 - lo).toNat).2 = _
    rw [stk_s h, if_pos hc]
theorem stk_n (h : lo ≤ i) (hc : code i = 19) : dpF code lo (i + 1) = dpF code lo i ∧ ixF code lo (i + 1) = fun j => if j = dpF code lo i - 1 then i else ixF code lo i j := by
  have h1 : ¬ pLf (code i) := by unfold pLf; omega
  constructor
  · show (fStq code lo (i + 1 - lo).toNat).1 = _
    rw [stk_s h, if_neg h1, if_pos hc]
  · show (fStq code lo (i + 1 - lo).toNat).2 = _
    rw [stk_s h, if_neg h1, if_pos hc]
theorem stk_b (h : lo ≤ i) (hc : pBn (code i)) : dpF code lo (i + 1) = dpF code lo i - 1 ∧ ixF code lo (i + 1) = fun j => if j = dpF code lo i - 2 then i else ixF code lo i j := by
  have h1 : ¬ pLf (code i) := by unfold pLf; unfold pBn at hc; omega
  have h2 : ¬ code i = 19 := by unfold pBn at hc; omega
  constructor
  · show (fStq code lo (i + 1 - lo).toNat).1 = _
    rw [stk_s h, if_neg h1, if_neg h2]
  · show (fStq code lo (i + 1 - lo).toNat).2 = _
    rw [stk_s h, if_neg h1, if_neg h2]
theorem stk_cg {code' : Int → Int} : ∀ n : Nat, (∀ j : Int, lo ≤ j → j < lo + n → code' j = code j) → fStq code' lo n = fStq code lo n
  | 0, _ => rfl
  | n + 1, h => by
    have h1 := stk_cg n (fun j y0 y1 => h j y0 (by omega))
    have h2 := h (lo + n) (by omega) (by omega)
    unfold fStq
    rw [h1, h2]
theorem dp_cg {code' : Int → Int} (h : ∀ j : Int, lo ≤ j → j < i → code' j = code j) (hl : lo ≤ i) : dpF code' lo i = dpF code lo i ∧ ixF code' lo i = ixF code lo i := by
  have h1 := stk_cg (code := code) (code' := code') (lo := lo) (i - lo).toNat (fun j y0 y1 => h j y0 (by omega))
  unfold dpF ixF
  rw [h1]
  exact ⟨rfl, rfl⟩
def kdF (code : Int → Int) (i : Int) : Int := if code i = 21 then 0 else if 10 ≤ code i ∧ code i ≤ 16 then 1 else if code i = 19 then 2 else fKd (code i)
def ptF (code num : Int → Int) (lo i : Int) : Int := if code i = 21 then num i else if 10 ≤ code i ∧ code i ≤ 16 then fPn (code i) else if code i = 19 then ixF code lo i (dpF code lo i - 1) else ixF code lo i (dpF code lo i - 2)
def otF (code : Int → Int) (lo i : Int) : Int := ixF code lo i (dpF code lo i - 1)
/-- the sign at i has what it joins -/
def cV (code num : Int → Int) (lo i : Int) : Prop := (pLf (code i) ∧ dpF code lo i < 64 ∧ (code i = 21 → 0 ≤ num i ∧ num i ≤ 9999)) ∨ (code i = 19 ∧ 1 ≤ dpF code lo i) ∨ (pBn (code i) ∧ 2 ≤ dpF code lo i)
theorem cV_bd (h : ∀ j : Int, lo ≤ j → j < hi → cV code num lo j) : ∀ n : Nat, lo + n ≤ hi → (0 ≤ dpF code lo (lo + n) ∧ dpF code lo (lo + n) ≤ 64) ∧ ∀ d : Int, 0 ≤ d → d < dpF code lo (lo + n) → lo ≤ ixF code lo (lo + n) d ∧ ixF code lo (lo + n) d < lo + n
  | 0, _ => by
    have e : dpF code lo (lo + ((0 : Nat) : Int)) = 0 := by unfold dpF; rw [show (lo + ((0 : Nat) : Int) - lo).toNat = 0 by omega]; rfl
    rw [e]
    exact ⟨by decide, fun d d0 d1 => by omega⟩
  | n + 1, hn => by
    have h1 := cV_bd h n (by omega)
    have e : lo + ((n + 1 : Nat) : Int) = lo + (n : Int) + 1 := by omega
    rw [e]
    rcases h (lo + n) (by omega) (by omega) with ⟨a1, a2, a3⟩ | ⟨a1, a2⟩ | ⟨a1, a2⟩
    · obtain ⟨b1, b2⟩ := stk_l (code := code) (lo := lo) (i := lo + n) (by omega) a1
      rw [b1, b2]
      refine ⟨by omega, fun d d0 d1 => ?_⟩
      show lo ≤ (if d = _ then _ else _) ∧ (if d = _ then _ else _) < _
      by_cases e9 : d = dpF code lo (lo + n)
      · rw [if_pos e9]; omega
      · rw [if_neg e9]; have := h1.2 d d0 (by omega); omega
    · obtain ⟨b1, b2⟩ := stk_n (code := code) (lo := lo) (i := lo + n) (by omega) a1
      rw [b1, b2]
      refine ⟨by omega, fun d d0 d1 => ?_⟩
      show lo ≤ (if d = _ then _ else _) ∧ (if d = _ then _ else _) < _
      by_cases e9 : d = dpF code lo (lo + n) - 1
      · rw [if_pos e9]; omega
      · rw [if_neg e9]; have := h1.2 d d0 (by omega); omega
    · obtain ⟨b1, b2⟩ := stk_b (code := code) (lo := lo) (i := lo + n) (by omega) a1
      rw [b1, b2]
      refine ⟨by omega, fun d d0 d1 => ?_⟩
      show lo ≤ (if d = _ then _ else _) ∧ (if d = _ then _ else _) < _
      by_cases e9 : d = dpF code lo (lo + n) - 2
      · rw [if_pos e9]; omega
      · rw [if_neg e9]; have := h1.2 d d0 (by omega); omega
theorem cV_b (h : ∀ j : Int, lo ≤ j → j < hi → cV code num lo j) (hi0 : lo ≤ i ∧ i ≤ hi) : (0 ≤ dpF code lo i ∧ dpF code lo i ≤ 64) ∧ ∀ d : Int, 0 ≤ d → d < dpF code lo i → lo ≤ ixF code lo i d ∧ ixF code lo i d < i := by
  have h1 := cV_bd h (i - lo).toNat (by omega)
  rw [show lo + (((i - lo).toNat : Nat) : Int) = i by omega] at h1
  exact h1
theorem pW_F (h : ∀ j : Int, lo ≤ j → j < hi → cV code num lo j) (hd : dpF code lo hi = 1) (hx : ixF code lo hi 0 = hi - 1) : pW code num (kdF code) (ptF code num lo) (otF code lo) (dpF code lo) (ixF code lo) lo hi := by
  refine ⟨by unfold dpF; rw [show (lo - lo).toNat = 0 by omega]; rfl, hd, hx, fun j j0 j1 => ?_⟩
  have hb := cV_b h (i := j) ⟨j0, by omega⟩
  refine ⟨hb.1.1, hb.1.2, hb.2, ?_⟩
  rcases h j j0 j1 with ⟨a1, a2, a3⟩ | ⟨a1, a2⟩ | ⟨a1, a2⟩
  · obtain ⟨b1, b2⟩ := stk_l (code := code) (lo := lo) (i := j) j0 a1
    rcases a1 with a1 | a1
    · refine Or.inl ⟨a1, if_pos a1, (if_pos a1).symm, ?_, a2, b1, b2⟩
      have := a3 a1; unfold pB12; omega
    · have n1 : ¬ code j = 21 := by omega
      exact Or.inr (Or.inl ⟨a1.1, a1.2, by unfold kdF; rw [if_neg n1, if_pos a1], by unfold ptF; rw [if_neg n1, if_pos a1], a2, b1, b2⟩)
  · obtain ⟨b1, b2⟩ := stk_n (code := code) (lo := lo) (i := j) j0 a1
    have n1 : ¬ code j = 21 := by omega
    have n2 : ¬ (10 ≤ code j ∧ code j ≤ 16) := by omega
    exact Or.inr (Or.inr (Or.inl ⟨a1, by unfold kdF; rw [if_neg n1, if_neg n2, if_pos a1], a2, by unfold ptF; rw [if_neg n1, if_neg n2, if_pos a1], b1, b2⟩))
  · obtain ⟨b1, b2⟩ := stk_b (code := code) (lo := lo) (i := j) j0 a1
    unfold pBn at a1
    have n1 : ¬ code j = 21 := by omega
    have n2 : ¬ (10 ≤ code j ∧ code j ≤ 16) := by omega
    have n3 : ¬ code j = 19 := by omega
    exact Or.inr (Or.inr (Or.inr ⟨a1, by unfold kdF; rw [if_neg n1, if_neg n2, if_neg n3], a2, by unfold ptF; rw [if_neg n1, if_neg n2, if_neg n3], rfl, b1, b2⟩))
/-- signs that join two are held -/
def fBn (row : Int → Int) : Nat → Int
  | 0 => 0
  | k + 1 => fBn row k + if row (k : Int) = 19 ∨ row (k : Int) = 23 then 0 else 1
theorem fBn_s {r : Int → Int} {n : Int} (h : 0 ≤ n) : fBn r (n + 1).toNat = fBn r n.toNat + if r n = 19 ∨ r n = 23 then 0 else 1 := by
  rw [show (n + 1).toNat = n.toNat + 1 by omega]
  show fBn r n.toNat + (if r ((n.toNat : Nat) : Int) = 19 ∨ r ((n.toNat : Nat) : Int) = 23 then 0 else 1) = _
  rw [show ((n.toNat : Nat) : Int) = n by omega]
theorem fBn_cg {r r' : Int → Int} : ∀ k : Nat, (∀ j : Int, 0 ≤ j → j < k → r' j = r j) → fBn r' k = fBn r k
  | 0, _ => rfl
  | k + 1, h => by
    show fBn r' k + (if r' (k : Int) = 19 ∨ r' (k : Int) = 23 then 0 else 1) = fBn r k + (if r (k : Int) = 19 ∨ r (k : Int) = 23 then 0 else 1)
    rw [fBn_cg k (fun j y0 y1 => h j y0 (by omega)), h k (by omega) (by omega)]
theorem fBn_bd {r : Int → Int} : ∀ k : Nat, 0 ≤ fBn r k ∧ fBn r k + fOpn r k ≤ k
  | 0 => by show (0 : Int) ≤ 0 ∧ (0 : Int) + 0 ≤ ((0 : Nat) : Int); decide
  | k + 1 => by
    have h := fBn_bd (r := r) k
    show 0 ≤ fBn r k + (if r (k : Int) = 19 ∨ r (k : Int) = 23 then 0 else 1) ∧ fBn r k + (if r (k : Int) = 19 ∨ r (k : Int) = 23 then 0 else 1) + (fOpn r k + (if r (k : Int) = 23 then 1 else 0)) ≤ ((k + 1 : Nat) : Int)
    by_cases e1 : r (k : Int) = 23
    · rw [if_pos (Or.inr e1), if_pos e1]; omega
    · rw [if_neg e1]
      by_cases e2 : r (k : Int) = 19
      · rw [if_pos (Or.inl e2)]; omega
      · rw [if_neg (by omega)]; omega
/-- the knots that the signs so far make -/
def eStk (p : Int) (s : sx_S) (lo : Int) : Prop := lo ≤ s 32 14 ∧ (∀ j : Int, lo ≤ j → j < s 32 14 → cV (s (p + 11)) (s (p + 12)) lo j) ∧ dpF (s (p + 11)) lo (s 32 14) = fBn (s 36) (s 32 11).toNat + (if s 32 13 = 0 then 1 else 0) ∧ (s 32 13 = 0 → lo < s 32 14 ∧ ixF (s (p + 11)) lo (s 32 14) (dpF (s (p + 11)) lo (s 32 14) - 1) = s 32 14 - 1)
theorem cV_cg {code' num' : Int → Int} {j : Int} (hj : lo ≤ j) (h : ∀ y : Int, lo ≤ y → y ≤ j → code' y = code y) (h2 : num' j = num j) (hv : cV code num lo j) : cV code' num' lo j := by
  have h3 := dp_cg (code := code) (code' := code') (lo := lo) (i := j) (fun y y0 y1 => h y y0 (by omega)) hj
  unfold cV
  rw [h3.1, h j hj (by omega), h2]
  exact hv
/-- a leaf more -/
theorem eStk_leaf {c v : Int} (hp : 2 ≤ p ∧ p ≤ 17) (hk : eStk p s lo) (h13 : ¬ s 32 13 = 0) (hc : pLf c) (hv : c = 21 → 0 ≤ v ∧ v ≤ 9999) (hd : fBn (s 36) (s 32 11).toNat < 64) (e11 : s' 32 11 = s 32 11) (e13 : s' 32 13 = 0) (e14 : s' 32 14 = s 32 14 + 1) (er : s' 36 = s 36) (ec : ∀ j : Int, s' (p + 11) j = if j = s 32 14 then c else s (p + 11) j) (en : ∀ j : Int, s' (p + 12) j = if j = s 32 14 then v else s (p + 12) j) : eStk p s' lo := by
  obtain ⟨k0, k1, k2, k3⟩ := hk
  rw [if_neg h13] at k2
  have ecl : ∀ j : Int, lo ≤ j → j < s 32 14 → s' (p + 11) j = s (p + 11) j := fun j y0 y1 => by rw [ec, if_neg (by omega)]
  have hdx := dp_cg (code := s (p + 11)) (code' := s' (p + 11)) (lo := lo) (i := s 32 14) ecl k0
  have ew : s' (p + 11) (s 32 14) = c := by rw [ec, if_pos rfl]
  have hl := stk_l (code := s' (p + 11)) (lo := lo) (i := s 32 14) k0 (by rw [ew]; exact hc)
  unfold eStk
  rw [e11, e13, e14, er, hl.1, hl.2, hdx.1]
  refine ⟨by omega, fun j y0 y1 => ?_, by rw [if_pos rfl]; omega, fun _ => ⟨by omega, ?_⟩⟩
  · by_cases e9 : j = s 32 14
    · rw [e9]
      exact Or.inl ⟨by rw [ew]; exact hc, by rw [hdx.1]; omega, fun z => by rw [ew] at z; rw [en, if_pos rfl]; exact hv z⟩
    · exact cV_cg y0 (fun y z0 z1 => ecl y z0 (by omega)) (by rw [en, if_neg e9]) (k1 j y0 (by omega))
  · show (if dpF (s (p + 11)) lo (s 32 14) + 1 - 1 = dpF (s (p + 11)) lo (s 32 14) then s 32 14 else _) = _
    rw [if_pos (by omega)]; omega
theorem eStk_pop {m k : Int} (hp : 2 ≤ p ∧ p ≤ 17) (hk1 : 1 ≤ k) (hI : eInv p s) (hr : pRel p k s s' m) (hk : eStk p s lo) (h13 : s 32 13 = 0) : ∀ q : Nat, (q : Int) ≤ m → (∀ j : Int, lo ≤ j → j < s 32 14 + q → cV (s' (p + 11)) (s' (p + 12)) lo j) ∧ dpF (s' (p + 11)) lo (s 32 14 + q) = fBn (s 36) (s 32 11 - q).toNat + 1 ∧ ixF (s' (p + 11)) lo (s 32 14 + q) (dpF (s' (p + 11)) lo (s 32 14 + q) - 1) = s 32 14 + q - 1
  | 0, _ => by
    obtain ⟨k0, k1, k2, k3⟩ := hk
    rw [if_pos h13] at k2
    have ecl : ∀ j : Int, j < s 32 14 → s' (p + 11) j = s (p + 11) j := fun j y1 => hr.2.1 _ _ (by unfold FRl; omega)
    have hdx := dp_cg (code := s (p + 11)) (code' := s' (p + 11)) (lo := lo) (i := s 32 14) (fun j _ y1 => ecl j y1) k0
    rw [show s 32 14 + ((0 : Nat) : Int) = s 32 14 by omega, show s 32 11 - ((0 : Nat) : Int) = s 32 11 by omega, hdx.1, hdx.2]
    exact ⟨fun j y0 y1 => cV_cg y0 (fun y z0 z1 => ecl y (by omega)) (hr.2.1 _ _ (by unfold FRl; omega)) (k1 j y0 y1), k2, (k3 h13).2⟩
  | q + 1, hq => by
    have h1 := eStk_pop hp hk1 hI hr hk h13 q (by omega)
    obtain ⟨a1, a2, a3, a4, a5, a6, a7, a8, a9⟩ := rel_inv hp hk1 hI hr
    obtain ⟨z0, z1, z2, z3, z4, z5, z6, z7⟩ := hI
    obtain ⟨r0, r1, r2, r3, r4, r5, r6⟩ := hr
    obtain ⟨k0, k1, k2, k3⟩ := hk
    have hc := ((r6 (by omega)).2 q (by omega) (by omega)).1
    have hrk := r3 (s 32 11 - 1 - q) (by omega) (by omega)
    have hsn := z6 (s 32 11 - 1 - q) (by omega) (by omega)
    have h23 := fRk_n23 hk1 hrk
    have hb := fBn_s (r := s 36) (n := s 32 11 - 1 - q) (by omega)
    rw [show s 32 11 - 1 - (q : Int) + 1 = s 32 11 - q by omega] at hb
    rw [show s 32 14 + ((q + 1 : Nat) : Int) = s 32 14 + q + 1 by omega, show s 32 11 - ((q + 1 : Nat) : Int) = s 32 11 - 1 - q by omega]
    have hbd := (fBn_bd (r := s 36) (s 32 11 - 1 - q).toNat).1
    generalize s 36 (s 32 11 - 1 - q) = c at hc hsn h23 hb hrk
    by_cases e19 : c = 19
    · rw [if_pos (Or.inl e19)] at hb
      have hs := stk_n (code := s' (p + 11)) (lo := lo) (i := s 32 14 + q) (by omega) (hc.trans e19)
      rw [hs.1, hs.2]
      refine ⟨fun j y0 y1 => ?_, by omega, ?_⟩
      · by_cases e9 : j = s 32 14 + q
        · rw [e9]; exact Or.inr (Or.inl ⟨hc.trans e19, by omega⟩)
        · exact h1.1 j y0 (by omega)
      · show (if _ = _ then _ else _) = _
        rw [if_pos rfl]; omega
    · rw [if_neg (by omega)] at hb
      have hpb : pBn (s' (p + 11) (s 32 14 + q)) := by rw [hc]; unfold pSn at hsn; unfold pBn; omega
      have hs := stk_b (code := s' (p + 11)) (lo := lo) (i := s 32 14 + q) (by omega) hpb
      rw [hs.1, hs.2]
      refine ⟨fun j y0 y1 => ?_, by omega, ?_⟩
      · by_cases e9 : j = s 32 14 + q
        · rw [e9]; exact Or.inr (Or.inr ⟨hpb, by omega⟩)
        · exact h1.1 j y0 (by omega)
      · show (if _ = _ then _ else _) = _
        rw [if_pos (by omega)]; omega
theorem eStk_rel {m k : Int} (hp : 2 ≤ p ∧ p ≤ 17) (hk1 : 1 ≤ k) (hI : eInv p s) (hr : pRel p k s s' m) (hk : eStk p s lo) (h13 : s 32 13 = 0) : eStk p s' lo := by
  obtain ⟨a1, a2, a3, a4, a5, a6, a7, a8, a9⟩ := rel_inv hp hk1 hI hr
  have h1 := eStk_pop hp hk1 hI hr hk h13 m.toNat (by omega)
  rw [show s 32 14 + ((m.toNat : Nat) : Int) = s 32 14 + m by omega, show s 32 11 - ((m.toNat : Nat) : Int) = s 32 11 - m by omega] at h1
  have k0 := hk.1
  have k3 := (hk.2.2.2 h13).1
  unfold eStk
  rw [a1, a3, a5, a6, if_pos h13]
  exact ⟨by omega, h1.1, h1.2.1, fun _ => ⟨by omega, h1.2.2⟩⟩
theorem eStk_fr (hp : 2 ≤ p ∧ p ≤ 17) (hk : eStk p s lo) (hf : ∀ a j : Int, a = 36 ∨ a = p + 11 ∨ a = p + 12 ∨ (a = 32 ∧ (j = 11 ∨ j = 13 ∨ j = 14)) → s' a j = s a j) : eStk p s' lo := by
  unfold eStk
  rw [hf 32 11 (by omega), hf 32 13 (by omega), hf 32 14 (by omega), show s' 36 = s 36 from funext fun j => hf 36 j (by omega), show s' (p + 11) = s (p + 11) from funext fun j => hf _ j (by omega), show s' (p + 12) = s (p + 12) from funext fun j => hf _ j (by omega)]
  exact hk
end SXQ3
