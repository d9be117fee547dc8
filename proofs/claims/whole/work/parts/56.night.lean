/-! HOURS AND NIGHTS over the abstract snow (by wip/whole) -/
section SXL3
variable {X : sx_X} {Q : sx_R} {s p b c : Int} {σ σ0 : sx_S} {P : aP} {A : aM}
theorem GC.of {σ' : sx_S} (g : GC s p P A σ) (hs : isS s) (hp : isP p) (hT : PT σ') (e : ∀ a i : Int, 2 ≤ a → a ≤ 84 → σ' a i = σ a i) : GC s p P A σ' := by
  have h1 : 40 ≤ s ∧ s ≤ 70 := by rcases hs with h9 | h9 | h9 <;> omega
  have h2 : 2 ≤ p ∧ p ≤ 17 := by rcases hp with h9 | h9 <;> omega
  exact GC.mk hT ((e s 1 (by omega) (by omega)).trans g.ep) (g.cp.of (fun a i z1 z2 => e a i (by omega) (by omega))) (g.cs.of (fun a i z1 z2 => e a i (by omega) (by omega))) (g.sc.of (fun a i z1 z2 => e a i (by omega) (by omega)))
theorem rS.of {σ' : sx_S} (g : rS b σ A) (e : ∀ a i : Int, 146 ≤ a → a ≤ 156 → σ' a i = σ a i) (e' : σ' 124 73 = σ 124 73) : rS b σ' A := by
  have r : ∀ a : Int, 146 ≤ a → a ≤ 156 → σ' a = σ a := fun a y z => funext fun i => e a i y z
  unfold rS
  rw [e', r 146 (by decide) (by decide), r 147 (by decide) (by decide), r 148 (by decide) (by decide), r 149 (by decide) (by decide), r 150 (by decide) (by decide), r 151 (by decide) (by decide), r 152 (by decide) (by decide), r 153 (by decide) (by decide), r 154 (by decide) (by decide), r 155 (by decide) (by decide), r 156 (by decide) (by decide)]
  exact g
theorem GR.of {σ' : sx_S} (g : GR b P A σ) (hT : PT σ') (e : ∀ a i : Int, 127 ≤ a → a ≤ 156 → σ' a i = σ a i) (e' : ∀ i : Int, (12 ≤ i ∧ i ≤ 17) ∨ i = 56 ∨ i = 73 → σ' 124 i = σ 124 i) : GR b P A σ' :=
  GR.mk hT (g.rp.of (fun a i z1 z2 => e a i z1 (by omega)) (fun i z1 z2 => e' i (by omega))) (g.rs.of (fun a i z1 z2 => e a i (by omega) z2) (e' _ (by decide))) (g.sc.of (fun i => e _ i (by decide) (by decide)) (e' _ (by decide)))
def fHrs (P : aP) : Nat → aM → aM
  | 0, A => A
  | k + 1, A => fHour P (fHrs P k A)
theorem fHrs_s {i : Int} (h : 0 ≤ i) : fHrs P (i + 1).toNat A = fHour P (fHrs P i.toNat A) := by
  rw [show (i + 1).toNat = i.toNat + 1 by omega]; rfl
theorem fHrs_hr : ∀ k : Nat, (fHrs P k A).hr = A.hr + k
  | 0 => by show A.hr = A.hr + ((0 : Nat) : Int); omega
  | k + 1 => by
    show (fHrs P k A).hr + 1 = _
    rw [fHrs_hr k]; omega
theorem wM.hrs (wm : wM P A c) : ∀ k : Nat, A.hr + k ≤ 9999 → wM P (fHrs P k A) c
  | 0, _ => wm
  | k + 1, h => (wM.hrs wm k (by omega)).hour (by rw [fHrs_hr k]; omega)
def fNa (A : aM) : aM := aM.mk A.n A.hr A.sn (fDr A.la) A.lk A.ce A.wy A.bo A.dp A.cv A.ow A.bl
def nD (A : aM) : Int := (fDr A.la).tdiv 65536
def fNv (A : aM) : Int := if (nD A).tmod 3 = 0 then 1 + (nD (fNa A)).tmod 9 else if (nD A).tmod 3 = 1 then -(1 + (nD (fNa A)).tmod 5) else 0
def fNs (P : aP) (A : aM) : aM := if (nD A).tmod 3 = 0 then fHour P (fFall (1 + (nD (fNa A)).tmod 9) (fNa (fNa A))) else if (nD A).tmod 3 = 1 then fHour P (fThaw (1 + (nD (fNa A)).tmod 5) (fNa (fNa A))) else fHour P (fNa A)
theorem wM.na (wm : wM P A c) : wM P (fNa A) c := wM.mk wm.n wm.hr wm.sn (fDr_bd A.la) wm.lk wm.ce wm.wy wm.bo wm.dp wm.cv wm.ow wm.bl
theorem nD_bd (A : aM) : 0 ≤ nD A ∧ nD A ≤ 2147483647 := by
  have h1 := fDr_bd A.la
  have h2 := tm_bd h1.1 (show (0 : Int) < 65536 by decide)
  unfold nD
  omega
theorem nT_bd (A : aM) {k : Int} (hk : 0 < k) : 0 ≤ (nD A).tmod k ∧ (nD A).tmod k < k := by
  have h2 := tm_bd (nD_bd A).1 hk
  exact ⟨h2.1, h2.2.1⟩
theorem wM.ns (wm : wM P A c) (hh : A.hr ≤ 9998) : wM P (fNs P A) (c + 9) := by
  have h9 := nT_bd (fNa A) (show (0 : Int) < 9 by decide)
  have h5 := nT_bd (fNa A) (show (0 : Int) < 5 by decide)
  unfold fNs
  split
  · exact ((wm.na.na.fall (x := 1 + (nD (fNa A)).tmod 9) (by omega)).hour hh).up (by omega)
  · split
    · exact ((wm.na.na.thaw (x := 1 + (nD (fNa A)).tmod 5) (by omega)).hour hh).up (by omega)
    · exact (wm.na.hour hh).up (by omega)
theorem fNs_hr : (fNs P A).hr = A.hr + 1 := by
  unfold fNs
  repeat (first | rfl | split)
theorem a_Sdraw (hs : isS s) (hp : isP p) (wm : wM P A c) (g : GC s p P A σ) (h : ∀ σ', fr (FC s) σ σ' → GC s p P (fNa A) σ' → Q (some (.inl (nD A))) shM σ') : sx_Run X 89 [.inr (.inr s)] shM σ Q := by
  have hsz := hs.ge
  refine c_Sdraw hs (by rw [g.cs.la]; exact wm.la) ?_
  rw [g.cs.la]
  generalize e : sx_up _ s 10 _ = σ'
  have hf : fr (FC s) σ σ' := fun a i z => by
    unfold FC at z
    rw [← e]
    unfold sx_up
    rw [if_neg (by omega)]
  refine h σ' hf (GC.mk (hf.pt hs g.pt) ((hf s 1 (by unfold FC; omega)).trans g.ep) (g.cp.fr hs hp hf) ?_ (g.sc.of (fun a i z1 z2 => by rw [← e, up_a (by omega)])))
  refine cS.mk9 g.cs hf hsz (hr := A.hr) (sn := A.sn) (la := fDr A.la) (dp := A.dp) (cv := A.cv) ?_ ?_ ?_ (fun m h0 h1 => ?_) (fun m h0 h1 => ?_)
  · rw [← e, up_i (by decide), g.cs.hr]
  · rw [← e, up_i (by decide), g.cs.sn]
  · rw [← e, up_s]
  · rw [← e, up_a (by omega), g.cs.dp m h0 h1]
  · rw [← e, up_a (by omega), g.cs.cv m h0 h1]
theorem a_Rnumber (hb : b = 0 ∨ b = 1) {k : Int} (hk : 1 ≤ k ∧ k ≤ 100) (wm : wM P A c) (g : GR b P A σ) (h : ∀ σ', fr (FR b) σ σ' → GR b P (fNa A) σ' → Q (some (.inl ((nD A).tmod k))) shM σ') : sx_Run X 249 [.inr (.inr 124), .inl k] shM σ Q := by
  refine c_Rnumber hk (by rw [g.rs.la]; exact wm.la) ?_
  rw [g.rs.la]
  generalize e : sx_up _ 124 73 _ = σ'
  have hf : fr (FR b) σ σ' := fun a i z => by
    unfold FR at z
    rw [← e]
    unfold sx_up
    rw [if_neg (by omega)]
  refine h σ' hf (GR.mk (hf.ptr hb g.pt) (g.rp.fr hf) ?_ (g.sc.of (fun i => by rw [← e, up_a (by decide)]) (by rw [← e, up_i (by decide)])))
  refine rS.mk9 g.rs hf (hr := A.hr) (sn := A.sn) (la := fDr A.la) (dp := A.dp) (cv := A.cv) ?_ ?_ ?_ (fun m h0 h1 => ?_) (fun m h0 h1 => ?_)
  · rw [← e, up_a (by decide), g.rs.hr]
  · rw [← e, up_a (by decide), g.rs.sn]
  · rw [← e, up_s]
  · rw [← e, up_a (by decide), g.rs.dp m h0 h1]
  · rw [← e, up_a (by decide), g.rs.cv m h0 h1]
set_option maxRecDepth 20000 in
theorem c_Snight (hs : isS s) (hp : isP p) (wp : wP P) (wm : wM P A c) (hc : c ≤ 900000) (g0 : GC s p P A σ) (h0 : ∀ σ', (nD A).tmod 3 = 0 → fr (FC s) σ σ' → GC s p P (fHour P (fFall (1 + (nD (fNa A)).tmod 9) (fNa (fNa A)))) σ' → Q (some (.inl (1 + (nD (fNa A)).tmod 9))) shM σ') (h1 : ∀ σ', (nD A).tmod 3 = 1 → fr (FC s) σ σ' → GC s p P (fHour P (fThaw (1 + (nD (fNa A)).tmod 5) (fNa (fNa A)))) σ' → Q (some (.inl (-(1 + (nD (fNa A)).tmod 5)))) shM σ') (h2 : ∀ σ', ¬ (nD A).tmod 3 = 0 → ¬ (nD A).tmod 3 = 1 → fr (FC s) σ σ' → GC s p P (fHour P (fNa A)) σ' → Q (some (.inl 0)) shM σ') : sx_Run X 90 [.inr (.inr s)] shM σ Q := by
  have h3 := nT_bd A (show (0 : Int) < 3 by decide)
  have h9 := nT_bd (fNa A) (show (0 : Int) < 9 by decide)
  have h5 := nT_bd (fNa A) (show (0 : Int) < 5 by decide)
  have hd1 := nD_bd A
  have hd2 := nD_bd (fNa A)
  have k0 := lkS0 hs
  have j3 := tm_bd hd1.1 (show (0 : Int) < 3 by decide)
  have j9 := tm_bd hd2.1 (show (0 : Int) < 9 by decide)
  have j5 := tm_bd hd2.1 (show (0 : Int) < 5 by decide)
  refine sx_rule0 (own := 9) (cd := kX9_passNight) (nL := 4) (by decide +kernel) (by decide +kernel) kX9_passNight_ok (by decide +kernel) (Nat.le_of_ble_eq_true rfl) 40 ?_
  conv => whnf
  refine ⟨Nat.le_of_ble_eq_true rfl, Nat.le_of_ble_eq_true rfl, (by first | assumption | rfl), ?_⟩
  refine a_Sdraw hs hp wm g0 ?_
  intro σ1 hf1 g1
  conv => whnf
  refine ⟨by omega, (show sx_r32 _ from ⟨by omega, by omega⟩), ?_⟩
  conv => whnf
  refine ⟨fun g => ?_, fun g => ?_⟩
  · simp only [sx_cc, Classical.not_not] at g
    conv => whnf
    refine ⟨fun g => ?_, fun g => ?_⟩
    · simp only [sx_cc, Classical.not_not] at g
      conv => whnf
      refine ⟨Nat.le_of_ble_eq_true rfl, Nat.le_of_ble_eq_true rfl, (by first | assumption | rfl), ?_⟩
      refine a_Shour hs hp wp wm.na g1 ?_
      intro σ4 hf4 g4
      conv => whnf
      refine ⟨fun q9 => by first | (simp at q9; done) | omega, ?_⟩
      exact h2 σ4 (by omega) (by omega) (hf1.trans hf4) g4
    · simp only [sx_cc, Classical.not_not] at g
      conv => whnf
      refine ⟨Nat.le_of_ble_eq_true rfl, Nat.le_of_ble_eq_true rfl, (by first | assumption | rfl), ?_⟩
      refine a_Sdraw hs hp wm.na g1 ?_
      intro σ2 hf2 g2
      conv => whnf
      refine ⟨by omega, (show sx_r32 _ from ⟨by omega, by omega⟩), ?_⟩
      conv => whnf
      refine ⟨⟨by omega, by omega⟩, ?_⟩
      conv => whnf
      refine ⟨Nat.le_of_ble_eq_true rfl, Nat.le_of_ble_eq_true rfl, (by first | assumption | rfl), ?_⟩
      refine a_Smelt hs hp wm.na.na (by omega) g2 ⟨by omega, by omega⟩ ?_
      intro σ3 hf3 g3
      conv => whnf
      refine ⟨⟨by omega, by omega⟩, ?_⟩
      conv => whnf
      refine ⟨Nat.le_of_ble_eq_true rfl, Nat.le_of_ble_eq_true rfl, (by first | assumption | rfl), ?_⟩
      refine a_Shour hs hp wp (wm.na.na.thaw (by omega)) g3 ?_
      intro σ4 hf4 g4
      conv => whnf
      refine ⟨fun q9 => by first | (simp at q9; done) | omega, ?_⟩
      exact h1 σ4 (by omega) (((hf1.trans hf2).trans hf3).trans hf4) g4
  · simp only [sx_cc, Classical.not_not] at g
    conv => whnf
    refine ⟨Nat.le_of_ble_eq_true rfl, Nat.le_of_ble_eq_true rfl, (by first | assumption | rfl), ?_⟩
    refine a_Sdraw hs hp wm.na g1 ?_
    intro σ2 hf2 g2
    conv => whnf
    refine ⟨by omega, (show sx_r32 _ from ⟨by omega, by omega⟩), ?_⟩
    conv => whnf
    refine ⟨⟨by omega, by omega⟩, ?_⟩
    conv => whnf
    refine ⟨Nat.le_of_ble_eq_true rfl, Nat.le_of_ble_eq_true rfl, (by first | assumption | rfl), ?_⟩
    refine a_Scover hs hp wm.na.na (by omega) g2 ⟨by omega, by omega⟩ ?_
    intro σ3 hf3 g3
    conv => whnf
    refine ⟨Nat.le_of_ble_eq_true rfl, Nat.le_of_ble_eq_true rfl, (by first | assumption | rfl), ?_⟩
    refine a_Shour hs hp wp (wm.na.na.fall (by omega)) g3 ?_
    intro σ4 hf4 g4
    conv => whnf
    refine ⟨fun q9 => by first | (simp at q9; done) | omega, ?_⟩
    exact h0 σ4 (by omega) (((hf1.trans hf2).trans hf3).trans hf4) g4
theorem a_Snight (hs : isS s) (hp : isP p) (wp : wP P) (wm : wM P A c) (hc : c ≤ 900000) (g0 : GC s p P A σ) (h : ∀ σ', fr (FC s) σ σ' → GC s p P (fNs P A) σ' → Q (some (.inl (fNv A))) shM σ') : sx_Run X 90 [.inr (.inr s)] shM σ Q := by
  refine c_Snight hs hp wp wm hc g0 (fun σ' e hf g => ?_) (fun σ' e hf g => ?_) (fun σ' e1 e2 hf g => ?_)
  · have h' := h σ' hf (by unfold fNs; rw [if_pos e]; exact g)
    unfold fNv at h'; rw [if_pos e] at h'; exact h'
  · have h' := h σ' hf (by unfold fNs; rw [if_neg (by omega), if_pos e]; exact g)
    unfold fNv at h'; rw [if_neg (by omega), if_pos e] at h'; exact h'
  · have h' := h σ' hf (by unfold fNs; rw [if_neg e1, if_neg e2]; exact g)
    unfold fNv at h'; rw [if_neg e1, if_neg e2] at h'; exact h'
set_option maxRecDepth 20000 in
theorem c_Rnight (hb : b = 0 ∨ b = 1) (wp : wP P) (wm : wM P A c) (hc : c ≤ 900000) (g0 : GR b P A σ) (h0 : ∀ σ', (nD A).tmod 3 = 0 → fr (FR b) σ σ' → GR b P (fHour P (fFall (1 + (nD (fNa A)).tmod 9) (fNa (fNa A)))) σ' → Q (some (.inl (1 + (nD (fNa A)).tmod 9))) shM σ') (h1 : ∀ σ', (nD A).tmod 3 = 1 → fr (FR b) σ σ' → GR b P (fHour P (fThaw (1 + (nD (fNa A)).tmod 5) (fNa (fNa A)))) σ' → Q (some (.inl (-(1 + (nD (fNa A)).tmod 5)))) shM σ') (h2 : ∀ σ', ¬ (nD A).tmod 3 = 0 → ¬ (nD A).tmod 3 = 1 → fr (FR b) σ σ' → GR b P (fHour P (fNa A)) σ' → Q (some (.inl 0)) shM σ') : sx_Run X 250 [.inr (.inr 124), .inl b] shM σ Q := by
  have h3 := nT_bd A (show (0 : Int) < 3 by decide)
  have h9 := nT_bd (fNa A) (show (0 : Int) < 9 by decide)
  have h5 := nT_bd (fNa A) (show (0 : Int) < 5 by decide)
  have hd1 := nD_bd A
  have hd2 := nD_bd (fNa A)
  refine sx_rule0 (own := 12) (cd := kX12_goNight) (nL := 4) (by decide +kernel) (by decide +kernel) kX12_goNight_ok (by decide +kernel) (Nat.le_of_ble_eq_true rfl) 40 ?_
  conv => whnf
  refine ⟨Nat.le_of_ble_eq_true rfl, Nat.le_of_ble_eq_true rfl, (by first | assumption | rfl), ?_⟩
  refine a_Rnumber hb ⟨by decide, by decide⟩ wm g0 ?_
  intro σ1 hf1 g1
  conv => whnf
  refine ⟨fun g => ?_, fun g => ?_⟩
  · simp only [sx_cc, Classical.not_not] at g
    conv => whnf
    refine ⟨fun g => ?_, fun g => ?_⟩
    · simp only [sx_cc, Classical.not_not] at g
      conv => whnf
      refine ⟨fun g => ?_, fun g => ?_⟩
      · skip
        conv => whnf
        refine ⟨fun g => ?_, fun g => ?_⟩
        · skip
          conv => whnf
          refine ⟨Nat.le_of_ble_eq_true rfl, Nat.le_of_ble_eq_true rfl, (by first | assumption | rfl), ?_⟩
          refine a_Rhour hb wp wm.na g1 ?_
          intro σ4 hf4 g4
          conv => whnf
          refine ⟨fun q9 => by first | (simp at q9; done) | omega, ?_⟩
          exact h2 σ4 (by omega) (by omega) (hf1.trans hf4) g4
        · exact absurd g (by simp [sx_cc])
      · exact absurd g (by simp [sx_cc])
    · simp only [sx_cc, Classical.not_not] at g
      conv => whnf
      refine ⟨Nat.le_of_ble_eq_true rfl, Nat.le_of_ble_eq_true rfl, (by first | assumption | rfl), ?_⟩
      refine a_Rnumber hb ⟨by decide, by decide⟩ wm.na g1 ?_
      intro σ2 hf2 g2
      conv => whnf
      refine ⟨⟨by omega, by omega⟩, ?_⟩
      conv => whnf
      refine ⟨fun g => ?_, fun g => ?_⟩
      · simp only [sx_cc, Classical.not_not] at g
        conv => whnf
        refine ⟨fun g => ?_, fun g => ?_⟩
        · simp only [sx_cc, Classical.not_not] at g
          omega
        · simp only [sx_cc, Classical.not_not] at g
          conv => whnf
          refine ⟨⟨by omega, by omega⟩, ?_⟩
          conv => whnf
          refine ⟨Nat.le_of_ble_eq_true rfl, Nat.le_of_ble_eq_true rfl, (by first | assumption | rfl), ?_⟩
          rw [show -(-1 - (nD (fNa A)).tmod 5) = 1 + (nD (fNa A)).tmod 5 by omega]
          refine a_Rthaws hb wm.na.na (by omega) g2 ⟨by omega, by omega⟩ ?_
          intro σ3 hf3 g3
          conv => whnf
          refine ⟨Nat.le_of_ble_eq_true rfl, Nat.le_of_ble_eq_true rfl, (by first | assumption | rfl), ?_⟩
          refine a_Rhour hb wp (wm.na.na.thaw (by omega)) g3 ?_
          intro σ4 hf4 g4
          conv => whnf
          refine ⟨fun q9 => by first | (simp at q9; done) | omega, ?_⟩
          rw [show -1 - (nD (fNa A)).tmod 5 = -(1 + (nD (fNa A)).tmod 5) by omega]
          exact h1 σ4 (by omega) (((hf1.trans hf2).trans hf3).trans hf4) g4
      · simp only [sx_cc, Classical.not_not] at g
        omega
  · simp only [sx_cc, Classical.not_not] at g
    conv => whnf
    refine ⟨Nat.le_of_ble_eq_true rfl, Nat.le_of_ble_eq_true rfl, (by first | assumption | rfl), ?_⟩
    refine a_Rnumber hb ⟨by decide, by decide⟩ wm.na g1 ?_
    intro σ2 hf2 g2
    conv => whnf
    refine ⟨⟨by omega, by omega⟩, ?_⟩
    conv => whnf
    refine ⟨fun g => ?_, fun g => ?_⟩
    · simp only [sx_cc, Classical.not_not] at g
      omega
    · simp only [sx_cc, Classical.not_not] at g
      conv => whnf
      refine ⟨Nat.le_of_ble_eq_true rfl, Nat.le_of_ble_eq_true rfl, (by first | assumption | rfl), ?_⟩
      refine a_Rfalls hb wm.na.na (by omega) g2 ⟨by omega, by omega⟩ ?_
      intro σ3 hf3 g3
      conv => whnf
      refine ⟨fun g => ?_, fun g => ?_⟩
      · simp only [sx_cc, Classical.not_not] at g
        conv => whnf
        refine ⟨Nat.le_of_ble_eq_true rfl, Nat.le_of_ble_eq_true rfl, (by first | assumption | rfl), ?_⟩
        refine a_Rhour hb wp (wm.na.na.fall (by omega)) g3 ?_
        intro σ4 hf4 g4
        conv => whnf
        refine ⟨fun q9 => by first | (simp at q9; done) | omega, ?_⟩
        exact h0 σ4 (by omega) (((hf1.trans hf2).trans hf3).trans hf4) g4
      · simp only [sx_cc, Classical.not_not] at g
        omega
theorem a_Rnight (hb : b = 0 ∨ b = 1) (wp : wP P) (wm : wM P A c) (hc : c ≤ 900000) (g0 : GR b P A σ) (h : ∀ σ', fr (FR b) σ σ' → GR b P (fNs P A) σ' → Q (some (.inl (fNv A))) shM σ') : sx_Run X 250 [.inr (.inr 124), .inl b] shM σ Q := by
  refine c_Rnight hb wp wm hc g0 (fun σ' e hf g => ?_) (fun σ' e hf g => ?_) (fun σ' e1 e2 hf g => ?_)
  · have h' := h σ' hf (by unfold fNs; rw [if_pos e]; exact g)
    unfold fNv at h'; rw [if_pos e] at h'; exact h'
  · have h' := h σ' hf (by unfold fNs; rw [if_neg (by omega), if_pos e]; exact g)
    unfold fNv at h'; rw [if_neg (by omega), if_pos e] at h'; exact h'
  · have h' := h σ' hf (by unfold fNs; rw [if_neg e1, if_neg e2]; exact g)
    unfold fNv at h'; rw [if_neg e1, if_neg e2] at h'; exact h'
set_option maxRecDepth 20000 in
theorem c_hours (hp : isP p) (wp : wP P) (wm : wM P A c) (g0 : GC 40 p P A σ) {x : Int} (h0 : ¬ (0 ≤ x ∧ x ≤ 99 ∧ A.hr + x ≤ 9999) → Q (some (.inl (-1))) shM σ) (h1 : x = 0 → Q (some (.inl A.hr)) shM σ) (h2 : 1 ≤ x → x ≤ 99 → A.hr + x ≤ 9999 → ∀ σ', fr (FC 40) σ σ' → GC 40 p P (fHrs P x.toNat A) σ' → Q (some (.inl (A.hr + x))) shM (sx_up σ' 85 0 0)) : sx_Run X 135 [.inr (.inr 0), .inl x] shM σ Q := by
  have a6 := pt_0_6 g0.pt
  have a10 := pt_0_10 g0.pt
  have ehr := g0.cs.hr
  have hs : isS 40 := Or.inl rfl
  have whr := wm.hr
  refine sx_rule2 (own := 11) (cd := kX11_hours) (nL := 3) (by decide +kernel) (by decide +kernel) kX11_hours_ok (by decide +kernel) (Nat.le_of_ble_eq_true rfl) [25] 40 (fun n t L st _ σ' => (t = 25 ∧ ∃ i : Int, st = [] ∧ L = [some (.inr (.inr (0))), some (.inl (x)), some (.inl (i))] ∧ (fr (FC 40) σ σ' ∧ GC 40 p P (fHrs P i.toNat A) σ' ∧ (i = 0 → σ' = σ) ∧ 0 ≤ i ∧ i ≤ x ∧ x ≤ 99 ∧ A.hr + x ≤ 9999) ∧ n = (x - i).toNat)) ?_ ?_
  · skip
    conv => whnf
    refine ⟨fun g => ?_, fun g => ?_⟩
    · simp only [sx_cc, Classical.not_not] at g
      conv => whnf
      refine ⟨fun q9 => by first | (simp at q9; done) | omega, ?_⟩
      exact h0 (by omega)
    · simp only [sx_cc, Classical.not_not] at g
      conv => whnf
      refine ⟨fun g => ?_, fun g => ?_⟩
      · simp only [sx_cc, Classical.not_not] at g
        conv => whnf
        refine ⟨fun q9 => by first | (simp at q9; done) | omega, ?_⟩
        exact h0 (by omega)
      · simp only [sx_cc, Classical.not_not] at g
        conv => whnf
        refine ⟨(by first | assumption | rfl), ?_⟩
        try simp (disch := omega) only [Int.cast_ofNat_Int, up_s, up_a, up_i, mp_a, mp_ge, cp_a, a6, a10]
        conv => whnf
        refine ⟨Nat.le_of_ble_eq_true rfl, Nat.le_of_ble_eq_true rfl, (by first | assumption | rfl), ?_⟩
        refine c_Shours hs (by rw [ehr]; exact wm.hr) (fun y1 => ?_) (fun y1 => ?_)
        · rw [ehr] at y1
          conv => whnf
          refine ⟨fun g => ?_, fun g => ?_⟩
          · skip
            conv => whnf
            refine ⟨_, ⟨rfl, _, rfl, rfl, ?_, rfl⟩⟩
            exact ⟨fr.rfl, g0, fun _ => rfl, by omega, by omega, by omega, by omega⟩
          · exact absurd g (by simp [sx_cc])
        · rw [ehr] at y1
          conv => whnf
          refine ⟨fun g => ?_, fun g => ?_⟩
          · exact absurd g (by simp [sx_cc])
          · skip
            conv => whnf
            refine ⟨fun q9 => by first | (simp at q9; done) | omega, ?_⟩
            exact h0 (by omega)
  · intro n t L st σ' hk
    obtain ⟨rfl, i, rfl, rfl, hc, rfl⟩ := hk
    obtain ⟨hfi, gi, hz, hi0, hi1, hx1, hx2⟩ := hc
    have b6 := pt_0_6 gi.pt
    have b10 := pt_0_10 gi.pt
    have bhr := gi.cs.hr
    conv => whnf
    refine ⟨fun g => ?_, fun g => ?_⟩
    · simp only [sx_cc, Classical.not_not] at g
      conv => whnf
      refine ⟨fun g => ?_, fun g => ?_⟩
      · simp only [sx_cc, Classical.not_not] at g
        conv => whnf
        refine ⟨(by first | assumption | rfl), ?_⟩
        try simp (disch := omega) only [Int.cast_ofNat_Int, up_s, up_a, up_i, mp_a, mp_ge, cp_a, a6, a10, b6, b10]
        conv => whnf
        refine ⟨(by first | assumption | rfl), ?_⟩
        try simp (disch := omega) only [Int.cast_ofNat_Int, up_s, up_a, up_i, mp_a, mp_ge, cp_a, a6, a10, b6, b10]
        conv => whnf
        refine ⟨fun q9 => by first | (simp at q9; done) | omega, ?_⟩
        first | (rw [hz (by omega), ehr]; exact h1 (by omega)) | (rw [bhr, fHrs_hr, show i = x by omega, show ((x.toNat : Nat) : Int) = x by omega]; exact h2 (by omega) (by omega) (by omega) _ hfi (by rw [← show i = x by omega]; exact gi))
      · simp only [sx_cc, Classical.not_not] at g
        conv => whnf
        refine ⟨(by first | assumption | rfl), ?_⟩
        try simp (disch := omega) only [Int.cast_ofNat_Int, up_s, up_a, up_i, mp_a, mp_ge, cp_a, a6, a10, b6, b10]
        conv => whnf
        refine ⟨(by first | assumption | rfl), ?_⟩
        try simp (disch := omega) only [Int.cast_ofNat_Int, up_s, up_a, up_i, mp_a, mp_ge, cp_a, a6, a10, b6, b10]
        conv => whnf
        refine ⟨(by first | assumption | rfl), ?_⟩
        try simp (disch := omega) only [Int.cast_ofNat_Int, up_s, up_a, up_i, mp_a, mp_ge, cp_a, a6, a10, b6, b10]
        conv => whnf
        refine ⟨(by first | assumption | rfl), ?_⟩
        try simp (disch := omega) only [Int.cast_ofNat_Int, up_s, up_a, up_i, mp_a, mp_ge, cp_a, a6, a10, b6, b10]
        conv => whnf
        refine ⟨fun q9 => by first | (simp at q9; done) | omega, ?_⟩
        first | (rw [hz (by omega), ehr]; exact h1 (by omega)) | (rw [bhr, fHrs_hr, show i = x by omega, show ((x.toNat : Nat) : Int) = x by omega]; exact h2 (by omega) (by omega) (by omega) _ hfi (by rw [← show i = x by omega]; exact gi))
    · simp only [sx_cc, Classical.not_not] at g
      conv => whnf
      refine ⟨(by first | assumption | rfl), ?_⟩
      try simp (disch := omega) only [Int.cast_ofNat_Int, up_s, up_a, up_i, mp_a, mp_ge, cp_a, a6, a10, b6, b10]
      conv => whnf
      refine ⟨Nat.le_of_ble_eq_true rfl, Nat.le_of_ble_eq_true rfl, (by first | assumption | rfl), ?_⟩
      refine a_Shour hs hp wp (wm.hrs i.toNat (by omega)) gi ?_
      intro σ2 hf2 g2
      conv => whnf
      refine ⟨⟨by omega, by omega⟩, ?_⟩
      conv => whnf
      refine ⟨_, ?_, ⟨rfl, _, rfl, rfl, ?_, rfl⟩⟩
      · omega
      · exact ⟨hfi.trans hf2, by rw [fHrs_s (by omega)]; exact g2, fun z => by omega, by omega, by omega, by omega, by omega⟩
set_option maxRecDepth 20000 in
theorem r_hours (e0 : σ0 = sx_up σ 124 2 0) (wp : wP P) (wm : wM P A c) (g0 : GR 0 P A σ0) {x : Int} (h0 : ¬ (0 ≤ x ∧ x ≤ 99 ∧ A.hr + x ≤ 9999) → Q (some (.inl (-1))) shM σ0) (h1 : x = 0 → Q (some (.inl A.hr)) shM (sx_up σ0 124 83 (σ0 124 83))) (h2 : 1 ≤ x → x ≤ 99 → A.hr + x ≤ 9999 → ∀ σ', fr (FR 0) σ0 σ' → GR 0 P (fHrs P x.toNat A) σ' → Q (some (.inl (A.hr + x))) shM (sx_up σ' 124 83 0)) : sx_Run X 246 [.inr (.inr 124), .inl x] shM σ Q := by
  have r67 := pt_124_67 g0.pt
  have ehr := g0.rs.hr
  have hb : (0 : Int) = 0 ∨ (0 : Int) = 1 := Or.inl rfl
  have whr := wm.hr
  refine sx_rule2 (own := 12) (cd := kX12_hours) (nL := 3) (by decide +kernel) (by decide +kernel) kX12_hours_ok (by decide +kernel) (Nat.le_of_ble_eq_true rfl) [33] 40 (fun n t L st _ σ' => (t = 33 ∧ ∃ i : Int, st = [] ∧ L = [some (.inr (.inr (124))), some (.inl (x)), some (.inl (i))] ∧ (fr (FR 0) σ0 σ' ∧ GR 0 P (fHrs P i.toNat A) σ' ∧ (i = 0 → σ' = σ0) ∧ 0 ≤ i ∧ i ≤ x ∧ x ≤ 99 ∧ A.hr + x ≤ 9999) ∧ n = (x - i).toNat)) ?_ ?_
  · skip
    conv => whnf
    refine ⟨(by first | assumption | rfl), ?_⟩
    try simp (disch := omega) only [Int.cast_ofNat_Int, up_s, up_a, up_i, mp_a, mp_ge, cp_a, r67, ehr]
    rw [← e0]
    conv => whnf
    refine ⟨Nat.le_of_ble_eq_true rfl, Nat.le_of_ble_eq_true rfl, ?_⟩
    refine c_Rin (fun y1 y2 => ?_) (fun y0 => ?_)
    · skip
      conv => whnf
      refine ⟨fun g => ?_, fun g => ?_⟩
      · exact absurd g (by simp [sx_cc])
      · skip
        conv => whnf
        refine ⟨(by first | assumption | rfl), ?_⟩
        try simp (disch := omega) only [Int.cast_ofNat_Int, up_s, up_a, up_i, mp_a, mp_ge, cp_a, r67, ehr]
        conv => whnf
        refine ⟨sx_ixI (by first | assumption | rfl) (by omega) (by omega), ?_⟩
        try simp (disch := omega) only [Int.cast_ofNat_Int, up_s, up_a, up_i, mp_a, mp_ge, cp_a, r67, ehr]
        conv => whnf
        refine ⟨⟨by omega, by omega⟩, ?_⟩
        conv => whnf
        refine ⟨fun g => ?_, fun g => ?_⟩
        · simp only [sx_cc, Classical.not_not] at g
          conv => whnf
          refine ⟨_, ⟨rfl, _, rfl, rfl, ?_, rfl⟩⟩
          exact ⟨fr.rfl, g0, fun _ => rfl, by omega, by omega, by omega, by omega⟩
        · simp only [sx_cc, Classical.not_not] at g
          conv => whnf
          refine ⟨fun q9 => by first | (simp at q9; done) | omega, ?_⟩
          exact h0 (by omega)
    · skip
      conv => whnf
      refine ⟨fun g => ?_, fun g => ?_⟩
      · skip
        conv => whnf
        refine ⟨fun q9 => by first | (simp at q9; done) | omega, ?_⟩
        exact h0 (by omega)
      · exact absurd g (by simp [sx_cc])
  · intro n t L st σ' hk
    obtain ⟨rfl, i, rfl, rfl, hc, rfl⟩ := hk
    obtain ⟨hfi, gi, hz, hi0, hi1, hx1, hx2⟩ := hc
    have c67 := pt_124_67 gi.pt
    have bhr := gi.rs.hr
    conv => whnf
    refine ⟨fun g => ?_, fun g => ?_⟩
    · simp only [sx_cc, Classical.not_not] at g
      conv => whnf
      refine ⟨fun g => ?_, fun g => ?_⟩
      · simp only [sx_cc, Classical.not_not] at g
        conv => whnf
        refine ⟨(by first | assumption | rfl), ?_⟩
        try simp (disch := omega) only [Int.cast_ofNat_Int, up_s, up_a, up_i, mp_a, mp_ge, cp_a, r67, ehr, c67]
        conv => whnf
        refine ⟨(by first | assumption | rfl), ?_⟩
        try simp (disch := omega) only [Int.cast_ofNat_Int, up_s, up_a, up_i, mp_a, mp_ge, cp_a, r67, ehr, c67]
        conv => whnf
        refine ⟨(by first | assumption | rfl), ?_⟩
        try simp (disch := omega) only [Int.cast_ofNat_Int, up_s, up_a, up_i, mp_a, mp_ge, cp_a, r67, ehr, c67]
        conv => whnf
        refine ⟨sx_ixI (by first | assumption | rfl) (by omega) (by omega), ?_⟩
        try simp (disch := omega) only [Int.cast_ofNat_Int, up_s, up_a, up_i, mp_a, mp_ge, cp_a, r67, ehr, c67]
        conv => whnf
        refine ⟨fun q9 => by first | (simp at q9; done) | omega, ?_⟩
        first | (rw [hz (by omega), ehr]; exact h1 (by omega)) | (rw [bhr, fHrs_hr, show i = x by omega, show ((x.toNat : Nat) : Int) = x by omega]; exact h2 (by omega) (by omega) (by omega) _ hfi (by rw [← show i = x by omega]; exact gi))
      · simp only [sx_cc, Classical.not_not] at g
        conv => whnf
        refine ⟨(by first | assumption | rfl), ?_⟩
        try simp (disch := omega) only [Int.cast_ofNat_Int, up_s, up_a, up_i, mp_a, mp_ge, cp_a, r67, ehr, c67]
        conv => whnf
        refine ⟨(by first | assumption | rfl), ?_⟩
        try simp (disch := omega) only [Int.cast_ofNat_Int, up_s, up_a, up_i, mp_a, mp_ge, cp_a, r67, ehr, c67]
        conv => whnf
        refine ⟨sx_ixI (by first | assumption | rfl) (by omega) (by omega), ?_⟩
        try simp (disch := omega) only [Int.cast_ofNat_Int, up_s, up_a, up_i, mp_a, mp_ge, cp_a, r67, ehr, c67]
        conv => whnf
        refine ⟨fun q9 => by first | (simp at q9; done) | omega, ?_⟩
        first | (rw [hz (by omega), ehr]; exact h1 (by omega)) | (rw [bhr, fHrs_hr, show i = x by omega, show ((x.toNat : Nat) : Int) = x by omega]; exact h2 (by omega) (by omega) (by omega) _ hfi (by rw [← show i = x by omega]; exact gi))
    · simp only [sx_cc, Classical.not_not] at g
      conv => whnf
      refine ⟨Nat.le_of_ble_eq_true rfl, Nat.le_of_ble_eq_true rfl, (by first | assumption | rfl), ?_⟩
      refine a_Rhour hb wp (wm.hrs i.toNat (by omega)) gi ?_
      intro σ2 hf2 g2
      conv => whnf
      refine ⟨⟨by omega, by omega⟩, ?_⟩
      conv => whnf
      refine ⟨_, ?_, ⟨rfl, _, rfl, rfl, ?_, rfl⟩⟩
      · omega
      · exact ⟨hfi.trans hf2, by rw [fHrs_s (by omega)]; exact g2, fun z => by omega, by omega, by omega, by omega, by omega⟩
set_option maxRecDepth 20000 in
theorem c_night (hp : isP p) (wp : wP P) (wm : wM P A c) (hc : c ≤ 900000) (g0 : GC 40 p P A σ) (e1 : σ0 = sx_up σ 85 0 0) (h0 : A.hr = 9999 → Q (some (.inl (-100))) shM σ) (h1 : A.hr ≤ 9998 → ∀ σ', fr (FC 40) σ0 σ' → GC 40 p P (fNs P A) σ' → Q (some (.inl (fNv A))) shM σ') : sx_Run X 138 [.inr (.inr 0)] shM σ Q := by
  have a6 := pt_0_6 g0.pt
  have a10 := pt_0_10 g0.pt
  have ehr := g0.cs.hr
  have hs : isS 40 := Or.inl rfl
  have whr := wm.hr
  have hT1 : PT σ0 := by rw [e1]; exact PT.up g0.pt (by decide +kernel)
  have g1 : GC 40 p P A σ0 := g0.of hs hp hT1 (fun a i z1 z2 => by rw [e1, up_a (by omega)])
  have b6 := pt_0_6 hT1
  refine sx_rule0 (own := 11) (cd := kX11_night) (nL := 1) (by decide +kernel) (by decide +kernel) kX11_night_ok (by decide +kernel) (Nat.le_of_ble_eq_true rfl) 40 ?_
  conv => whnf
  refine ⟨(by first | assumption | rfl), ?_⟩
  try simp (disch := omega) only [Int.cast_ofNat_Int, up_s, up_a, up_i, mp_a, mp_ge, cp_a, a6, a10, b6]
  conv => whnf
  refine ⟨Nat.le_of_ble_eq_true rfl, Nat.le_of_ble_eq_true rfl, (by first | assumption | rfl), ?_⟩
  refine c_Shours hs (by rw [ehr]; exact wm.hr) (fun y1 => ?_) (fun y1 => ?_)
  · rw [ehr] at y1
    conv => whnf
    refine ⟨fun g => ?_, fun g => ?_⟩
    · skip
      conv => whnf
      refine ⟨(by first | assumption | rfl), ?_⟩
      try simp (disch := omega) only [Int.cast_ofNat_Int, up_s, up_a, up_i, mp_a, mp_ge, cp_a, a6, a10, b6]
      conv => whnf
      refine ⟨(by first | assumption | rfl), ?_⟩
      try simp (disch := omega) only [Int.cast_ofNat_Int, up_s, up_a, up_i, mp_a, mp_ge, cp_a, a6, a10, b6]
      rw [← e1]
      conv => whnf
      refine ⟨(by first | assumption | rfl), ?_⟩
      try simp (disch := omega) only [Int.cast_ofNat_Int, up_s, up_a, up_i, mp_a, mp_ge, cp_a, a6, a10, b6]
      conv => whnf
      refine ⟨Nat.le_of_ble_eq_true rfl, Nat.le_of_ble_eq_true rfl, (by first | assumption | rfl), ?_⟩
      refine a_Snight hs hp wp wm hc g1 ?_
      intro σ2 hf2 g2
      conv => whnf
      refine ⟨fun q9 => by first | (simp at q9; done) | omega, ?_⟩
      exact h1 (by omega) _ hf2 g2
    · exact absurd g (by simp [sx_cc])
  · rw [ehr] at y1
    conv => whnf
    refine ⟨fun g => ?_, fun g => ?_⟩
    · exact absurd g (by simp [sx_cc])
    · skip
      conv => whnf
      refine ⟨fun q9 => by first | (simp at q9; done) | omega, ?_⟩
      exact h0 (by omega)
set_option maxRecDepth 20000 in
theorem r_night (e0 : σ0 = sx_up σ 124 2 0) (wp : wP P) (wm : wM P A c) (hc : c ≤ 900000) (g0 : GR 0 P A σ0) {σ1 : sx_S} (e1 : σ1 = sx_up σ0 124 83 0) (h0 : A.hr = 9999 → Q (some (.inl (-100))) shM σ0) (h1 : A.hr ≤ 9998 → ∀ σ', fr (FR 0) σ1 σ' → GR 0 P (fNs P A) σ' → Q (some (.inl (fNv A))) shM σ') : sx_Run X 251 [.inr (.inr 124)] shM σ Q := by
  have r67 := pt_124_67 g0.pt
  have ehr := g0.rs.hr
  have hb : (0 : Int) = 0 ∨ (0 : Int) = 1 := Or.inl rfl
  have whr := wm.hr
  have hT1 : PT σ1 := by rw [e1]; exact PT.up g0.pt (by decide +kernel)
  have g1 : GR 0 P A σ1 := g0.of hT1 (fun a i z1 z2 => by rw [e1, up_a (by omega)]) (fun i z => by rw [e1, up_i (by omega)])
  refine sx_rule0 (own := 12) (cd := kX12_night) (nL := 1) (by decide +kernel) (by decide +kernel) kX12_night_ok (by decide +kernel) (Nat.le_of_ble_eq_true rfl) 40 ?_
  conv => whnf
  refine ⟨(by first | assumption | rfl), ?_⟩
  try simp (disch := omega) only [Int.cast_ofNat_Int, up_s, up_a, up_i, mp_a, mp_ge, cp_a, r67, ehr]
  rw [← e0]
  conv => whnf
  refine ⟨(by first | assumption | rfl), ?_⟩
  try simp (disch := omega) only [Int.cast_ofNat_Int, up_s, up_a, up_i, mp_a, mp_ge, cp_a, r67, ehr]
  conv => whnf
  refine ⟨sx_ixI (by first | assumption | rfl) (by omega) (by omega), ?_⟩
  try simp (disch := omega) only [Int.cast_ofNat_Int, up_s, up_a, up_i, mp_a, mp_ge, cp_a, r67, ehr]
  conv => whnf
  refine ⟨fun g => ?_, fun g => ?_⟩
  · simp only [sx_cc, Classical.not_not] at g
    conv => whnf
    refine ⟨(by first | assumption | rfl), ?_⟩
    try simp (disch := omega) only [Int.cast_ofNat_Int, up_s, up_a, up_i, mp_a, mp_ge, cp_a, r67, ehr]
    rw [← e1]
    conv => whnf
    refine ⟨Nat.le_of_ble_eq_true rfl, Nat.le_of_ble_eq_true rfl, (by first | assumption | rfl), ?_⟩
    refine a_Rnight hb wp wm hc g1 ?_
    intro σ2 hf2 g2
    conv => whnf
    refine ⟨fun q9 => by first | (simp at q9; done) | omega, ?_⟩
    exact h1 (by omega) _ hf2 g2
  · simp only [sx_cc, Classical.not_not] at g
    conv => whnf
    refine ⟨fun q9 => by first | (simp at q9; done) | omega, ?_⟩
    exact h0 (by omega)
end SXL3
