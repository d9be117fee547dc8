/-! COUNT, NAMED, FAULT (by wip/whole) -/
section SXM11
variable {X : sx_X} {Q : sx_R} {s t p b c kk K : Int} {σ σ0 σ' σ1 σ2 : sx_S} {P : aP} {A B : aM} {W : aW} {C : aC}
def aCnt (P : aP) (A : aM) (W : aW) (C : aC) (z q : Int) : Int := if q = 0 then P.w else if q = 1 then P.h else if q = 2 then P.fa else if q = 3 then P.wa else if q = 4 then P.kn else if q = 5 then A.hr else if q = 6 then A.sn else if q = 7 then A.n else if q = 8 then (fCnt (fun i => decide (0 < A.dp i)) A.n.toNat) else if q = 9 then (aRm A) else if q = 10 then W.wi else if q = 11 then C.n else if q = 12 then (fKnw C) else if q = 13 then z else -1
set_option maxRecDepth 20000 in
theorem c_count (hp : isP p) (e2 : σ 0 2 = p) (wp : wP P) (wm : wM P A c) (gg : GC 40 p P A σ) (hW : cW P 40 σ W) (hC : cC σ C) {z q : Int} (ez : σ 85 0 = z) (h : ∀ σ', fr (FC 40) σ σ' → GC 40 p P A σ' → Q (some (.inl (aCnt P A W C z q))) shM σ') : sx_Run X 170 [.inr (.inr 0), .inl q] shM σ Q := by
  have hs : isS 40 := Or.inl rfl
  have a6 := pt_0_6 gg.pt
  have a10 := pt_0_10 gg.pt
  have a11 := pt_0_11 gg.pt
  have s5 := ptS_5 gg.pt hs
  have k0 := lkS0 hs
  have k4 := lkS4 hs
  have q0 := lkP0 hp
  have ew := gg.cp.w
  have eh := gg.cp.h
  have ef := gg.cp.fa
  have ewa := gg.cp.wa
  have ekn := gg.cp.kn
  have ehr := gg.cs.hr
  have esn := gg.cs.sn
  have en := gg.cs.n
  have ewi := hW.wi
  have ecn := hC.n
  refine sx_rule0 (own := 11) (cd := kX11_count) (nL := 2) (by decide +kernel) (by decide +kernel) kX11_count_ok (by decide +kernel) (Nat.le_of_ble_eq_true rfl) 40 ?_
  conv => whnf
  refine ⟨fun g => ?_, ?_⟩
  · skip
    conv => whnf
    refine ⟨fun q9 => by first | (simp at q9; done) | omega, ?_⟩
    have h9 := h _ fr.rfl gg
    rw [show aCnt P A W C z q = -1 from by unfold aCnt; rw [if_neg (by omega), if_neg (by omega), if_neg (by omega), if_neg (by omega), if_neg (by omega), if_neg (by omega), if_neg (by omega), if_neg (by omega), if_neg (by omega), if_neg (by omega), if_neg (by omega), if_neg (by omega), if_neg (by omega), if_neg (by omega)]] at h9
    exact h9
  conv => whnf
  refine ⟨fun g => ?_, ?_⟩
  · skip
    have g9 : q = 0 := (by omega)
    subst g9
    conv => whnf
    refine ⟨(by first | assumption | rfl), ?_⟩
    try simp (disch := omega) only [Int.cast_ofNat_Int, up_s, up_a, up_i, mp_a, mp_ge]
    try simp only [e2]
    try simp only [a6]
    try simp only [a10]
    try simp only [a11]
    try simp only [s5]
    try simp only [ew]
    try simp only [eh]
    try simp only [ef]
    try simp only [ewa]
    try simp only [ekn]
    try simp only [ehr]
    try simp only [esn]
    try simp only [en]
    try simp only [ewi]
    try simp only [ecn]
    try simp only [ez]
    conv => whnf
    refine ⟨(by first | assumption | rfl), ?_⟩
    try simp (disch := omega) only [Int.cast_ofNat_Int, up_s, up_a, up_i, mp_a, mp_ge]
    try simp only [e2]
    try simp only [a6]
    try simp only [a10]
    try simp only [a11]
    try simp only [s5]
    try simp only [ew]
    try simp only [eh]
    try simp only [ef]
    try simp only [ewa]
    try simp only [ekn]
    try simp only [ehr]
    try simp only [esn]
    try simp only [en]
    try simp only [ewi]
    try simp only [ecn]
    try simp only [ez]
    conv => whnf
    refine ⟨fun q9 => by first | (simp at q9; done) | omega, ?_⟩
    have h9 := h _ fr.rfl gg
    rw [show aCnt P A W C z 0 = P.w from rfl] at h9
    exact h9
  conv => whnf
  refine ⟨fun g => ?_, ?_⟩
  · skip
    have g9 : q = 1 := (by omega)
    subst g9
    conv => whnf
    refine ⟨(by first | assumption | rfl), ?_⟩
    try simp (disch := omega) only [Int.cast_ofNat_Int, up_s, up_a, up_i, mp_a, mp_ge]
    try simp only [e2]
    try simp only [a6]
    try simp only [a10]
    try simp only [a11]
    try simp only [s5]
    try simp only [ew]
    try simp only [eh]
    try simp only [ef]
    try simp only [ewa]
    try simp only [ekn]
    try simp only [ehr]
    try simp only [esn]
    try simp only [en]
    try simp only [ewi]
    try simp only [ecn]
    try simp only [ez]
    conv => whnf
    refine ⟨(by first | assumption | rfl), ?_⟩
    try simp (disch := omega) only [Int.cast_ofNat_Int, up_s, up_a, up_i, mp_a, mp_ge]
    try simp only [e2]
    try simp only [a6]
    try simp only [a10]
    try simp only [a11]
    try simp only [s5]
    try simp only [ew]
    try simp only [eh]
    try simp only [ef]
    try simp only [ewa]
    try simp only [ekn]
    try simp only [ehr]
    try simp only [esn]
    try simp only [en]
    try simp only [ewi]
    try simp only [ecn]
    try simp only [ez]
    conv => whnf
    refine ⟨fun q9 => by first | (simp at q9; done) | omega, ?_⟩
    have h9 := h _ fr.rfl gg
    rw [show aCnt P A W C z 1 = P.h from rfl] at h9
    exact h9
  conv => whnf
  refine ⟨fun g => ?_, ?_⟩
  · skip
    have g9 : q = 2 := (by omega)
    subst g9
    conv => whnf
    refine ⟨(by first | assumption | rfl), ?_⟩
    try simp (disch := omega) only [Int.cast_ofNat_Int, up_s, up_a, up_i, mp_a, mp_ge]
    try simp only [e2]
    try simp only [a6]
    try simp only [a10]
    try simp only [a11]
    try simp only [s5]
    try simp only [ew]
    try simp only [eh]
    try simp only [ef]
    try simp only [ewa]
    try simp only [ekn]
    try simp only [ehr]
    try simp only [esn]
    try simp only [en]
    try simp only [ewi]
    try simp only [ecn]
    try simp only [ez]
    conv => whnf
    refine ⟨(by first | assumption | rfl), ?_⟩
    try simp (disch := omega) only [Int.cast_ofNat_Int, up_s, up_a, up_i, mp_a, mp_ge]
    try simp only [e2]
    try simp only [a6]
    try simp only [a10]
    try simp only [a11]
    try simp only [s5]
    try simp only [ew]
    try simp only [eh]
    try simp only [ef]
    try simp only [ewa]
    try simp only [ekn]
    try simp only [ehr]
    try simp only [esn]
    try simp only [en]
    try simp only [ewi]
    try simp only [ecn]
    try simp only [ez]
    conv => whnf
    refine ⟨fun q9 => by first | (simp at q9; done) | omega, ?_⟩
    have h9 := h _ fr.rfl gg
    rw [show aCnt P A W C z 2 = P.fa from rfl] at h9
    exact h9
  conv => whnf
  refine ⟨fun g => ?_, ?_⟩
  · skip
    have g9 : q = 3 := (by omega)
    subst g9
    conv => whnf
    refine ⟨(by first | assumption | rfl), ?_⟩
    try simp (disch := omega) only [Int.cast_ofNat_Int, up_s, up_a, up_i, mp_a, mp_ge]
    try simp only [e2]
    try simp only [a6]
    try simp only [a10]
    try simp only [a11]
    try simp only [s5]
    try simp only [ew]
    try simp only [eh]
    try simp only [ef]
    try simp only [ewa]
    try simp only [ekn]
    try simp only [ehr]
    try simp only [esn]
    try simp only [en]
    try simp only [ewi]
    try simp only [ecn]
    try simp only [ez]
    conv => whnf
    refine ⟨(by first | assumption | rfl), ?_⟩
    try simp (disch := omega) only [Int.cast_ofNat_Int, up_s, up_a, up_i, mp_a, mp_ge]
    try simp only [e2]
    try simp only [a6]
    try simp only [a10]
    try simp only [a11]
    try simp only [s5]
    try simp only [ew]
    try simp only [eh]
    try simp only [ef]
    try simp only [ewa]
    try simp only [ekn]
    try simp only [ehr]
    try simp only [esn]
    try simp only [en]
    try simp only [ewi]
    try simp only [ecn]
    try simp only [ez]
    conv => whnf
    refine ⟨fun q9 => by first | (simp at q9; done) | omega, ?_⟩
    have h9 := h _ fr.rfl gg
    rw [show aCnt P A W C z 3 = P.wa from rfl] at h9
    exact h9
  conv => whnf
  refine ⟨fun g => ?_, ?_⟩
  · skip
    have g9 : q = 4 := (by omega)
    subst g9
    conv => whnf
    refine ⟨(by first | assumption | rfl), ?_⟩
    try simp (disch := omega) only [Int.cast_ofNat_Int, up_s, up_a, up_i, mp_a, mp_ge]
    try simp only [e2]
    try simp only [a6]
    try simp only [a10]
    try simp only [a11]
    try simp only [s5]
    try simp only [ew]
    try simp only [eh]
    try simp only [ef]
    try simp only [ewa]
    try simp only [ekn]
    try simp only [ehr]
    try simp only [esn]
    try simp only [en]
    try simp only [ewi]
    try simp only [ecn]
    try simp only [ez]
    conv => whnf
    refine ⟨(by first | assumption | rfl), ?_⟩
    try simp (disch := omega) only [Int.cast_ofNat_Int, up_s, up_a, up_i, mp_a, mp_ge]
    try simp only [e2]
    try simp only [a6]
    try simp only [a10]
    try simp only [a11]
    try simp only [s5]
    try simp only [ew]
    try simp only [eh]
    try simp only [ef]
    try simp only [ewa]
    try simp only [ekn]
    try simp only [ehr]
    try simp only [esn]
    try simp only [en]
    try simp only [ewi]
    try simp only [ecn]
    try simp only [ez]
    conv => whnf
    refine ⟨fun q9 => by first | (simp at q9; done) | omega, ?_⟩
    have h9 := h _ fr.rfl gg
    rw [show aCnt P A W C z 4 = P.kn from rfl] at h9
    exact h9
  conv => whnf
  refine ⟨fun g => ?_, ?_⟩
  · skip
    have g9 : q = 5 := (by omega)
    subst g9
    conv => whnf
    refine ⟨(by first | assumption | rfl), ?_⟩
    try simp (disch := omega) only [Int.cast_ofNat_Int, up_s, up_a, up_i, mp_a, mp_ge]
    try simp only [e2]
    try simp only [a6]
    try simp only [a10]
    try simp only [a11]
    try simp only [s5]
    try simp only [ew]
    try simp only [eh]
    try simp only [ef]
    try simp only [ewa]
    try simp only [ekn]
    try simp only [ehr]
    try simp only [esn]
    try simp only [en]
    try simp only [ewi]
    try simp only [ecn]
    try simp only [ez]
    conv => whnf
    refine ⟨(by first | assumption | rfl), ?_⟩
    try simp (disch := omega) only [Int.cast_ofNat_Int, up_s, up_a, up_i, mp_a, mp_ge]
    try simp only [e2]
    try simp only [a6]
    try simp only [a10]
    try simp only [a11]
    try simp only [s5]
    try simp only [ew]
    try simp only [eh]
    try simp only [ef]
    try simp only [ewa]
    try simp only [ekn]
    try simp only [ehr]
    try simp only [esn]
    try simp only [en]
    try simp only [ewi]
    try simp only [ecn]
    try simp only [ez]
    conv => whnf
    refine ⟨fun q9 => by first | (simp at q9; done) | omega, ?_⟩
    have h9 := h _ fr.rfl gg
    rw [show aCnt P A W C z 5 = A.hr from rfl] at h9
    exact h9
  conv => whnf
  refine ⟨fun g => ?_, ?_⟩
  · skip
    have g9 : q = 6 := (by omega)
    subst g9
    conv => whnf
    refine ⟨(by first | assumption | rfl), ?_⟩
    try simp (disch := omega) only [Int.cast_ofNat_Int, up_s, up_a, up_i, mp_a, mp_ge]
    try simp only [e2]
    try simp only [a6]
    try simp only [a10]
    try simp only [a11]
    try simp only [s5]
    try simp only [ew]
    try simp only [eh]
    try simp only [ef]
    try simp only [ewa]
    try simp only [ekn]
    try simp only [ehr]
    try simp only [esn]
    try simp only [en]
    try simp only [ewi]
    try simp only [ecn]
    try simp only [ez]
    conv => whnf
    refine ⟨(by first | assumption | rfl), ?_⟩
    try simp (disch := omega) only [Int.cast_ofNat_Int, up_s, up_a, up_i, mp_a, mp_ge]
    try simp only [e2]
    try simp only [a6]
    try simp only [a10]
    try simp only [a11]
    try simp only [s5]
    try simp only [ew]
    try simp only [eh]
    try simp only [ef]
    try simp only [ewa]
    try simp only [ekn]
    try simp only [ehr]
    try simp only [esn]
    try simp only [en]
    try simp only [ewi]
    try simp only [ecn]
    try simp only [ez]
    conv => whnf
    refine ⟨fun q9 => by first | (simp at q9; done) | omega, ?_⟩
    have h9 := h _ fr.rfl gg
    rw [show aCnt P A W C z 6 = A.sn from rfl] at h9
    exact h9
  conv => whnf
  refine ⟨fun g => ?_, ?_⟩
  · skip
    have g9 : q = 7 := (by omega)
    subst g9
    conv => whnf
    refine ⟨(by first | assumption | rfl), ?_⟩
    try simp (disch := omega) only [Int.cast_ofNat_Int, up_s, up_a, up_i, mp_a, mp_ge]
    try simp only [e2]
    try simp only [a6]
    try simp only [a10]
    try simp only [a11]
    try simp only [s5]
    try simp only [ew]
    try simp only [eh]
    try simp only [ef]
    try simp only [ewa]
    try simp only [ekn]
    try simp only [ehr]
    try simp only [esn]
    try simp only [en]
    try simp only [ewi]
    try simp only [ecn]
    try simp only [ez]
    conv => whnf
    refine ⟨(by first | assumption | rfl), ?_⟩
    try simp (disch := omega) only [Int.cast_ofNat_Int, up_s, up_a, up_i, mp_a, mp_ge]
    try simp only [e2]
    try simp only [a6]
    try simp only [a10]
    try simp only [a11]
    try simp only [s5]
    try simp only [ew]
    try simp only [eh]
    try simp only [ef]
    try simp only [ewa]
    try simp only [ekn]
    try simp only [ehr]
    try simp only [esn]
    try simp only [en]
    try simp only [ewi]
    try simp only [ecn]
    try simp only [ez]
    conv => whnf
    refine ⟨(by first | assumption | rfl), ?_⟩
    try simp (disch := omega) only [Int.cast_ofNat_Int, up_s, up_a, up_i, mp_a, mp_ge]
    try simp only [e2]
    try simp only [a6]
    try simp only [a10]
    try simp only [a11]
    try simp only [s5]
    try simp only [ew]
    try simp only [eh]
    try simp only [ef]
    try simp only [ewa]
    try simp only [ekn]
    try simp only [ehr]
    try simp only [esn]
    try simp only [en]
    try simp only [ewi]
    try simp only [ecn]
    try simp only [ez]
    conv => whnf
    refine ⟨fun q9 => by first | (simp at q9; done) | omega, ?_⟩
    have h9 := h _ fr.rfl gg
    rw [show aCnt P A W C z 7 = A.n from rfl] at h9
    exact h9
  conv => whnf
  refine ⟨fun g => ?_, ?_⟩
  · skip
    have g9 : q = 8 := (by omega)
    subst g9
    conv => whnf
    refine ⟨(by first | assumption | rfl), ?_⟩
    try simp (disch := omega) only [Int.cast_ofNat_Int, up_s, up_a, up_i, mp_a, mp_ge]
    try simp only [e2]
    try simp only [a6]
    try simp only [a10]
    try simp only [a11]
    try simp only [s5]
    try simp only [ew]
    try simp only [eh]
    try simp only [ef]
    try simp only [ewa]
    try simp only [ekn]
    try simp only [ehr]
    try simp only [esn]
    try simp only [en]
    try simp only [ewi]
    try simp only [ecn]
    try simp only [ez]
    conv => whnf
    refine ⟨(by first | assumption | rfl), ?_⟩
    try simp (disch := omega) only [Int.cast_ofNat_Int, up_s, up_a, up_i, mp_a, mp_ge]
    try simp only [e2]
    try simp only [a6]
    try simp only [a10]
    try simp only [a11]
    try simp only [s5]
    try simp only [ew]
    try simp only [eh]
    try simp only [ef]
    try simp only [ewa]
    try simp only [ekn]
    try simp only [ehr]
    try simp only [esn]
    try simp only [en]
    try simp only [ewi]
    try simp only [ecn]
    try simp only [ez]
    conv => whnf
    refine ⟨Nat.le_of_ble_eq_true rfl, Nat.le_of_ble_eq_true rfl, (by first | assumption | rfl), ?_⟩
    refine c_Mlasting gg.pt hs (by rw [en]; exact wm.n) ?_
    rw [en, fCnt_cg (b' := fun i => decide (0 < A.dp i)) (fun i y0 y1 => by rw [gg.cs.dp i y0 (by omega)])]
    conv => whnf
    refine ⟨fun q9 => by first | (simp at q9; done) | omega, ?_⟩
    have h9 := h _ fr.rfl gg
    rw [show aCnt P A W C z 8 = (fCnt (fun i => decide (0 < A.dp i)) A.n.toNat) from rfl] at h9
    exact h9
  conv => whnf
  refine ⟨fun g => ?_, ?_⟩
  · skip
    have g9 : q = 9 := (by omega)
    subst g9
    conv => whnf
    refine ⟨(by first | assumption | rfl), ?_⟩
    try simp (disch := omega) only [Int.cast_ofNat_Int, up_s, up_a, up_i, mp_a, mp_ge]
    try simp only [e2]
    try simp only [a6]
    try simp only [a10]
    try simp only [a11]
    try simp only [s5]
    try simp only [ew]
    try simp only [eh]
    try simp only [ef]
    try simp only [ewa]
    try simp only [ekn]
    try simp only [ehr]
    try simp only [esn]
    try simp only [en]
    try simp only [ewi]
    try simp only [ecn]
    try simp only [ez]
    conv => whnf
    refine ⟨Nat.le_of_ble_eq_true rfl, Nat.le_of_ble_eq_true rfl, (by first | assumption | rfl), ?_⟩
    refine a_Sreadall hs hp wp wm gg ?_
    intro σ2 hf2 hr2 g2
    conv => whnf
    refine ⟨fun q9 => by first | (simp at q9; done) | omega, ?_⟩
    have h9 := h _ hf2 g2
    rw [show aCnt P A W C z 9 = aRm A from rfl] at h9
    exact h9
  conv => whnf
  refine ⟨fun g => ?_, ?_⟩
  · skip
    have g9 : q = 10 := (by omega)
    subst g9
    conv => whnf
    refine ⟨(by first | assumption | rfl), ?_⟩
    try simp (disch := omega) only [Int.cast_ofNat_Int, up_s, up_a, up_i, mp_a, mp_ge]
    try simp only [e2]
    try simp only [a6]
    try simp only [a10]
    try simp only [a11]
    try simp only [s5]
    try simp only [ew]
    try simp only [eh]
    try simp only [ef]
    try simp only [ewa]
    try simp only [ekn]
    try simp only [ehr]
    try simp only [esn]
    try simp only [en]
    try simp only [ewi]
    try simp only [ecn]
    try simp only [ez]
    conv => whnf
    refine ⟨(by first | assumption | rfl), ?_⟩
    try simp (disch := omega) only [Int.cast_ofNat_Int, up_s, up_a, up_i, mp_a, mp_ge]
    try simp only [e2]
    try simp only [a6]
    try simp only [a10]
    try simp only [a11]
    try simp only [s5]
    try simp only [ew]
    try simp only [eh]
    try simp only [ef]
    try simp only [ewa]
    try simp only [ekn]
    try simp only [ehr]
    try simp only [esn]
    try simp only [en]
    try simp only [ewi]
    try simp only [ecn]
    try simp only [ez]
    conv => whnf
    refine ⟨fun q9 => by first | (simp at q9; done) | omega, ?_⟩
    have h9 := h _ fr.rfl gg
    rw [show aCnt P A W C z 10 = W.wi from rfl] at h9
    exact h9
  conv => whnf
  refine ⟨fun g => ?_, ?_⟩
  · skip
    have g9 : q = 11 := (by omega)
    subst g9
    conv => whnf
    refine ⟨(by first | assumption | rfl), ?_⟩
    try simp (disch := omega) only [Int.cast_ofNat_Int, up_s, up_a, up_i, mp_a, mp_ge]
    try simp only [e2]
    try simp only [a6]
    try simp only [a10]
    try simp only [a11]
    try simp only [s5]
    try simp only [ew]
    try simp only [eh]
    try simp only [ef]
    try simp only [ewa]
    try simp only [ekn]
    try simp only [ehr]
    try simp only [esn]
    try simp only [en]
    try simp only [ewi]
    try simp only [ecn]
    try simp only [ez]
    conv => whnf
    refine ⟨(by first | assumption | rfl), ?_⟩
    try simp (disch := omega) only [Int.cast_ofNat_Int, up_s, up_a, up_i, mp_a, mp_ge]
    try simp only [e2]
    try simp only [a6]
    try simp only [a10]
    try simp only [a11]
    try simp only [s5]
    try simp only [ew]
    try simp only [eh]
    try simp only [ef]
    try simp only [ewa]
    try simp only [ekn]
    try simp only [ehr]
    try simp only [esn]
    try simp only [en]
    try simp only [ewi]
    try simp only [ecn]
    try simp only [ez]
    conv => whnf
    refine ⟨fun q9 => by first | (simp at q9; done) | omega, ?_⟩
    have h9 := h _ fr.rfl gg
    rw [show aCnt P A W C z 11 = C.n from rfl] at h9
    exact h9
  conv => whnf
  refine ⟨fun g => ?_, ?_⟩
  · skip
    have g9 : q = 12 := (by omega)
    subst g9
    conv => whnf
    refine ⟨(by first | assumption | rfl), ?_⟩
    try simp (disch := omega) only [Int.cast_ofNat_Int, up_s, up_a, up_i, mp_a, mp_ge]
    try simp only [e2]
    try simp only [a6]
    try simp only [a10]
    try simp only [a11]
    try simp only [s5]
    try simp only [ew]
    try simp only [eh]
    try simp only [ef]
    try simp only [ewa]
    try simp only [ekn]
    try simp only [ehr]
    try simp only [esn]
    try simp only [en]
    try simp only [ewi]
    try simp only [ecn]
    try simp only [ez]
    conv => whnf
    refine ⟨Nat.le_of_ble_eq_true rfl, Nat.le_of_ble_eq_true rfl, (by first | assumption | rfl), ?_⟩
    refine c_Cknown hC ?_
    conv => whnf
    refine ⟨fun q9 => by first | (simp at q9; done) | omega, ?_⟩
    have h9 := h _ fr.rfl gg
    rw [show aCnt P A W C z 12 = (fKnw C) from rfl] at h9
    exact h9
  conv => whnf
  refine ⟨fun g => ?_, ?_⟩
  · skip
    have g9 : q = 13 := (by omega)
    subst g9
    conv => whnf
    refine ⟨(by first | assumption | rfl), ?_⟩
    try simp (disch := omega) only [Int.cast_ofNat_Int, up_s, up_a, up_i, mp_a, mp_ge]
    try simp only [e2]
    try simp only [a6]
    try simp only [a10]
    try simp only [a11]
    try simp only [s5]
    try simp only [ew]
    try simp only [eh]
    try simp only [ef]
    try simp only [ewa]
    try simp only [ekn]
    try simp only [ehr]
    try simp only [esn]
    try simp only [en]
    try simp only [ewi]
    try simp only [ecn]
    try simp only [ez]
    conv => whnf
    refine ⟨(by first | assumption | rfl), ?_⟩
    try simp (disch := omega) only [Int.cast_ofNat_Int, up_s, up_a, up_i, mp_a, mp_ge]
    try simp only [e2]
    try simp only [a6]
    try simp only [a10]
    try simp only [a11]
    try simp only [s5]
    try simp only [ew]
    try simp only [eh]
    try simp only [ef]
    try simp only [ewa]
    try simp only [ekn]
    try simp only [ehr]
    try simp only [esn]
    try simp only [en]
    try simp only [ewi]
    try simp only [ecn]
    try simp only [ez]
    conv => whnf
    refine ⟨fun q9 => by first | (simp at q9; done) | omega, ?_⟩
    have h9 := h _ fr.rfl gg
    rw [show aCnt P A W C z 13 = z from rfl] at h9
    exact h9
  exact trivial
set_option maxRecDepth 20000 in
theorem r_count (e0 : σ0 = sx_up σ 124 2 0) (wp : wP P) (wm : wM P A c) (gg : GR 0 P A σ0) (hW : rW P σ0 W) (wC9 : wC P C) (hC : rC σ0 C) {z q : Int} (ez : σ0 124 83 = z) (h : Q (some (.inl (aCnt P A W C z q))) shM σ0) : sx_Run X 307 [.inr (.inr 124), .inl q] shM σ Q := by
  have r65 := pt_124_65 gg.pt
  have r66 := pt_124_66 gg.pt
  have r67 := pt_124_67 gg.pt
  have ew := gg.rp.w
  have eh := gg.rp.h
  have ef := gg.rp.fa
  have ewa := gg.rp.wa
  have ekn := gg.rp.kn
  have ehr := gg.rs.hr
  have esn := gg.rs.sn
  have en := gg.rs.n
  have ewi := hW.wi
  have ecn := hC.n
  refine sx_rule0 (own := 12) (cd := kX12_count) (nL := 2) (by decide +kernel) (by decide +kernel) kX12_count_ok (by decide +kernel) (Nat.le_of_ble_eq_true rfl) 40 ?_
  conv => whnf
  refine ⟨(by first | assumption | rfl), ?_⟩
  try simp (disch := omega) only [Int.cast_ofNat_Int, up_s, up_a, up_i, mp_a, mp_ge]
  try simp only [r65]
  try simp only [r66]
  try simp only [r67]
  try simp only [ew]
  try simp only [eh]
  try simp only [ef]
  try simp only [ewa]
  try simp only [ekn]
  try simp only [ehr]
  try simp only [esn]
  try simp only [en]
  try simp only [ewi]
  try simp only [ecn]
  try simp only [ez]
  rw [← e0]
  conv => whnf
  refine ⟨fun g => ?_, ?_⟩
  · skip
    conv => whnf
    refine ⟨fun q9 => by first | (simp at q9; done) | omega, ?_⟩
    rw [show aCnt P A W C z q = -1 from by unfold aCnt; rw [if_neg (by omega), if_neg (by omega), if_neg (by omega), if_neg (by omega), if_neg (by omega), if_neg (by omega), if_neg (by omega), if_neg (by omega), if_neg (by omega), if_neg (by omega), if_neg (by omega), if_neg (by omega), if_neg (by omega), if_neg (by omega)]] at h
    exact h
  conv => whnf
  refine ⟨fun g => ?_, ?_⟩
  · skip
    have g9 : q = 0 := (by omega)
    subst g9
    conv => whnf
    refine ⟨(by first | assumption | rfl), ?_⟩
    try simp (disch := omega) only [Int.cast_ofNat_Int, up_s, up_a, up_i, mp_a, mp_ge]
    try simp only [r65]
    try simp only [r66]
    try simp only [r67]
    try simp only [ew]
    try simp only [eh]
    try simp only [ef]
    try simp only [ewa]
    try simp only [ekn]
    try simp only [ehr]
    try simp only [esn]
    try simp only [en]
    try simp only [ewi]
    try simp only [ecn]
    try simp only [ez]
    conv => whnf
    refine ⟨fun q9 => by first | (simp at q9; done) | omega, ?_⟩
    rw [show aCnt P A W C z 0 = P.w from rfl] at h
    exact h
  conv => whnf
  refine ⟨fun g => ?_, ?_⟩
  · skip
    have g9 : q = 1 := (by omega)
    subst g9
    conv => whnf
    refine ⟨(by first | assumption | rfl), ?_⟩
    try simp (disch := omega) only [Int.cast_ofNat_Int, up_s, up_a, up_i, mp_a, mp_ge]
    try simp only [r65]
    try simp only [r66]
    try simp only [r67]
    try simp only [ew]
    try simp only [eh]
    try simp only [ef]
    try simp only [ewa]
    try simp only [ekn]
    try simp only [ehr]
    try simp only [esn]
    try simp only [en]
    try simp only [ewi]
    try simp only [ecn]
    try simp only [ez]
    conv => whnf
    refine ⟨fun q9 => by first | (simp at q9; done) | omega, ?_⟩
    rw [show aCnt P A W C z 1 = P.h from rfl] at h
    exact h
  conv => whnf
  refine ⟨fun g => ?_, ?_⟩
  · skip
    have g9 : q = 2 := (by omega)
    subst g9
    conv => whnf
    refine ⟨(by first | assumption | rfl), ?_⟩
    try simp (disch := omega) only [Int.cast_ofNat_Int, up_s, up_a, up_i, mp_a, mp_ge]
    try simp only [r65]
    try simp only [r66]
    try simp only [r67]
    try simp only [ew]
    try simp only [eh]
    try simp only [ef]
    try simp only [ewa]
    try simp only [ekn]
    try simp only [ehr]
    try simp only [esn]
    try simp only [en]
    try simp only [ewi]
    try simp only [ecn]
    try simp only [ez]
    conv => whnf
    refine ⟨fun q9 => by first | (simp at q9; done) | omega, ?_⟩
    rw [show aCnt P A W C z 2 = P.fa from rfl] at h
    exact h
  conv => whnf
  refine ⟨fun g => ?_, ?_⟩
  · skip
    have g9 : q = 3 := (by omega)
    subst g9
    conv => whnf
    refine ⟨(by first | assumption | rfl), ?_⟩
    try simp (disch := omega) only [Int.cast_ofNat_Int, up_s, up_a, up_i, mp_a, mp_ge]
    try simp only [r65]
    try simp only [r66]
    try simp only [r67]
    try simp only [ew]
    try simp only [eh]
    try simp only [ef]
    try simp only [ewa]
    try simp only [ekn]
    try simp only [ehr]
    try simp only [esn]
    try simp only [en]
    try simp only [ewi]
    try simp only [ecn]
    try simp only [ez]
    conv => whnf
    refine ⟨fun q9 => by first | (simp at q9; done) | omega, ?_⟩
    rw [show aCnt P A W C z 3 = P.wa from rfl] at h
    exact h
  conv => whnf
  refine ⟨fun g => ?_, ?_⟩
  · skip
    have g9 : q = 4 := (by omega)
    subst g9
    conv => whnf
    refine ⟨(by first | assumption | rfl), ?_⟩
    try simp (disch := omega) only [Int.cast_ofNat_Int, up_s, up_a, up_i, mp_a, mp_ge]
    try simp only [r65]
    try simp only [r66]
    try simp only [r67]
    try simp only [ew]
    try simp only [eh]
    try simp only [ef]
    try simp only [ewa]
    try simp only [ekn]
    try simp only [ehr]
    try simp only [esn]
    try simp only [en]
    try simp only [ewi]
    try simp only [ecn]
    try simp only [ez]
    conv => whnf
    refine ⟨fun q9 => by first | (simp at q9; done) | omega, ?_⟩
    rw [show aCnt P A W C z 4 = P.kn from rfl] at h
    exact h
  conv => whnf
  refine ⟨fun g => ?_, ?_⟩
  · skip
    have g9 : q = 5 := (by omega)
    subst g9
    conv => whnf
    refine ⟨(by first | assumption | rfl), ?_⟩
    try simp (disch := omega) only [Int.cast_ofNat_Int, up_s, up_a, up_i, mp_a, mp_ge]
    try simp only [r65]
    try simp only [r66]
    try simp only [r67]
    try simp only [ew]
    try simp only [eh]
    try simp only [ef]
    try simp only [ewa]
    try simp only [ekn]
    try simp only [ehr]
    try simp only [esn]
    try simp only [en]
    try simp only [ewi]
    try simp only [ecn]
    try simp only [ez]
    conv => whnf
    refine ⟨sx_ixI (by first | assumption | rfl) (by omega) (by omega), ?_⟩
    try simp (disch := omega) only [Int.cast_ofNat_Int, up_s, up_a, up_i, mp_a, mp_ge]
    try simp only [r65]
    try simp only [r66]
    try simp only [r67]
    try simp only [ew]
    try simp only [eh]
    try simp only [ef]
    try simp only [ewa]
    try simp only [ekn]
    try simp only [ehr]
    try simp only [esn]
    try simp only [en]
    try simp only [ewi]
    try simp only [ecn]
    try simp only [ez]
    conv => whnf
    refine ⟨fun q9 => by first | (simp at q9; done) | omega, ?_⟩
    rw [show aCnt P A W C z 5 = A.hr from rfl] at h
    exact h
  conv => whnf
  refine ⟨fun g => ?_, ?_⟩
  · skip
    have g9 : q = 6 := (by omega)
    subst g9
    conv => whnf
    refine ⟨(by first | assumption | rfl), ?_⟩
    try simp (disch := omega) only [Int.cast_ofNat_Int, up_s, up_a, up_i, mp_a, mp_ge]
    try simp only [r65]
    try simp only [r66]
    try simp only [r67]
    try simp only [ew]
    try simp only [eh]
    try simp only [ef]
    try simp only [ewa]
    try simp only [ekn]
    try simp only [ehr]
    try simp only [esn]
    try simp only [en]
    try simp only [ewi]
    try simp only [ecn]
    try simp only [ez]
    conv => whnf
    refine ⟨sx_ixI (by first | assumption | rfl) (by omega) (by omega), ?_⟩
    try simp (disch := omega) only [Int.cast_ofNat_Int, up_s, up_a, up_i, mp_a, mp_ge]
    try simp only [r65]
    try simp only [r66]
    try simp only [r67]
    try simp only [ew]
    try simp only [eh]
    try simp only [ef]
    try simp only [ewa]
    try simp only [ekn]
    try simp only [ehr]
    try simp only [esn]
    try simp only [en]
    try simp only [ewi]
    try simp only [ecn]
    try simp only [ez]
    conv => whnf
    refine ⟨fun q9 => by first | (simp at q9; done) | omega, ?_⟩
    rw [show aCnt P A W C z 6 = A.sn from rfl] at h
    exact h
  conv => whnf
  refine ⟨fun g => ?_, ?_⟩
  · skip
    have g9 : q = 7 := (by omega)
    subst g9
    conv => whnf
    refine ⟨(by first | assumption | rfl), ?_⟩
    try simp (disch := omega) only [Int.cast_ofNat_Int, up_s, up_a, up_i, mp_a, mp_ge]
    try simp only [r65]
    try simp only [r66]
    try simp only [r67]
    try simp only [ew]
    try simp only [eh]
    try simp only [ef]
    try simp only [ewa]
    try simp only [ekn]
    try simp only [ehr]
    try simp only [esn]
    try simp only [en]
    try simp only [ewi]
    try simp only [ecn]
    try simp only [ez]
    conv => whnf
    refine ⟨sx_ixI (by first | assumption | rfl) (by omega) (by omega), ?_⟩
    try simp (disch := omega) only [Int.cast_ofNat_Int, up_s, up_a, up_i, mp_a, mp_ge]
    try simp only [r65]
    try simp only [r66]
    try simp only [r67]
    try simp only [ew]
    try simp only [eh]
    try simp only [ef]
    try simp only [ewa]
    try simp only [ekn]
    try simp only [ehr]
    try simp only [esn]
    try simp only [en]
    try simp only [ewi]
    try simp only [ecn]
    try simp only [ez]
    conv => whnf
    refine ⟨fun q9 => by first | (simp at q9; done) | omega, ?_⟩
    rw [show aCnt P A W C z 7 = A.n from rfl] at h
    exact h
  conv => whnf
  refine ⟨fun g => ?_, ?_⟩
  · skip
    have g9 : q = 8 := (by omega)
    subst g9
    conv => whnf
    refine ⟨Nat.le_of_ble_eq_true rfl, Nat.le_of_ble_eq_true rfl, (by first | assumption | rfl), ?_⟩
    refine c_Rthere gg.pt (by rw [en]; exact wm.n) ?_
    rw [en, fCnt_cg (b' := fun i => decide (0 < A.dp i)) (fun i y0 y1 => by have h8 := gg.rs.dp i y0 (by omega); rw [z90] at h8; rw [h8])]
    conv => whnf
    refine ⟨fun q9 => by first | (simp at q9; done) | omega, ?_⟩
    rw [show aCnt P A W C z 8 = (fCnt (fun i => decide (0 < A.dp i)) A.n.toNat) from rfl] at h
    exact h
  conv => whnf
  refine ⟨fun g => ?_, ?_⟩
  · skip
    have g9 : q = 9 := (by omega)
    subst g9
    conv => whnf
    refine ⟨Nat.le_of_ble_eq_true rfl, Nat.le_of_ble_eq_true rfl, (by first | assumption | rfl), ?_⟩
    refine a_Rmany (Or.inl rfl) wp wm gg ?_
    conv => whnf
    refine ⟨fun q9 => by first | (simp at q9; done) | omega, ?_⟩
    rw [show aCnt P A W C z 9 = (aRm A) from rfl] at h
    exact h
  conv => whnf
  refine ⟨fun g => ?_, ?_⟩
  · skip
    have g9 : q = 10 := (by omega)
    subst g9
    conv => whnf
    refine ⟨(by first | assumption | rfl), ?_⟩
    try simp (disch := omega) only [Int.cast_ofNat_Int, up_s, up_a, up_i, mp_a, mp_ge]
    try simp only [r65]
    try simp only [r66]
    try simp only [r67]
    try simp only [ew]
    try simp only [eh]
    try simp only [ef]
    try simp only [ewa]
    try simp only [ekn]
    try simp only [ehr]
    try simp only [esn]
    try simp only [en]
    try simp only [ewi]
    try simp only [ecn]
    try simp only [ez]
    conv => whnf
    refine ⟨fun q9 => by first | (simp at q9; done) | omega, ?_⟩
    rw [show aCnt P A W C z 10 = W.wi from rfl] at h
    exact h
  conv => whnf
  refine ⟨fun g => ?_, ?_⟩
  · skip
    have g9 : q = 11 := (by omega)
    subst g9
    conv => whnf
    refine ⟨(by first | assumption | rfl), ?_⟩
    try simp (disch := omega) only [Int.cast_ofNat_Int, up_s, up_a, up_i, mp_a, mp_ge]
    try simp only [r65]
    try simp only [r66]
    try simp only [r67]
    try simp only [ew]
    try simp only [eh]
    try simp only [ef]
    try simp only [ewa]
    try simp only [ekn]
    try simp only [ehr]
    try simp only [esn]
    try simp only [en]
    try simp only [ewi]
    try simp only [ecn]
    try simp only [ez]
    conv => whnf
    refine ⟨fun q9 => by first | (simp at q9; done) | omega, ?_⟩
    rw [show aCnt P A W C z 11 = C.n from rfl] at h
    exact h
  conv => whnf
  refine ⟨fun g => ?_, ?_⟩
  · skip
    have g9 : q = 12 := (by omega)
    subst g9
    conv => whnf
    refine ⟨Nat.le_of_ble_eq_true rfl, Nat.le_of_ble_eq_true rfl, (by first | assumption | rfl), ?_⟩
    refine c_Rknown wC9 hC ?_
    conv => whnf
    refine ⟨fun q9 => by first | (simp at q9; done) | omega, ?_⟩
    rw [show aCnt P A W C z 12 = (fKnw C) from rfl] at h
    exact h
  conv => whnf
  refine ⟨fun g => ?_, ?_⟩
  · skip
    have g9 : q = 13 := (by omega)
    subst g9
    conv => whnf
    refine ⟨(by first | assumption | rfl), ?_⟩
    try simp (disch := omega) only [Int.cast_ofNat_Int, up_s, up_a, up_i, mp_a, mp_ge]
    try simp only [r65]
    try simp only [r66]
    try simp only [r67]
    try simp only [ew]
    try simp only [eh]
    try simp only [ef]
    try simp only [ewa]
    try simp only [ekn]
    try simp only [ehr]
    try simp only [esn]
    try simp only [en]
    try simp only [ewi]
    try simp only [ecn]
    try simp only [ez]
    conv => whnf
    refine ⟨fun q9 => by first | (simp at q9; done) | omega, ?_⟩
    rw [show aCnt P A W C z 13 = z from rfl] at h
    exact h
  exact trivial
def aNam (P : aP) (q x : Int) : Int := if q = 0 then fFind P.fn x P.fa.toNat else if q = 1 then fFind P.wn x P.wa.toNat else -1
set_option maxRecDepth 20000 in
theorem c_named (hp : isP p) (e2 : σ 0 2 = p) (wp : wP P) (hT : PT σ) (gp : cP p σ P) {q x : Int} (h : Q (some (.inl (aNam P q x))) shM σ) : sx_Run X 127 [.inr (.inr 0), .inl q, .inl x] shM σ Q := by
  have q0 := lkP0 hp
  have vf := wp.fa
  have vw := wp.wa
  refine sx_rule0 (own := 11) (cd := kX11_named) (nL := 3) (by decide +kernel) (by decide +kernel) kX11_named_ok (by decide +kernel) (Nat.le_of_ble_eq_true rfl) 40 ?_
  conv => whnf
  refine ⟨fun g => ?_, fun g => ?_⟩
  · skip
    conv => whnf
    refine ⟨(by first | assumption | rfl), ?_⟩
    try simp (disch := omega) only [Int.cast_ofNat_Int, up_s, up_a, up_i, mp_a, mp_ge]
    try simp only [e2]
    conv => whnf
    refine ⟨Nat.le_of_ble_eq_true rfl, Nat.le_of_ble_eq_true rfl, (by first | assumption | rfl), ?_⟩
    refine c_Pfarmby hT hp (by rw [gp.fa]; exact wp.fa) ?_
    rw [gp.fa, fFind_cg (row' := P.fn) (fun i y0 y1 => gp.fn i y0 (by omega))]
    conv => whnf
    refine ⟨fun q9 => by first | (simp at q9; done) | omega, ?_⟩
    first | (rw [show aNam P q x = fFind P.fn x P.fa.toNat from if_pos (by omega)] at h; exact h) | (rw [show aNam P q x = fFind P.wn x P.wa.toNat from (if_neg (by omega)).trans (if_pos (by omega))] at h; exact h) | (rw [show aNam P q x = -1 from (if_neg (by omega)).trans (if_neg (by omega))] at h; exact h)
  conv => whnf
  refine ⟨fun g => ?_, fun g => ?_⟩
  · skip
    conv => whnf
    refine ⟨(by first | assumption | rfl), ?_⟩
    try simp (disch := omega) only [Int.cast_ofNat_Int, up_s, up_a, up_i, mp_a, mp_ge]
    try simp only [e2]
    conv => whnf
    refine ⟨Nat.le_of_ble_eq_true rfl, Nat.le_of_ble_eq_true rfl, (by first | assumption | rfl), ?_⟩
    refine c_Pwalkerby hT hp (by rw [gp.wa]; exact wp.wa) ?_
    rw [gp.wa, fFind_cg (row' := P.wn) (fun i y0 y1 => gp.wn i y0 (by omega))]
    conv => whnf
    refine ⟨fun q9 => by first | (simp at q9; done) | omega, ?_⟩
    first | (rw [show aNam P q x = fFind P.fn x P.fa.toNat from if_pos (by omega)] at h; exact h) | (rw [show aNam P q x = fFind P.wn x P.wa.toNat from (if_neg (by omega)).trans (if_pos (by omega))] at h; exact h) | (rw [show aNam P q x = -1 from (if_neg (by omega)).trans (if_neg (by omega))] at h; exact h)
  conv => whnf
  refine ⟨fun q9 => by first | (simp at q9; done) | omega, ?_⟩
  first | (rw [show aNam P q x = fFind P.fn x P.fa.toNat from if_pos (by omega)] at h; exact h) | (rw [show aNam P q x = fFind P.wn x P.wa.toNat from (if_neg (by omega)).trans (if_pos (by omega))] at h; exact h) | (rw [show aNam P q x = -1 from (if_neg (by omega)).trans (if_neg (by omega))] at h; exact h)
set_option maxRecDepth 20000 in
theorem r_named (e0 : σ0 = sx_up σ 124 2 0) (wp : wP P) (hT : PT σ0) (gp : rP σ0 P) {q x : Int} (h : Q (some (.inl (aNam P q x))) shM σ0) : sx_Run X 203 [.inr (.inr 124), .inl q, .inl x] shM σ Q := by
  have r32 := pt_124_32 hT
  have r33 := pt_124_33 hT
  have vf := wp.fa
  have vw := wp.wa
  have ef := gp.fa
  have ew := gp.wa
  refine sx_rule0 (own := 12) (cd := kX12_named) (nL := 3) (by decide +kernel) (by decide +kernel) kX12_named_ok (by decide +kernel) (Nat.le_of_ble_eq_true rfl) 40 ?_
  conv => whnf
  refine ⟨(by first | assumption | rfl), ?_⟩
  try simp (disch := omega) only [Int.cast_ofNat_Int, up_s, up_a, up_i, mp_a, mp_ge]
  try simp only [r32]
  try simp only [r33]
  try simp only [ef]
  try simp only [ew]
  rw [← e0]
  conv => whnf
  refine ⟨fun g => ?_, fun g => ?_⟩
  · simp only [sx_cc, Classical.not_not] at g
    conv => whnf
    refine ⟨fun g => ?_, fun g => ?_⟩
    · simp only [sx_cc, Classical.not_not] at g
      conv => whnf
      refine ⟨fun q9 => by first | (simp at q9; done) | omega, ?_⟩
      first | (rw [show aNam P q x = fFind P.fn x P.fa.toNat from if_pos (by omega)] at h; exact h) | (rw [show aNam P q x = fFind P.wn x P.wa.toNat from (if_neg (by omega)).trans (if_pos (by omega))] at h; exact h) | (rw [show aNam P q x = -1 from (if_neg (by omega)).trans (if_neg (by omega))] at h; exact h)
    · simp only [sx_cc, Classical.not_not] at g
      conv => whnf
      refine ⟨(by first | assumption | rfl), ?_⟩
      try simp (disch := omega) only [Int.cast_ofNat_Int, up_s, up_a, up_i, mp_a, mp_ge]
      try simp only [r32]
      try simp only [r33]
      try simp only [ef]
      try simp only [ew]
      conv => whnf
      refine ⟨(by first | assumption | rfl), ?_⟩
      try simp (disch := omega) only [Int.cast_ofNat_Int, up_s, up_a, up_i, mp_a, mp_ge]
      try simp only [r32]
      try simp only [r33]
      try simp only [ef]
      try simp only [ew]
      conv => whnf
      refine ⟨Nat.le_of_ble_eq_true rfl, Nat.le_of_ble_eq_true rfl, ?_⟩
      refine c_Rfind (m := 10) rfl (by decide) vw.1 (by omega) (by decide) ?_
      rw [fFind_cg (row' := P.wn) (fun i y0 y1 => by rw [show 0 + i = i by omega]; exact gp.wn i y0 (by omega))]
      conv => whnf
      refine ⟨fun q9 => by first | (simp at q9; done) | omega, ?_⟩
      first | (rw [show aNam P q x = fFind P.fn x P.fa.toNat from if_pos (by omega)] at h; exact h) | (rw [show aNam P q x = fFind P.wn x P.wa.toNat from (if_neg (by omega)).trans (if_pos (by omega))] at h; exact h) | (rw [show aNam P q x = -1 from (if_neg (by omega)).trans (if_neg (by omega))] at h; exact h)
  · simp only [sx_cc, Classical.not_not] at g
    conv => whnf
    refine ⟨(by first | assumption | rfl), ?_⟩
    try simp (disch := omega) only [Int.cast_ofNat_Int, up_s, up_a, up_i, mp_a, mp_ge]
    try simp only [r32]
    try simp only [r33]
    try simp only [ef]
    try simp only [ew]
    conv => whnf
    refine ⟨(by first | assumption | rfl), ?_⟩
    try simp (disch := omega) only [Int.cast_ofNat_Int, up_s, up_a, up_i, mp_a, mp_ge]
    try simp only [r32]
    try simp only [r33]
    try simp only [ef]
    try simp only [ew]
    conv => whnf
    refine ⟨Nat.le_of_ble_eq_true rfl, Nat.le_of_ble_eq_true rfl, ?_⟩
    refine c_Rfind (m := 6) rfl (by decide) vf.1 (by omega) (by decide) ?_
    rw [fFind_cg (row' := P.fn) (fun i y0 y1 => by rw [show 0 + i = i by omega]; exact gp.fn i y0 (by omega))]
    conv => whnf
    refine ⟨fun q9 => by first | (simp at q9; done) | omega, ?_⟩
    first | (rw [show aNam P q x = fFind P.fn x P.fa.toNat from if_pos (by omega)] at h; exact h) | (rw [show aNam P q x = fFind P.wn x P.wa.toNat from (if_neg (by omega)).trans (if_pos (by omega))] at h; exact h) | (rw [show aNam P q x = -1 from (if_neg (by omega)).trans (if_neg (by omega))] at h; exact h)
def aFlt (f g q : Int) : Int := if q = 0 then f else if q = 1 then g else -1
set_option maxRecDepth 20000 in
theorem c_fault (hT : PT σ) {f1 f2 q : Int} (x1 : σ 32 0 = f1) (x2 : σ 32 1 = f2) (h : Q (some (.inl (aFlt f1 f2 q))) shM σ) : sx_Run X 126 [.inr (.inr 0), .inl q] shM σ Q := by
  have a4 := pt_0_4 hT
  refine sx_rule0 (own := 11) (cd := kX11_fault) (nL := 2) (by decide +kernel) (by decide +kernel) kX11_fault_ok (by decide +kernel) (Nat.le_of_ble_eq_true rfl) 40 ?_
  conv => whnf
  refine ⟨fun g => ?_, fun g => ?_⟩
  · skip
    conv => whnf
    refine ⟨(by first | assumption | rfl), ?_⟩
    try simp (disch := omega) only [Int.cast_ofNat_Int, up_s, up_a, up_i, mp_a, mp_ge]
    try simp only [a4]
    try simp only [x1]
    try simp only [x2]
    conv => whnf
    refine ⟨(by first | assumption | rfl), ?_⟩
    try simp (disch := omega) only [Int.cast_ofNat_Int, up_s, up_a, up_i, mp_a, mp_ge]
    try simp only [a4]
    try simp only [x1]
    try simp only [x2]
    conv => whnf
    refine ⟨fun q9 => by first | (simp at q9; done) | omega, ?_⟩
    first | (rw [show aFlt f1 f2 q = f1 from if_pos (by omega)] at h; exact h) | (rw [show aFlt f1 f2 q = f2 from (if_neg (by omega)).trans (if_pos (by omega))] at h; exact h) | (rw [show aFlt f1 f2 q = -1 from (if_neg (by omega)).trans (if_neg (by omega))] at h; exact h)
  conv => whnf
  refine ⟨fun g => ?_, fun g => ?_⟩
  · skip
    conv => whnf
    refine ⟨(by first | assumption | rfl), ?_⟩
    try simp (disch := omega) only [Int.cast_ofNat_Int, up_s, up_a, up_i, mp_a, mp_ge]
    try simp only [a4]
    try simp only [x1]
    try simp only [x2]
    conv => whnf
    refine ⟨(by first | assumption | rfl), ?_⟩
    try simp (disch := omega) only [Int.cast_ofNat_Int, up_s, up_a, up_i, mp_a, mp_ge]
    try simp only [a4]
    try simp only [x1]
    try simp only [x2]
    conv => whnf
    refine ⟨fun q9 => by first | (simp at q9; done) | omega, ?_⟩
    first | (rw [show aFlt f1 f2 q = f1 from if_pos (by omega)] at h; exact h) | (rw [show aFlt f1 f2 q = f2 from (if_neg (by omega)).trans (if_pos (by omega))] at h; exact h) | (rw [show aFlt f1 f2 q = -1 from (if_neg (by omega)).trans (if_neg (by omega))] at h; exact h)
  conv => whnf
  refine ⟨fun q9 => by first | (simp at q9; done) | omega, ?_⟩
  first | (rw [show aFlt f1 f2 q = f1 from if_pos (by omega)] at h; exact h) | (rw [show aFlt f1 f2 q = f2 from (if_neg (by omega)).trans (if_pos (by omega))] at h; exact h) | (rw [show aFlt f1 f2 q = -1 from (if_neg (by omega)).trans (if_neg (by omega))] at h; exact h)
set_option maxRecDepth 20000 in
theorem r_fault (e0 : σ0 = sx_up σ 124 2 0) {f1 f2 q : Int} (x1 : σ0 124 4 = f1) (x2 : σ0 124 5 = f2) (h : Q (some (.inl (aFlt f1 f2 q))) shM σ0) : sx_Run X 202 [.inr (.inr 124), .inl q] shM σ Q := by
  refine sx_rule0 (own := 12) (cd := kX12_fault) (nL := 2) (by decide +kernel) (by decide +kernel) kX12_fault_ok (by decide +kernel) (Nat.le_of_ble_eq_true rfl) 40 ?_
  conv => whnf
  refine ⟨(by first | assumption | rfl), ?_⟩
  try simp (disch := omega) only [Int.cast_ofNat_Int, up_s, up_a, up_i, mp_a, mp_ge]
  try simp only [x1]
  try simp only [x2]
  rw [← e0]
  conv => whnf
  refine ⟨fun g => ?_, fun g => ?_⟩
  · simp only [sx_cc, Classical.not_not] at g
    conv => whnf
    refine ⟨fun g => ?_, fun g => ?_⟩
    · simp only [sx_cc, Classical.not_not] at g
      conv => whnf
      refine ⟨fun q9 => by first | (simp at q9; done) | omega, ?_⟩
      first | (rw [show aFlt f1 f2 q = f1 from if_pos (by omega)] at h; exact h) | (rw [show aFlt f1 f2 q = f2 from (if_neg (by omega)).trans (if_pos (by omega))] at h; exact h) | (rw [show aFlt f1 f2 q = -1 from (if_neg (by omega)).trans (if_neg (by omega))] at h; exact h)
    · simp only [sx_cc, Classical.not_not] at g
      conv => whnf
      refine ⟨(by first | assumption | rfl), ?_⟩
      try simp (disch := omega) only [Int.cast_ofNat_Int, up_s, up_a, up_i, mp_a, mp_ge]
      try simp only [x1]
      try simp only [x2]
      conv => whnf
      refine ⟨fun q9 => by first | (simp at q9; done) | omega, ?_⟩
      first | (rw [show aFlt f1 f2 q = f1 from if_pos (by omega)] at h; exact h) | (rw [show aFlt f1 f2 q = f2 from (if_neg (by omega)).trans (if_pos (by omega))] at h; exact h) | (rw [show aFlt f1 f2 q = -1 from (if_neg (by omega)).trans (if_neg (by omega))] at h; exact h)
  · simp only [sx_cc, Classical.not_not] at g
    conv => whnf
    refine ⟨(by first | assumption | rfl), ?_⟩
    try simp (disch := omega) only [Int.cast_ofNat_Int, up_s, up_a, up_i, mp_a, mp_ge]
    try simp only [x1]
    try simp only [x2]
    conv => whnf
    refine ⟨fun q9 => by first | (simp at q9; done) | omega, ?_⟩
    first | (rw [show aFlt f1 f2 q = f1 from if_pos (by omega)] at h; exact h) | (rw [show aFlt f1 f2 q = f2 from (if_neg (by omega)).trans (if_pos (by omega))] at h; exact h) | (rw [show aFlt f1 f2 q = -1 from (if_neg (by omega)).trans (if_neg (by omega))] at h; exact h)
end SXM11
