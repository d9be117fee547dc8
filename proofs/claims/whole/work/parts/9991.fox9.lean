/-! FOX, class side (by wip/whole) -/
section SXV1
variable {X : sx_X} {Q : sx_R} {s t p b c kk : Int} {σ σ0 σ' σ1 σ2 : sx_S} {P : aP} {A B : aM} {W V : aW}
set_option maxRecDepth 20000 in
theorem c_fox9 (hp : isP p) (e2 : σ 0 2 = p) (wp : wP P) (wm : wM P A c) (g0 : GC 40 p P A σ) {z nx : Int} (ez : σ 85 0 = z) (ex : σ 85 1 = nx) (hz : 0 ≤ z ∧ z ≤ 20) (hx : 0 ≤ nx ∧ nx < 20) {e y x : Int} (h0 : ¬ (0 ≤ e ∧ e < P.w * P.h ∧ 0 ≤ y ∧ y ≤ 3 ∧ 1 ≤ x ∧ x ≤ 8) → Q (some (.inl (-1))) shM σ) (h1 : (0 ≤ e ∧ e < P.w * P.h ∧ 0 ≤ y ∧ y ≤ 3 ∧ 1 ≤ x ∧ x ≤ 8) → (fBlr P A y e x.toNat).2 = 0 → ∀ σ', fr (FFL nx) σ σ' → GC 40 p P A σ' → σ' 85 0 = σ 85 0 → σ' 85 1 = σ 85 1 → (∀ a i : Int, 86 ≤ a ∧ a ≤ 88 → σ' a i = σ a i) → (∀ j : Int, σ' (90 + nx) j = σ (90 + nx) j) → Q (some (.inl 0)) shM σ') (h2 : (0 ≤ e ∧ e < P.w * P.h ∧ 0 ≤ y ∧ y ≤ 3 ∧ 1 ≤ x ∧ x ≤ 8) → 1 ≤ (fBlr P A y e x.toNat).2 → ∀ σ', fr (FFL nx) σ σ' → GC 40 p P (A.wb (fBlr P A y e x.toNat).1) σ' → σ' 86 nx = 3 → σ' 88 nx = (fBlr P A y e x.toNat).2 → (∀ m : Int, fFx (σ' (90 + nx)) (fBlr P A y e x.toNat).2.toNat (fBlr P A y e x.toNat).1 m = A.bl m) → (∀ j : Int, 0 ≤ j → j < (fBlr P A y e x.toNat).2 → 0 ≤ σ' (90 + nx) j ∧ σ' (90 + nx) j < A.n) → σ' 85 0 = fM20 (z + 1) → σ' 85 1 = fNx nx → Q (some (.inl (fBlr P A y e x.toNat).2)) shM σ') : sx_Run X 134 [.inr (.inr 0), .inl e, .inl y, .inl x] shM σ Q := by
  have a2 := e2
  have a6 := pt_0_6 g0.pt
  have hs : isS 40 := Or.inl rfl
  have v4 := wp.wh
  have wn := wm.n
  have q0 := lkP0 hp
  have k0 := lkS0 hs
  refine sx_rule2 (own := 11) (cd := kX11_fox) (nL := 9) (by decide +kernel) (by decide +kernel) kX11_fox_ok (by decide +kernel) (Nat.le_of_ble_eq_true rfl) [57] 40 (fun n t L st _ σ' => (t = 57 ∧ ∃ u v i : Int, ∃ w8 : Option sx_V, st = [] ∧ L = [some (.inr (.inr (0))), some (.inl (e)), some (.inl (y)), some (.inl (x)), some (.inr (.inr (90 + nx))), some (.inl (v)), some (.inl (u)), some (.inl (i)), w8] ∧ (fr (FFX nx) σ σ' ∧ GC 40 p P (A.wb (fBlr P A y e i.toNat).1) σ' ∧ σ' 0 2 = p ∧ (∀ e : Int, 0 ≤ e → e < 48 → σ' (40 + 14) e = aTop A e) ∧ u = fAt P y e i.toNat ∧ v = (fBlr P A y e i.toNat).2 ∧ (∀ m : Int, fFx (σ' (90 + nx)) v.toNat (fBlr P A y e i.toNat).1 m = A.bl m) ∧ (∀ j : Int, 0 ≤ j → j < v → 0 ≤ σ' (90 + nx) j ∧ σ' (90 + nx) j < A.n) ∧ 0 ≤ i ∧ i ≤ x ∧ (0 ≤ e ∧ e < P.w * P.h ∧ 0 ≤ y ∧ y ≤ 3 ∧ 1 ≤ x ∧ x ≤ 8) ∧ (v = 0 → ∀ j : Int, σ' (90 + nx) j = σ (90 + nx) j)) ∧ n = (x - i).toNat)) ?_ ?_
  · skip
    conv => whnf
    refine ⟨(by first | assumption | rfl), ?_⟩
    try simp (disch := omega) only [Int.cast_ofNat_Int, up_s, up_a, up_i, mp_a, mp_ge]
    try simp only [ep5]
    try simp only [ep2]
    try simp only [a2]
    try simp only [a6]
    try simp only [a10]
    try simp only [s11]
    try simp only [s5]
    try simp only [m8]
    try simp only [er]
    try simp only [eb]
    try simp only [lkr]
    conv => whnf
    refine ⟨Nat.le_of_ble_eq_true rfl, Nat.le_of_ble_eq_true rfl, (by first | assumption | rfl), ?_⟩
    refine c_Phascell hp (g0.cp.pd wp) (fun y1 y2 => ?_) (fun y0 => ?_)
    · rw [g0.cp.w, g0.cp.h] at y2
      conv => whnf
      refine ⟨fun g => ?_, fun g => ?_⟩
      · exact absurd g (by simp [sx_cc])
      · skip
        conv => whnf
        refine ⟨Nat.le_of_ble_eq_true rfl, Nat.le_of_ble_eq_true rfl, ?_⟩
        refine c_way (fun y3 => ?_) (fun y0 => ?_)
        · skip
          conv => whnf
          refine ⟨fun g => ?_, fun g => ?_⟩
          · exact absurd g (by simp [sx_cc])
          · skip
            conv => whnf
            refine ⟨fun g => ?_, fun g => ?_⟩
            · simp only [sx_cc, Classical.not_not] at g
              conv => whnf
              refine ⟨fun q9 => by first | (simp at q9; done) | omega, ?_⟩
              exact h0 (by omega)
            · simp only [sx_cc, Classical.not_not] at g
              conv => whnf
              refine ⟨fun g => ?_, fun g => ?_⟩
              · simp only [sx_cc, Classical.not_not] at g
                conv => whnf
                refine ⟨(by first | assumption | rfl), ?_⟩
                try simp (disch := omega) only [Int.cast_ofNat_Int, up_s, up_a, up_i, mp_a, mp_ge]
                try simp only [ep5]
                try simp only [ep2]
                try simp only [a2]
                try simp only [a6]
                try simp only [a10]
                try simp only [s11]
                try simp only [s5]
                try simp only [m8]
                try simp only [er]
                try simp only [eb]
                try simp only [lkr]
                conv => whnf
                refine ⟨Nat.le_of_ble_eq_true rfl, Nat.le_of_ble_eq_true rfl, (by first | assumption | rfl), ?_⟩
                refine a_Sreadall hs hp wp wm g0 ?_
                intro σ1 hf1 hr1 g1
                have a10 := pt_0_10 g1.pt
                conv => whnf
                refine ⟨(by first | assumption | rfl), ?_⟩
                try simp (disch := omega) only [Int.cast_ofNat_Int, up_s, up_a, up_i, mp_a, mp_ge]
                try simp only [ep5]
                try simp only [ep2]
                try simp only [a2]
                try simp only [a6]
                try simp only [a10]
                try simp only [s11]
                try simp only [s5]
                try simp only [m8]
                try simp only [er]
                try simp only [eb]
                try simp only [lkr]
                conv => whnf
                refine ⟨Nat.le_of_ble_eq_true rfl, Nat.le_of_ble_eq_true rfl, (by first | assumption | rfl), ?_⟩
                refine c_Lrow g1.pt ((hf1 _ _ (by decide)).trans ex) hx ?_
                conv => whnf
                refine ⟨_, ⟨rfl, _, _, _, _, rfl, rfl, ?_, rfl⟩⟩
                exact ⟨hf1.cfx, g1, (hf1 _ _ (by decide)).trans e2, hr1, rfl, rfl, fun m => rfl, fun j y0 y1 => by omega, by omega, by omega, by omega, fun _ j => hf1 _ _ (by unfold FC; omega)⟩
              · simp only [sx_cc, Classical.not_not] at g
                conv => whnf
                refine ⟨fun q9 => by first | (simp at q9; done) | omega, ?_⟩
                exact h0 (by omega)
        · skip
          conv => whnf
          refine ⟨fun g => ?_, fun g => ?_⟩
          · skip
            conv => whnf
            refine ⟨fun q9 => by first | (simp at q9; done) | omega, ?_⟩
            exact h0 (by omega)
          · exact absurd g (by simp [sx_cc])
    · rw [g0.cp.w, g0.cp.h] at y0
      conv => whnf
      refine ⟨fun g => ?_, fun g => ?_⟩
      · skip
        conv => whnf
        refine ⟨fun q9 => by first | (simp at q9; done) | omega, ?_⟩
        exact h0 (by omega)
      · exact absurd g (by simp [sx_cc])
  · intro n t L st σ' hk
    obtain ⟨rfl, u, v, i, w8, rfl, rfl, hc, rfl⟩ := hk
    obtain ⟨hfi, gi, ep2, hrd, hu, hv, hfx, hrw, hi0, hi1, hq, hv0⟩ := hc
    have a6 := pt_0_6 gi.pt
    have a10 := pt_0_10 gi.pt
    have s11 := ptS_11 gi.pt hs
    have s5 := ptS_5 gi.pt hs
    have m8 := ptM_8 gi.pt hs
    have hub := fAt_bd (P := P) (y := y) (e := e) ⟨by omega, by omega⟩ i.toNat
    rw [← hu] at hub
    have hvb := fBlr_bd (P := P) (A := A) (y := y) (e := e) i.toNat
    rw [← hv] at hvb
    have htb := aTop_bd wm u
    have lkr := lk90 hx
    have k14 := lkS14 hs
    have k12 := lkS12 hs
    have k0 := lkS0 hs
    have k4 := lkS4 hs
    have q0 := lkP0 hp
    conv => whnf
    refine ⟨fun g => ?_, fun g => ?_⟩
    · simp only [sx_cc, Classical.not_not] at g
      conv => whnf
      refine ⟨fun g => ?_, fun g => ?_⟩
      · simp only [sx_cc, Classical.not_not] at g
        conv => whnf
        refine ⟨fun q9 => by first | (simp at q9; done) | omega, ?_⟩
        have et := fBlr_to (A := A) hi0 hi1 (P := P) (y := y) (e := e) (by omega)
        rw [et] at hv hfx gi
        have hz0 : v = 0 := by omega
        have ebl : (fBlr P A y e x.toNat).1 = A.bl := funext (fun m => by have h9 := hfx m; rw [hz0] at h9; exact h9)
        rw [ebl] at gi
        rw [hz0]
        exact h1 hq (by omega) _ hfi.xfl gi (hfi _ _ (by unfold FFX; omega)) (hfi _ _ (by unfold FFX; omega)) (fun a i z9 => hfi a i (by unfold FFX; omega)) (hv0 hz0)
      · simp only [sx_cc, Classical.not_not] at g
        conv => whnf
        refine ⟨(by first | assumption | rfl), ?_⟩
        try simp (disch := omega) only [Int.cast_ofNat_Int, up_s, up_a, up_i, mp_a, mp_ge]
        try simp only [ep5]
        try simp only [ep2]
        try simp only [a2]
        try simp only [a6]
        try simp only [a10]
        try simp only [s11]
        try simp only [s5]
        try simp only [m8]
        try simp only [er]
        try simp only [eb]
        try simp only [lkr]
        conv => whnf
        refine ⟨Nat.le_of_ble_eq_true rfl, Nat.le_of_ble_eq_true rfl, (by first | assumption | rfl), ?_⟩
        refine c_Lnotef (w := 0) gi.pt (z := z) (nx := nx) ((hfi _ _ (by unfold FFX; omega)).trans ez) ((hfi _ _ (by unfold FFX; omega)).trans ex) hz hx ?_
        intro σ3 hf3 hT3 n1 n2 n3 n4 n5
        conv => whnf
        refine ⟨fun q9 => by first | (simp at q9; done) | omega, ?_⟩
        have et := fBlr_to (A := A) hi0 hi1 (P := P) (y := y) (e := e) (by omega)
        rw [et] at hv hfx gi
        rw [hv] at n3 hrw hfx ⊢
        have e90 : σ3 (90 + nx) = σ' (90 + nx) := funext (fun j => hf3 (90 + nx) j (by unfold FL; omega))
        exact h2 hq (by omega) _ (hfi.xfl.trans hf3.lfl) (gi.fl hp hT3 hf3) n1 n3 (by rw [e90]; exact hfx) (by rw [e90]; exact hrw) n4 n5
    · simp only [sx_cc, Classical.not_not] at g
      conv => whnf
      refine ⟨fun g => ?_, fun g => ?_⟩
      · simp only [sx_cc, Classical.not_not] at g
        conv => whnf
        refine ⟨fun g => ?_, fun g => ?_⟩
        · simp only [sx_cc, Classical.not_not] at g
          conv => whnf
          refine ⟨fun q9 => by first | (simp at q9; done) | omega, ?_⟩
          have et := fBlr_to (A := A) hi0 hi1 (P := P) (y := y) (e := e) (by omega)
          rw [et] at hv hfx gi
          have hz0 : v = 0 := by omega
          have ebl : (fBlr P A y e x.toNat).1 = A.bl := funext (fun m => by have h9 := hfx m; rw [hz0] at h9; exact h9)
          rw [ebl] at gi
          rw [hz0]
          exact h1 hq (by omega) _ hfi.xfl gi (hfi _ _ (by unfold FFX; omega)) (hfi _ _ (by unfold FFX; omega)) (fun a i z9 => hfi a i (by unfold FFX; omega)) (hv0 hz0)
        · simp only [sx_cc, Classical.not_not] at g
          conv => whnf
          refine ⟨(by first | assumption | rfl), ?_⟩
          try simp (disch := omega) only [Int.cast_ofNat_Int, up_s, up_a, up_i, mp_a, mp_ge]
          try simp only [ep5]
          try simp only [ep2]
          try simp only [a2]
          try simp only [a6]
          try simp only [a10]
          try simp only [s11]
          try simp only [s5]
          try simp only [m8]
          try simp only [er]
          try simp only [eb]
          try simp only [lkr]
          conv => whnf
          refine ⟨Nat.le_of_ble_eq_true rfl, Nat.le_of_ble_eq_true rfl, (by first | assumption | rfl), ?_⟩
          refine c_Lnotef (w := 0) gi.pt (z := z) (nx := nx) ((hfi _ _ (by unfold FFX; omega)).trans ez) ((hfi _ _ (by unfold FFX; omega)).trans ex) hz hx ?_
          intro σ3 hf3 hT3 n1 n2 n3 n4 n5
          conv => whnf
          refine ⟨fun q9 => by first | (simp at q9; done) | omega, ?_⟩
          have et := fBlr_to (A := A) hi0 hi1 (P := P) (y := y) (e := e) (by omega)
          rw [et] at hv hfx gi
          rw [hv] at n3 hrw hfx ⊢
          have e90 : σ3 (90 + nx) = σ' (90 + nx) := funext (fun j => hf3 (90 + nx) j (by unfold FL; omega))
          exact h2 hq (by omega) _ (hfi.xfl.trans hf3.lfl) (gi.fl hp hT3 hf3) n1 n3 (by rw [e90]; exact hfx) (by rw [e90]; exact hrw) n4 n5
      · simp only [sx_cc, Classical.not_not] at g
        have er := hrd u (by omega) (by omega)
        conv => whnf
        refine ⟨(by first | assumption | rfl), ?_⟩
        try simp (disch := omega) only [Int.cast_ofNat_Int, up_s, up_a, up_i, mp_a, mp_ge]
        try simp only [ep5]
        try simp only [ep2]
        try simp only [a2]
        try simp only [a6]
        try simp only [a10]
        try simp only [s11]
        try simp only [s5]
        try simp only [m8]
        try simp only [er]
        try simp only [eb]
        try simp only [lkr]
        conv => whnf
        refine ⟨(by first | assumption | rfl), ?_⟩
        try simp (disch := omega) only [Int.cast_ofNat_Int, up_s, up_a, up_i, mp_a, mp_ge]
        try simp only [ep5]
        try simp only [ep2]
        try simp only [a2]
        try simp only [a6]
        try simp only [a10]
        try simp only [s11]
        try simp only [s5]
        try simp only [m8]
        try simp only [er]
        try simp only [eb]
        try simp only [lkr]
        conv => whnf
        refine ⟨sx_ixI (by first | assumption | rfl) (by omega) (by omega), ?_⟩
        try simp (disch := omega) only [Int.cast_ofNat_Int, up_s, up_a, up_i, mp_a, mp_ge]
        try simp only [ep5]
        try simp only [ep2]
        try simp only [a2]
        try simp only [a6]
        try simp only [a10]
        try simp only [s11]
        try simp only [s5]
        try simp only [m8]
        try simp only [er]
        try simp only [eb]
        try simp only [lkr]
        conv => whnf
        refine ⟨fun g => ?_, fun g => ?_⟩
        · simp only [sx_cc, Classical.not_not] at g
          have hno : ¬ pHit A (fBlr P A y e i.toNat).1 (fAt P y e i.toNat) := by rw [← hu]; exact fun z9 => (by omega)
          conv => whnf
          refine ⟨(by first | assumption | rfl), ?_⟩
          try simp (disch := omega) only [Int.cast_ofNat_Int, up_s, up_a, up_i, mp_a, mp_ge]
          try simp only [ep5]
          try simp only [ep2]
          try simp only [a2]
          try simp only [a6]
          try simp only [a10]
          try simp only [s11]
          try simp only [s5]
          try simp only [m8]
          try simp only [er]
          try simp only [eb]
          try simp only [lkr]
          conv => whnf
          refine ⟨Nat.le_of_ble_eq_true rfl, Nat.le_of_ble_eq_true rfl, (by first | assumption | rfl), ?_⟩
          refine c_Pbeside hp (gi.cp.pd wp) (c := u) (by omega) (by rw [gi.cp.w, gi.cp.h]; omega) ?_
          rw [gi.cp.w, gi.cp.h]
          conv => whnf
          refine ⟨⟨by omega, by omega⟩, ?_⟩
          conv => whnf
          refine ⟨_, ?_, ⟨rfl, _, _, _, _, rfl, rfl, ?_, rfl⟩⟩
          · omega
          · have e9 := fBlr_f hi0 hno
            exact ⟨hfi, by rw [e9]; exact gi, ep2, hrd, by rw [fAt_s hi0 (by omega), ← hu], by rw [e9]; exact hv, by rw [e9]; exact hfx, hrw, by omega, by omega, hq, hv0⟩
        · simp only [sx_cc, Classical.not_not] at g
          have eb : σ' (40 + 12) (aTop A u) = (fBlr P A y e i.toNat).1 (aTop A u) := gi.cs.bl (aTop A u) (by omega) (by show aTop A u < A.n; omega)
          have hb01 := fBlr_01 wm (y := y) (e := e) i.toNat (aTop A u) (by omega) (by omega)
          conv => whnf
          refine ⟨(by first | assumption | rfl), ?_⟩
          try simp (disch := omega) only [Int.cast_ofNat_Int, up_s, up_a, up_i, mp_a, mp_ge]
          try simp only [ep5]
          try simp only [ep2]
          try simp only [a2]
          try simp only [a6]
          try simp only [a10]
          try simp only [s11]
          try simp only [s5]
          try simp only [m8]
          try simp only [er]
          try simp only [eb]
          try simp only [lkr]
          conv => whnf
          refine ⟨(by first | assumption | rfl), ?_⟩
          try simp (disch := omega) only [Int.cast_ofNat_Int, up_s, up_a, up_i, mp_a, mp_ge]
          try simp only [ep5]
          try simp only [ep2]
          try simp only [a2]
          try simp only [a6]
          try simp only [a10]
          try simp only [s11]
          try simp only [s5]
          try simp only [m8]
          try simp only [er]
          try simp only [eb]
          try simp only [lkr]
          conv => whnf
          refine ⟨(by first | assumption | rfl), ?_⟩
          try simp (disch := omega) only [Int.cast_ofNat_Int, up_s, up_a, up_i, mp_a, mp_ge]
          try simp only [ep5]
          try simp only [ep2]
          try simp only [a2]
          try simp only [a6]
          try simp only [a10]
          try simp only [s11]
          try simp only [s5]
          try simp only [m8]
          try simp only [er]
          try simp only [eb]
          try simp only [lkr]
          conv => whnf
          refine ⟨sx_ixI (by first | assumption | rfl) (by omega) (by omega), ?_⟩
          try simp (disch := omega) only [Int.cast_ofNat_Int, up_s, up_a, up_i, mp_a, mp_ge]
          try simp only [ep5]
          try simp only [ep2]
          try simp only [a2]
          try simp only [a6]
          try simp only [a10]
          try simp only [s11]
          try simp only [s5]
          try simp only [m8]
          try simp only [er]
          try simp only [eb]
          try simp only [lkr]
          conv => whnf
          refine ⟨fun g => ?_, fun g => ?_⟩
          · simp only [sx_cc, Classical.not_not] at g
            have hno : ¬ pHit A (fBlr P A y e i.toNat).1 (fAt P y e i.toNat) := by rw [← hu]; exact fun z9 => (by omega)
            conv => whnf
            refine ⟨(by first | assumption | rfl), ?_⟩
            try simp (disch := omega) only [Int.cast_ofNat_Int, up_s, up_a, up_i, mp_a, mp_ge]
            try simp only [ep5]
            try simp only [ep2]
            try simp only [a2]
            try simp only [a6]
            try simp only [a10]
            try simp only [s11]
            try simp only [s5]
            try simp only [m8]
            try simp only [er]
            try simp only [eb]
            try simp only [lkr]
            conv => whnf
            refine ⟨Nat.le_of_ble_eq_true rfl, Nat.le_of_ble_eq_true rfl, (by first | assumption | rfl), ?_⟩
            refine c_Pbeside hp (gi.cp.pd wp) (c := u) (by omega) (by rw [gi.cp.w, gi.cp.h]; omega) ?_
            rw [gi.cp.w, gi.cp.h]
            conv => whnf
            refine ⟨⟨by omega, by omega⟩, ?_⟩
            conv => whnf
            refine ⟨_, ?_, ⟨rfl, _, _, _, _, rfl, rfl, ?_, rfl⟩⟩
            · omega
            · have e9 := fBlr_f hi0 hno
              exact ⟨hfi, by rw [e9]; exact gi, ep2, hrd, by rw [fAt_s hi0 (by omega), ← hu], by rw [e9]; exact hv, by rw [e9]; exact hfx, hrw, by omega, by omega, hq, hv0⟩
          · simp only [sx_cc, Classical.not_not] at g
            have hhit : pHit A (fBlr P A y e i.toNat).1 (fAt P y e i.toNat) := by rw [← hu]; exact ⟨by omega, by omega, by omega⟩
            conv => whnf
            refine ⟨by first | decide | (simp only [lkr]; decide), ?_⟩
            try simp (disch := omega) only [Int.cast_ofNat_Int, up_s, up_a, up_i, mp_a, mp_ge]
            try simp only [ep5]
            try simp only [ep2]
            try simp only [a2]
            try simp only [a6]
            try simp only [a10]
            try simp only [s11]
            try simp only [s5]
            try simp only [m8]
            try simp only [er]
            try simp only [eb]
            try simp only [lkr]
            conv => whnf
            refine ⟨fun g => ?_, fun g => ?_⟩
            · simp only [sx_cc, Classical.not_not] at g
              omega
            · simp only [sx_cc, Classical.not_not] at g
              conv => whnf
              refine ⟨(by first | assumption | rfl), ?_⟩
              try simp (disch := omega) only [Int.cast_ofNat_Int, up_s, up_a, up_i, mp_a, mp_ge]
              try simp only [ep5]
              try simp only [ep2]
              try simp only [a2]
              try simp only [a6]
              try simp only [a10]
              try simp only [s11]
              try simp only [s5]
              try simp only [m8]
              try simp only [er]
              try simp only [eb]
              try simp only [lkr]
              conv => whnf
              refine ⟨(by first | assumption | rfl), ?_⟩
              try simp (disch := omega) only [Int.cast_ofNat_Int, up_s, up_a, up_i, mp_a, mp_ge]
              try simp only [ep5]
              try simp only [ep2]
              try simp only [a2]
              try simp only [a6]
              try simp only [a10]
              try simp only [s11]
              try simp only [s5]
              try simp only [m8]
              try simp only [er]
              try simp only [eb]
              try simp only [lkr]
              conv => whnf
              refine ⟨(by first | assumption | rfl), ?_⟩
              try simp (disch := omega) only [Int.cast_ofNat_Int, up_s, up_a, up_i, mp_a, mp_ge]
              try simp only [ep5]
              try simp only [ep2]
              try simp only [a2]
              try simp only [a6]
              try simp only [a10]
              try simp only [s11]
              try simp only [s5]
              try simp only [m8]
              try simp only [er]
              try simp only [eb]
              try simp only [lkr]
              conv => whnf
              refine ⟨sx_ixI (by first | assumption | rfl) (by omega) (by omega), ?_⟩
              conv => whnf
              refine ⟨sx_ixI (by first | assumption | rfl) (by omega) (by omega), ?_⟩
              generalize e5 : sx_up (sx_up σ' (40 + 12) _ 1) (90 + nx) _ _ = σ5
              have g5 := (gi.bl1 hp (m := aTop A u)).rw90 hx hp (i := v) (v := aTop A u)
              rw [e5] at g5
              have ep5 : σ5 0 2 = p := by rw [← e5, up_a (by omega), up_a (by decide)]; exact ep2
              conv => whnf
              refine ⟨⟨by omega, by omega⟩, ?_⟩
              conv => whnf
              refine ⟨(by first | assumption | rfl), ?_⟩
              try simp (disch := omega) only [Int.cast_ofNat_Int, up_s, up_a, up_i, mp_a, mp_ge]
              try simp only [ep5]
              try simp only [ep2]
              try simp only [a2]
              try simp only [a6]
              try simp only [a10]
              try simp only [s11]
              try simp only [s5]
              try simp only [m8]
              try simp only [er]
              try simp only [eb]
              try simp only [lkr]
              conv => whnf
              refine ⟨Nat.le_of_ble_eq_true rfl, Nat.le_of_ble_eq_true rfl, (by first | assumption | rfl), ?_⟩
              refine c_Pbeside hp (g5.cp.pd wp) (c := u) (by omega) (by rw [g5.cp.w, g5.cp.h]; omega) ?_
              rw [g5.cp.w, g5.cp.h]
              conv => whnf
              refine ⟨⟨by omega, by omega⟩, ?_⟩
              conv => whnf
              refine ⟨_, ?_, ⟨rfl, _, _, _, _, rfl, rfl, ?_, rfl⟩⟩
              · omega
              · have e9 := fBlr_t hi0 hhit
                rw [← hu] at e9
                refine ⟨hfi.trans (fun a j z9 => by unfold FFX at z9; rw [← e5, up_a (by omega), up_a (by omega)]), ?_, ep5, fun e1 y0 y1 => ?_, by rw [fAt_s hi0 (by omega), ← hu], by rw [e9, hv], ?_, fun j y0 y1 => ?_, by omega, by omega, hq, fun z9 => by omega⟩
                · rw [e9]; exact g5
                · rw [← e5, up_a (by omega), up_a (by decide)]; exact hrd e1 y0 y1
                · rw [e9]
                  refine fFx_s (by omega) (fun j y0 y1 => ?_) (by rw [← e5, up_s]) (by show (fBlr P A y e i.toNat).1 (aTop A u) = 0; omega) hfx
                  rw [← e5, up_i (by omega), up_a (by omega)]
                · rw [← e5]
                  by_cases e8 : j = v
                  · subst e8; rw [up_s]; omega
                  · rw [up_i e8, up_a (by omega)]; exact hrw j y0 (by omega)
end SXV1
