/-! THE WEATHER OVER THE ABSTRACT SNOW -/
section SXL2
variable {X : sx_X} {Q : sx_R} {s p b c : Int} {σ σ' : sx_S} {P : aP} {A : aM}
theorem cS.mk9 (g : cS s σ A) (hf : fr (FC s) σ σ') (hs : 40 ≤ s) {hr sn la : Int} {dp cv : Int → Int} (e1 : σ' s 7 = hr) (e2 : σ' s 8 = sn) (e3 : σ' s 10 = la) (e4 : ∀ m : Int, 0 ≤ m → m < A.n → σ' (s + 9) m = dp m) (e5 : ∀ m : Int, 0 ≤ m → m < A.n → σ' (s + 10) m = cv m) : cS s σ' (aM.mk A.n (hr) (sn) (la) A.lk A.ce A.wy A.bo (dp) (cv) A.ow A.bl) := cS.mk ((hf _ _ (by unfold FC; omega)).trans g.n) (e1) (e2) (e3) (fun m h0 h1 => (hf _ _ (by unfold FC; omega)).trans (g.lk m h0 h1)) (fun m h0 h1 => (hf _ _ (by unfold FC; omega)).trans (g.ce m h0 h1)) (fun m h0 h1 => (hf _ _ (by unfold FC; omega)).trans (g.wy m h0 h1)) (fun m h0 h1 => (hf _ _ (by unfold FC; omega)).trans (g.bo m h0 h1)) (e4) (e5) (fun m h0 h1 => (hf _ _ (by unfold FC; omega)).trans (g.ow m h0 h1)) (fun m h0 h1 => (hf _ _ (by unfold FC; omega)).trans (g.bl m h0 h1))
theorem rS.mk9 (g : rS b σ A) (hf : fr (FR b) σ σ') {hr sn la : Int} {dp cv : Int → Int} (e1 : σ' 156 b = hr) (e2 : σ' 155 b = sn) (e3 : σ' 124 73 = la) (e4 : ∀ m : Int, 0 ≤ m → m < A.n → σ' 150 (90 * b + m) = dp m) (e5 : ∀ m : Int, 0 ≤ m → m < A.n → σ' 151 (90 * b + m) = cv m) : rS b σ' (aM.mk A.n (hr) (sn) (la) A.lk A.ce A.wy A.bo (dp) (cv) A.ow A.bl) := rS.mk ((hf _ _ (by unfold FR; omega)).trans g.n) (e1) (e2) (e3) (fun m h0 h1 => (hf _ _ (by unfold FR; omega)).trans (g.lk m h0 h1)) (fun m h0 h1 => (hf _ _ (by unfold FR; omega)).trans (g.ce m h0 h1)) (fun m h0 h1 => (hf _ _ (by unfold FR; omega)).trans (g.wy m h0 h1)) (fun m h0 h1 => (hf _ _ (by unfold FR; omega)).trans (g.bo m h0 h1)) (e4) (e5) (fun m h0 h1 => (hf _ _ (by unfold FR; omega)).trans (g.ow m h0 h1)) (fun m h0 h1 => (hf _ _ (by unfold FR; omega)).trans (g.bl m h0 h1))
theorem rP.fr (g : rP σ P) (hf : fr (FR b) σ σ') : rP σ' P := g.of (fun a i z1 z2 => hf a i (by unfold FR; omega)) (fun i z1 z2 => hf _ i (by unfold FR; omega))
theorem cP.fr (g : cP p σ P) (hs : isS s) (hp : isP p) (hf : fr (FC s) σ σ') : cP p σ' P := by
  have hps := ps_lt hp hs
  have hpz : p + 20 < 38 := by rcases hp with h9 | h9 <;> omega
  exact g.of (fun a i z1 z2 => hf a i (by unfold FC; omega))
theorem isS.ge (hs : isS s) : 40 ≤ s := by rcases hs with h9 | h9 | h9 <;> omega
theorem a_Shour (hs : isS s) (hp : isP p) (wp : wP P) (wm : wM P A c) (g : GC s p P A σ) (h : ∀ σ', fr (FC s) σ σ' → GC s p P (fHour P A) σ' → Q none shM σ') : sx_Run X 86 [.inr (.inr s)] shM σ Q := by
  have hsz := hs.ge
  have en := g.cs.n
  have v4 := wp.wh
  refine c_Shour g.pt hs hp g.ep (g.cp.pd wp) g.sc (by rw [en]; exact wm.n) (fun m h0 h1 => ?_) g.cp.hb (by rw [g.cs.hr]; exact wm.hr) (o := fun m => P.lw 0 (aNm P A m)) (fun m h0 h1 j _ _ => ?_) (fun m h0 h1 => ?_) (fun σ' heq hsc => ?_)
  · rw [en] at h1
    have u1 := wm.lk m h0 h1
    have u2 := wm.ce m h0 h1
    have u3 := wm.dp m h0 h1
    have u5 := wp.wa
    rw [g.cs.lk m h0 h1, g.cs.ce m h0 h1, g.cs.bo m h0 h1, g.cs.dp m h0 h1]
    exact ⟨⟨u1.1, by omega⟩, ⟨u2.1, by omega⟩, wm.bo m h0 h1, u3.1, by omega⟩
  · rw [en] at h1
    rw [cNm wp wm g.cp g.cs h0 h1]
    exact aNm_b wp wm h0 h1 j
  · rw [en] at h1
    rw [cNm wp wm g.cp g.cs h0 h1]
    exact g.cp.lw 0 _ (by decide) (by decide) (fun j _ _ => aNm_b wp wm h0 h1 j)
  · have hf : fr (FC s) σ σ' := fun a i z => by
      unfold FC at z
      rw [heq a i (by omega) (by omega) (by omega)]
      unfold sx_up sx_mp
      rw [if_neg (by omega), if_neg (by omega)]
    refine h σ' hf (GC.mk (hf.pt hs g.pt) ((hf s 1 (by unfold FC; omega)).trans g.ep) (g.cp.fr hs hp hf) ?_ hsc)
    refine cS.mk9 g.cs hf hsz (hr := A.hr + 1) (sn := A.sn) (la := A.la) (dp := (fHour P A).dp) (cv := A.cv) ?_ ?_ ?_ (fun m h0 h1 => ?_) (fun m h0 h1 => ?_)
    · rw [heq _ _ (by omega) (by omega) (by omega), up_s, g.cs.hr]
    · rw [heq _ _ (by omega) (by omega) (by omega), up_i (by decide), mp_a (by omega), g.cs.sn]
    · rw [heq _ _ (by omega) (by omega) (by omega), up_i (by decide), mp_a (by omega), g.cs.la]
    · rw [heq _ _ (by omega) (by omega) (by omega), up_a (by omega), en, mp_in h0 h1]
      show fHr _ _ (fun m => P.lw 0 (aNm P A m)) m = fHr A.dp A.cv (fun m => P.lw 0 (aNm P A m)) m
      unfold fHr
      rw [g.cs.dp m h0 h1, g.cs.cv m h0 h1]
    · rw [heq _ _ (by omega) (by omega) (by omega), up_a (by omega), mp_a (by omega), g.cs.cv m h0 h1]
theorem a_Scover (hs : isS s) (hp : isP p) (wm : wM P A c) (hc : c ≤ 1000000) (g : GC s p P A σ) {x : Int} (hx : 0 ≤ x ∧ x ≤ 99) (h : ∀ σ', fr (FC s) σ σ' → GC s p P (fFall x A) σ' → Q none shM σ') : sx_Run X 87 [.inr (.inr s), .inl x] shM σ Q := by
  have hsz := hs.ge
  have en := g.cs.n
  refine c_Scoverby g.pt hs (by rw [en]; exact wm.n) (fun m h0 h1 => ?_) (by rw [g.cs.sn]; exact wm.sn) hx ?_
  · rw [en] at h1
    have u1 := wm.cv m h0 h1
    rw [g.cs.cv m h0 h1]
    omega
  generalize e : sx_up _ s 8 _ = σ'
  have hf : fr (FC s) σ σ' := fun a i z => by
    unfold FC at z
    rw [← e]
    unfold sx_up sx_mp
    rw [if_neg (by omega), if_neg (by omega)]
  refine h σ' hf (GC.mk (hf.pt hs g.pt) ((hf s 1 (by unfold FC; omega)).trans g.ep) (g.cp.fr hs hp hf) ?_ (g.sc.of (fun a i z1 z2 => by rw [← e, up_a (by omega), mp_a (by omega)])))
  refine cS.mk9 g.cs hf hsz (hr := A.hr) (sn := fMn (A.sn + x)) (la := A.la) (dp := A.dp) (cv := (fFall x A).cv) ?_ ?_ ?_ (fun m h0 h1 => ?_) (fun m h0 h1 => ?_)
  · rw [← e, up_i (by decide), mp_a (by omega), g.cs.hr]
  · rw [← e, up_s, g.cs.sn]
  · rw [← e, up_i (by decide), mp_a (by omega), g.cs.la]
  · rw [← e, up_a (by omega), mp_a (by omega), g.cs.dp m h0 h1]
  · rw [← e, up_a (by omega), en, mp_in h0 h1, g.cs.cv m h0 h1]; rfl
theorem a_Smelt (hs : isS s) (hp : isP p) (wm : wM P A c) (hc : c ≤ 1000000) (g : GC s p P A σ) {x : Int} (hx : 0 ≤ x ∧ x ≤ 999) (h : ∀ σ', fr (FC s) σ σ' → GC s p P (fThaw x A) σ' → Q (some (.inl (fCnt (fMg A.dp A.cv x) A.n.toNat))) shM σ') : sx_Run X 88 [.inr (.inr s), .inl x] shM σ Q := by
  have hsz := hs.ge
  have en := g.cs.n
  refine c_Smeltby g.pt hs (by rw [en]; exact wm.n) (fun m h0 h1 => ?_) (fun m h0 h1 => ?_) (by rw [g.cs.sn]; exact wm.sn) hx ?_
  · rw [en] at h1
    have u1 := wm.cv m h0 h1
    rw [g.cs.cv m h0 h1]
    omega
  · rw [en] at h1
    have u1 := wm.dp m h0 h1
    rw [g.cs.dp m h0 h1]
    omega
  have ec : fCnt (fMg (σ (s + 9)) (σ (s + 10)) x) (σ (s + 4) 0).toNat = fCnt (fMg A.dp A.cv x) A.n.toNat := by
    rw [en]
    refine fCnt_cg (fun i h0 h1 => ?_)
    have h2 : i < A.n := by omega
    unfold fMg fMd
    rw [g.cs.dp i h0 h2, g.cs.cv i h0 h2]
  rw [ec]
  generalize e : sx_up _ s 8 _ = σ'
  have hf : fr (FC s) σ σ' := fun a i z => by
    unfold FC at z
    rw [← e]
    unfold sx_up sx_mp
    rw [if_neg (by omega), if_neg (by omega), if_neg (by omega)]
  refine h σ' hf (GC.mk (hf.pt hs g.pt) ((hf s 1 (by unfold FC; omega)).trans g.ep) (g.cp.fr hs hp hf) ?_ (g.sc.of (fun a i z1 z2 => by rw [← e, up_a (by omega), mp_a (by omega), mp_a (by omega)])))
  refine cS.mk9 g.cs hf hsz (hr := A.hr) (sn := fMax0 (A.sn - x)) (la := A.la) (dp := (fThaw x A).dp) (cv := (fThaw x A).cv) ?_ ?_ ?_ (fun m h0 h1 => ?_) (fun m h0 h1 => ?_)
  · rw [← e, up_i (by decide), mp_a (by omega), mp_a (by omega), g.cs.hr]
  · rw [← e, up_s, g.cs.sn]
  · rw [← e, up_i (by decide), mp_a (by omega), mp_a (by omega), g.cs.la]
  · rw [← e, up_a (by omega), en, mp_in h0 h1]
    show fMd _ _ x m = fMd A.dp A.cv x m
    unfold fMd
    rw [g.cs.dp m h0 h1, g.cs.cv m h0 h1]
  · rw [← e, up_a (by omega), mp_a (by omega), en, mp_in h0 h1]
    show fMc _ _ x m = fMc A.dp A.cv x m
    unfold fMc
    rw [g.cs.dp m h0 h1, g.cs.cv m h0 h1]
theorem a_Rfalls (hb : b = 0 ∨ b = 1) (wm : wM P A c) (hc : c ≤ 1000000) (g : GR b P A σ) {x : Int} (hx : 0 ≤ x ∧ x ≤ 99) (h : ∀ σ', fr (FR b) σ σ' → GR b P (fFall x A) σ' → Q none shM σ') : sx_Run X 244 [.inr (.inr 124), .inl b, .inl x] shM σ Q := by
  have en := g.rs.n
  have wn := wm.n
  refine c_Rfalls g.pt hb (by rw [en]; exact wm.n) hx (fun m h0 h1 => ?_) (by rw [g.rs.sn]; exact wm.sn) ?_
  · rw [en] at h1
    have u1 := wm.cv m h0 h1
    rw [g.rs.cv m h0 h1]
    omega
  generalize e : sx_up _ 155 b _ = σ'
  have hf : fr (FR b) σ σ' := fun a i z => by
    unfold FR at z
    rw [← e]
    unfold sx_up sx_mq
    rw [if_neg (by omega), if_neg (by omega)]
  refine h σ' hf (GR.mk (hf.ptr hb g.pt) (g.rp.fr hf) ?_ (g.sc.of (fun i => by rw [← e, up_a (by decide), mq_a (by decide)]) (by rw [← e, up_a (by decide), mq_a (by decide)])))
  refine rS.mk9 g.rs hf (hr := A.hr) (sn := fMn (A.sn + x)) (la := A.la) (dp := A.dp) (cv := (fFall x A).cv) ?_ ?_ ?_ (fun m h0 h1 => ?_) (fun m h0 h1 => ?_)
  · rw [← e, up_a (by decide), mq_a (by decide), g.rs.hr]
  · rw [← e, up_s, g.rs.sn]
  · rw [← e, up_a (by decide), mq_a (by decide), g.rs.la]
  · rw [← e, up_a (by decide), mq_a (by decide), g.rs.dp m h0 h1]
  · rw [← e, up_a (by decide), mq_in (by omega) (by omega), show 90 * b + m - 90 * b = m by omega, g.rs.cv m h0 h1]; rfl
theorem a_Rthaws (hb : b = 0 ∨ b = 1) (wm : wM P A c) (hc : c ≤ 1000000) (g : GR b P A σ) {x : Int} (hx : 0 ≤ x ∧ x ≤ 999) (h : ∀ σ', fr (FR b) σ σ' → GR b P (fThaw x A) σ' → Q (some (.inl (fCnt (fMg A.dp A.cv x) A.n.toNat))) shM σ') : sx_Run X 245 [.inr (.inr 124), .inl b, .inl x] shM σ Q := by
  have en := g.rs.n
  have wn := wm.n
  refine c_Rthaws g.pt hb (by rw [en]; exact wm.n) hx (fun m h0 h1 => ?_) (fun m h0 h1 => ?_) (by rw [g.rs.sn]; exact wm.sn) ?_
  · rw [en] at h1
    have u1 := wm.cv m h0 h1
    rw [g.rs.cv m h0 h1]
    omega
  · rw [en] at h1
    have u1 := wm.dp m h0 h1
    rw [g.rs.dp m h0 h1]
    omega
  have ec : fCnt (fMg (fun j => σ 150 (90 * b + j)) (fun j => σ 151 (90 * b + j)) x) (σ 154 b).toNat = fCnt (fMg A.dp A.cv x) A.n.toNat := by
    rw [en]
    refine fCnt_cg (fun i h0 h1 => ?_)
    have h2 : i < A.n := by omega
    unfold fMg fMd
    simp only [g.rs.dp i h0 h2, g.rs.cv i h0 h2]
  rw [ec]
  generalize e : sx_up _ 155 b _ = σ'
  have hf : fr (FR b) σ σ' := fun a i z => by
    unfold FR at z
    rw [← e]
    unfold sx_up sx_mq
    rw [if_neg (by omega), if_neg (by omega), if_neg (by omega)]
  refine h σ' hf (GR.mk (hf.ptr hb g.pt) (g.rp.fr hf) ?_ (g.sc.of (fun i => by rw [← e, up_a (by decide), mq_a (by decide), mq_a (by decide)]) (by rw [← e, up_a (by decide), mq_a (by decide), mq_a (by decide)])))
  refine rS.mk9 g.rs hf (hr := A.hr) (sn := fMax0 (A.sn - x)) (la := A.la) (dp := (fThaw x A).dp) (cv := (fThaw x A).cv) ?_ ?_ ?_ (fun m h0 h1 => ?_) (fun m h0 h1 => ?_)
  · rw [← e, up_a (by decide), mq_a (by decide), mq_a (by decide), g.rs.hr]
  · rw [← e, up_s, g.rs.sn]
  · rw [← e, up_a (by decide), mq_a (by decide), mq_a (by decide), g.rs.la]
  · rw [← e, up_a (by decide), mq_in (by omega) (by omega), show 90 * b + m - 90 * b = m by omega]
    show fMd _ _ x m = fMd A.dp A.cv x m
    unfold fMd
    simp only [g.rs.dp m h0 h1, g.rs.cv m h0 h1]
  · rw [← e, up_a (by decide), mq_a (by decide), mq_in (by omega) (by omega), show 90 * b + m - 90 * b = m by omega]
    show fMc _ _ x m = fMc A.dp A.cv x m
    unfold fMc
    simp only [g.rs.dp m h0 h1, g.rs.cv m h0 h1]
theorem fHr_none {d v : Int → Int} {o : Int → Option Int} {m : Int} (ho : o m = none) : fHr d v o m = d m := by
  unfold fHr
  rw [ho]
  show (if 0 < d m ∧ v m = 0 then fMax0 (d m - 0) else d m) = d m
  unfold fMax0
  repeat (first | omega | split)
theorem a_Rhour (hb : b = 0 ∨ b = 1) (wp : wP P) (wm : wM P A c) (g : GR b P A σ) (h : ∀ σ', fr (FR b) σ σ' → GR b P (fHour P A) σ' → Q none shM σ') : sx_Run X 243 [.inr (.inr 124), .inl b] shM σ Q := by
  have en := g.rs.n
  have wn := wm.n
  have v4 := wp.wh
  have eL : fLk 0 = 1 := by decide
  by_cases ht : σ 136 1 = 0
  · refine c_Rhour0 g.pt hb (by rw [g.rs.hr]; exact wm.hr) ht ?_
    generalize e : sx_up _ 156 b _ = σ'
    have hf : fr (FR b) σ σ' := fun a i z => by
      unfold FR at z
      rw [← e]
      unfold sx_up
      rw [if_neg (by omega)]
    refine h σ' hf (GR.mk (hf.ptr hb g.pt) (g.rp.fr hf) ?_ (g.sc.of (fun i => by rw [← e, up_a (by decide)]) (by rw [← e, up_a (by decide)])))
    refine rS.mk9 g.rs hf (hr := A.hr + 1) (sn := A.sn) (la := A.la) (dp := (fHour P A).dp) (cv := A.cv) ?_ ?_ ?_ (fun m h0 h1 => ?_) (fun m h0 h1 => ?_)
    · rw [← e, up_s, g.rs.hr]
    · rw [← e, up_a (by decide), g.rs.sn]
    · rw [← e, up_a (by decide), g.rs.la]
    · rw [← e, up_a (by decide), g.rs.dp m h0 h1]
      exact (fHr_none (o := fun m => P.lw 0 (aNm P A m)) (g.rp.l0 0 (aNm P A m) (by decide) (by decide) (by rw [eL]; exact ht))).symm
    · rw [← e, up_a (by decide), g.rs.cv m h0 h1]
  · have hl1 := g.rp.l1 0 (by decide) (by decide) (by rw [eL]; exact ht)
    rw [eL] at hl1
    refine c_Rhour g.pt (g.rp.rd wp) g.sc hb (by rw [en]; exact wm.n) (fun m h0 h1 => ?_) g.rp.hb (by rw [g.rs.hr]; exact wm.hr) ht hl1.1 hl1.2 (o := fun m => P.lw 0 (aNm P A m)) (fun m h0 h1 j _ _ => ?_) (fun m h0 h1 => ?_) (fun σ' heq hsc => ?_)
    · rw [en] at h1
      have u1 := wm.lk m h0 h1
      have u2 := wm.ce m h0 h1
      have u3 := wm.dp m h0 h1
      have u5 := wp.wa
      rw [g.rs.lk m h0 h1, g.rs.ce m h0 h1, g.rs.bo m h0 h1, g.rs.dp m h0 h1, g.rs.cv m h0 h1]
      exact ⟨⟨u1.1, by omega⟩, ⟨u2.1, by omega⟩, wm.bo m h0 h1, ⟨u3.1, by omega⟩, (wm.cv m h0 h1).1⟩
    · rw [en] at h1
      rw [rNm wp wm g.rp g.rs h0 h1]
      exact aNm_b wp wm h0 h1 j
    · rw [en] at h1
      rw [rNm wp wm g.rp g.rs h0 h1]
      have h9 := g.rp.l2 0 (aNm P A m) (by decide) (by decide) (by rw [eL]; exact ht)
      rw [eL] at h9
      exact h9
    · have hf : fr (FR b) σ σ' := fun a i z => by
        unfold FR at z
        rw [heq a i (by omega) (by omega) (by omega)]
        unfold sx_up sx_mq
        rw [if_neg (by omega), if_neg (by omega)]
      refine h σ' hf (GR.mk (hf.ptr hb g.pt) (g.rp.fr hf) ?_ (hsc))
      refine rS.mk9 g.rs hf (hr := A.hr + 1) (sn := A.sn) (la := A.la) (dp := (fHour P A).dp) (cv := A.cv) ?_ ?_ ?_ (fun m h0 h1 => ?_) (fun m h0 h1 => ?_)
      · rw [heq _ _ (by decide) (by decide) (by omega), up_s, g.rs.hr]
      · rw [heq _ _ (by decide) (by decide) (by omega), up_a (by decide), mq_a (by decide), g.rs.sn]
      · rw [heq _ _ (by decide) (by decide) (by omega), up_a (by decide), mq_a (by decide), g.rs.la]
      · rw [heq _ _ (by decide) (by decide) (by omega), up_a (by decide), mq_in (by omega) (by omega), show 90 * b + m - 90 * b = m by omega]
        show fHr _ _ (fun m => P.lw 0 (aNm P A m)) m = fHr A.dp A.cv (fun m => P.lw 0 (aNm P A m)) m
        unfold fHr
        simp only [g.rs.dp m h0 h1, g.rs.cv m h0 h1]
      · rw [heq _ _ (by decide) (by decide) (by omega), up_a (by decide), mq_a (by decide), g.rs.cv m h0 h1]
end SXL2
