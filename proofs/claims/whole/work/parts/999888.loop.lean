/-! THE LAW: its loop -/
section LWT
variable {p : Program} {e : Env} {s : State} {m : MethodId} {below : List Frame} {meth : Method} {c : Code} {nc ns : Nat} {X : sx_X} {b Ln : Nat} {xs : Nat → Int32}
variable {w5 w6 : Option sx_V} {st : List sx_V} {σ : sx_S} {pc k a1 a2 : Nat}
theorem lw_e23 : lw_dB [(.iload 4, 2), (.aload_n 0, 1), (.arraylength, 1), (.bipush 6, 2), (.isub, 1), (.if_icmp .gt 1746, 3), (.aload_n 0, 1), (.iload 4, 2), (.iaload, 1), (.bipush 63, 2), (.iand, 1)] 23 = true := by decide +kernel
theorem lw_e40 : decode code 40 = .ok (.tableswitch 1730 0 44 #[196, 269, 294, 319, 356, 424, 461, 498, 536, 573, 610, 659, 684, 709, 734, 747, 760, 785, 822, 835, 896, 921, 946, 959, 972, 997, 1022, 1059, 1108, 1157, 1206, 1255, 1292, 1341, 1367, 1424, 1493, 1518, 1531, 1556, 1617, 1666, 1679, 1692, 1705], 196) := by decide +kernel
theorem lw_e1770 : lw_dB [(.iinc 4 6, 3), (.goto (-1750), 3), (.iconst 1, 1), (.ireturn, 1)] 1770 = true := by decide +kernel
theorem lw_slen {args : Array Value} {Q : State → Prop} {L : sx_L} (hK : lw_K p s m args meth c X b Ln xs) (hd : decode code pc = .ok (.arraylength, 1)) (hn : lw_A p e s m args below meth c nc ns Q X (pc + 1) L (.inl (Ln : Int) :: st) σ) : lw_A p e s m args below meth c nc ns Q X pc L (.inr (.inr 172) :: st) σ := by
  obtain ⟨hF, hXs, hbX, h172, hLn⟩ := hK
  intro ls H locs hG hO
  have hbs := hF.2.2.2.2.2.2.2.2.1
  show W p X.1 e room_1 s m args below meth c H locs nc ns Q (F0 m pc ls (sx_tv X.2.2.2.2.1 (.inr (.inr 172)) :: st.map (sx_tv X.2.2.2.2.1)))
  rw [sx_tv_ref (by decide), show (172 : Int).toNat = 172 from rfl, h172]
  refine va_slen hF.1 hF.2.1 hXs (by omega) (show ¬ sx_A X b from fun z => by unfold sx_A at z; omega) hG.2.2.2.2 hd ?_
  have h9 := hn ls H locs hG (sx_okS_cons (show sx_r32 (Ln : Int) from ⟨by omega, by omega⟩) (sx_okS_tl hO))
  rw [List.map_cons] at h9
  exact h9
/-- the law's end -/
theorem lw_end {L : sx_L} (hK : lw_K p s m #[Value.ref b] meth c X b Ln xs) (hb0 : X.2.2.2.1 = s.heap.size) (hrt : meth.sig.returnType = ret) (hlk : meth.locks = false) (hR : nc ≤ 601024 ∧ ns ≤ 7293034) : lw_A p e s m #[Value.ref b] below meth c nc ns (lw_Z below #[Value.ref b] s) X 1776 L [] σ := by
  obtain ⟨d1, hd⟩ := lw_dB_c lw_e1770
  obtain ⟨d2, hd⟩ := lw_dB_c hd
  obtain ⟨d3, hd⟩ := lw_dB_c hd
  obtain ⟨d4, hd⟩ := lw_dB_c hd
  intro ls H locs hG hO
  refine lv_iconst hK.1.1 hK.1.2.1 d3 rfl ?_
  refine va_forget (fun q hq => ?_) (W.widen hR.1 hR.2 (lw_ret hK.1.1 hK.1.2.1 hrt hlk d4))
  have h9 : X.2.2.2.1 ≤ q.base := hG.2.2.2.2.2.2 q hq
  omega
set_option maxHeartbeats 2000000 in
theorem lw_loop (hK : lw_K p s m #[Value.ref b] meth c X b Ln xs) (hb0 : X.2.2.2.1 = s.heap.size) (hrt : meth.sig.returnType = ret) (hlk : meth.locks = false) (hfl : X.1.flags = flags0) (hT2 : lk_T X a1 a2) (hVx : ∀ U : State, X.2.2.2.2.2 U → ct_V U) (hWT : sx_WT X) : ∀ (n k : Nat) (σ : sx_S) (w5 w6 : Option sx_V), Ln / 6 ≤ k + n → k ≤ Ln / 6 → Inv (k : Int) σ → lw_A p e s m #[Value.ref b] below meth c (172 + k) (gx_z 172 + 6 * k) (lw_Z below #[Value.ref b] s) X 23 (lw_L (6 * (k : Int)) w5 w6) [] σ := by
  have hLn := hK.2.2.2.2
  have hz : gx_z 172 ≤ 20000 := by decide +kernel
  obtain ⟨d1, hd⟩ := lw_dB_c lw_e23
  obtain ⟨d2, hd⟩ := lw_dB_c hd
  obtain ⟨d3, hd⟩ := lw_dB_c hd
  obtain ⟨d4, hd⟩ := lw_dB_c hd
  obtain ⟨d5, hd⟩ := lw_dB_c hd
  obtain ⟨d6, hd⟩ := lw_dB_c hd
  obtain ⟨d7, hd⟩ := lw_dB_c hd
  obtain ⟨d8, hd⟩ := lw_dB_c hd
  obtain ⟨d9, hd⟩ := lw_dB_c hd
  obtain ⟨d10, hd⟩ := lw_dB_c hd
  obtain ⟨d11, hd⟩ := lw_dB_c hd
  obtain ⟨q1, hq⟩ := lw_dB_c lw_e1770
  obtain ⟨q2, hq⟩ := lw_dB_c hq
  have head : ∀ (k : Nat) (σ : sx_S) (w5 w6 : Option sx_V), k ≤ Ln / 6 → (6 * k + 6 ≤ Ln → lw_A p e s m #[Value.ref b] below meth c (172 + k) (gx_z 172 + 6 * k) (lw_Z below #[Value.ref b] s) X 33 (lw_L (6 * (k : Int)) w5 w6) [] σ) → lw_A p e s m #[Value.ref b] below meth c (172 + k) (gx_z 172 + 6 * k) (lw_Z below #[Value.ref b] s) X 23 (lw_L (6 * (k : Int)) w5 w6) [] σ := fun k σ w5 w6 hk h => by
    have hR : 172 + k ≤ 601024 ∧ gx_z 172 + 6 * k ≤ 7293034 := ⟨by omega, by omega⟩
    refine lw_1 (w := []) hK hR d1 rfl ⟨rfl, rfl, rfl⟩ ?_
    refine lw_1 (w := []) hK hR d2 rfl ⟨rfl, rfl, rfl⟩ ?_
    refine lw_slen hK d3 ?_
    refine lw_1 (w := []) hK hR d4 rfl ⟨rfl, rfl, rfl⟩ ?_
    refine lw_1 (w := []) hK hR d5 rfl ⟨⟨by omega, by omega⟩, rfl, rfl, rfl⟩ ?_
    refine sx_jcmp (gx_Fx hK.1 hR) (cc := .gt) (off := 1746) (t := 1776) d6 (by decide) (fun _ => lw_end hK hb0 hrt hlk hR) (fun z => h ?_)
    have z : ¬ ((Ln : Int) - 6 < 6 * (k : Int)) := z
    omega
  intro n
  induction n with
  | zero =>
    intro k σ w5 w6 h1 h2 I
    exact head k σ w5 w6 h2 (fun h => by omega)
  | succ n ih =>
    intro k σ w5 w6 h1 h2 I
    refine head k σ w5 w6 h2 (fun hk => ?_)
    have hR : 172 + k ≤ 601024 ∧ gx_z 172 + 6 * k ≤ 7293034 := ⟨by omega, by omega⟩
    have hR1 : 172 + k + 1 ≤ 601024 ∧ gx_z 172 + 6 * k + 6 ≤ 7293034 := ⟨by omega, by omega⟩
    have hnx : ∀ σ' v5 v6, Inv ((k : Int) + 1) σ' → lw_A p e s m #[Value.ref b] below meth c (172 + k + 1) (gx_z 172 + 6 * k + 6) (lw_Z below #[Value.ref b] s) X 1770 (lw_L (6 * (k : Int)) v5 v6) [] σ' := fun σ' v5 v6 I' => by
      have h9 := ih (k + 1) σ' v5 v6 (by omega) (by omega) (by rw [show ((k + 1 : Nat) : Int) = (k : Int) + 1 by omega]; exact I')
      rw [show 172 + (k + 1) = 172 + k + 1 by omega, show gx_z 172 + 6 * (k + 1) = gx_z 172 + 6 * k + 6 by omega, show 6 * ((k + 1 : Nat) : Int) = 6 * (k : Int) + 6 by omega] at h9
      refine lw_1 (w := []) (L' := lw_L (6 * (k : Int) + 6) v5 v6) (st' := []) (σ' := σ') hK hR1 q1 rfl ⟨⟨by omega, by omega⟩, rfl, rfl, rfl⟩ ?_
      exact lw_goto hK q2 (t := 23) (by decide) h9
    refine lw_1 (w := []) hK hR d7 rfl ⟨rfl, rfl, rfl⟩ ?_
    refine lw_1 (w := []) hK hR d8 rfl ⟨rfl, rfl, rfl⟩ ?_
    have e6 : (6 * (k : Int)) = ((6 * k : Nat) : Int) := by omega
    have h36 : lw_A p e s m #[Value.ref b] below meth c (172 + k) (gx_z 172 + 6 * k) (lw_Z below #[Value.ref b] s) X 36 (lw_L (6 * (k : Int)) w5 w6) [.inl ((6 * k : Nat) : Int), .inr (.inr 172)] σ := by
      refine lw_sld hK (by omega) d9 ?_
      refine lw_1 (w := []) hK hR d10 rfl ⟨rfl, rfl, rfl⟩ ?_
      refine lw_1 (w := []) hK hR d11 rfl ⟨rfl, rfl, rfl⟩ ?_
      refine sx_jtab (gx_Fx hK.1 hR) (pc := 40) (len := 196) (t := 1770) (ts := [236, 309, 334, 359, 396, 464, 501, 538, 576, 613, 650, 699, 724, 749, 774, 787, 800, 825, 862, 875, 936, 961, 986, 999, 1012, 1037, 1062, 1099, 1148, 1197, 1246, 1295, 1332, 1381, 1407, 1464, 1533, 1558, 1571, 1596, 1657, 1706, 1719, 1732, 1745]) lw_e40 (by decide) (by decide) (by decide) (fun _ => ?_) (fun j t hj _ => ?_)
      · obtain ⟨pp, P, A, W9, B, V, C, kp, z, nx, n9, g1, g2, tx, w, t⟩ := I.el
        exact lw_wide (by omega) (by omega) (hnx σ w5 w6 (t.fin w))
      · exact lw_case hK hR1 hk hfl hT2 hVx hWT I hnx j t hj
    rw [← e6] at h36
    exact h36
end LWT
