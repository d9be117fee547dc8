/-! THE LAW: look, and one turn of its loop -/
section LWR
variable {p : Program} {e : Env} {s : State} {m : MethodId} {args : Array Value} {below : List Frame} {meth : Method} {c : Code} {nc ns : Nat} {Q : State → Prop} {X : sx_X} {b Ln : Nat} {xs : Nat → Int32}
variable {w5 w6 : Option sx_V} {st : List sx_V} {σ : sx_S} {pc k a1 a2 : Nat}
theorem jT.out {k p : Int} {P : aP} {A : aM} {W : aW} {B : aM} {V : aW} {C : aC} {kp z nx n9 f1 f2 : Int} {tx : Int → Int} (t : jT k p P A W B V C kp z nx n9 f1 f2 tx σ) (w : jW k p P A W B V C kp z nx n9) {v : Int} : jT k p P A W B V C kp z nx n9 f1 f2 tx (sx_up σ 171 0 v) :=
  t.rr w (t.r.g.of (t.r.g.pt.up (by decide +kernel)) (fun a i z1 z2 => up_a (by omega)) (fun i z => up_a (by omega))) (fun a i q => up_n (by unfold kRr kEr at q; omega))
theorem lw_goto {L : sx_L} {off : Int} {t : Nat} (hK : lw_K p s m args meth c X b Ln xs) (hd : decode code pc = .ok (.goto off, 3)) (ht : (pc : Int) + off = (t : Int)) (h : lw_A p e s m args below meth c nc ns Q X t L st σ) : lw_A p e s m args below meth c nc ns Q X pc L st σ := fun ls H locs hG hO => lv_goto hK.1.1 hK.1.2.1 hd ht (h ls H locs hG hO)
theorem lw_wide {L : sx_L} {nc' ns' : Nat} (h1 : nc ≤ nc') (h2 : ns ≤ ns') (h : lw_A p e s m args below meth c nc' ns' Q X pc L st σ) : lw_A p e s m args below meth c nc ns Q X pc L st σ := fun ls H locs hG hO => W.widen h1 h2 (h ls H locs hG hO)
def lw_cL1 : List (Instr × Nat) := (.aload_n 1, 1) :: (lw_args 1 2 ++ ((.aload_n 3, 1) :: (.invokestatic 39, 3) :: (.istore 5, 2) :: (.aload_n 2, 1) :: (lw_args 1 2 ++ [(.invokevirtual 44, 3), (.istore 6, 2), (.aload_n 2, 1), (.invokevirtual 45, 3), (.iload 5, 2), (.if_icmp .eq 5, 3)])))
def lw_cL2 : List (Instr × Nat) := [(.iload 5, 2), (.ifCond .ne 15, 3), (.aload_n 3, 1), (.iconst 0, 1), (.laload, 1), (.iload 6, 2), (.i2l, 1), (.lcmp, 1), (.ifCond .eq 5, 3)]
theorem lw_dL1 : lw_dB lw_cL1 396 = true := by decide +kernel
theorem lw_dL2 : lw_dB lw_cL2 444 = true := by decide +kernel
theorem lw_dL3 : decode code 461 = .ok (.goto 1309, 3) := by decide +kernel
set_option maxHeartbeats 2000000 in
theorem lw_caseL (hK : lw_K p s m args meth c X b Ln xs) (hR : nc + 1 ≤ 601024 ∧ ns + 6 ≤ 7293034) (hk : 6 * k + 6 ≤ Ln) (hfl : X.1.flags = flags0) (hT2 : lk_T X a1 a2) (hVx : ∀ U : State, X.2.2.2.2.2 U → ct_V U) (I : Inv (k : Int) σ)
    (hnx : ∀ σ' v5 v6, Inv ((k : Int) + 1) σ' → lw_A p e s m args below meth c (nc + 1) (ns + 6) Q X 1770 (lw_L (6 * (k : Int)) v5 v6) [] σ') : lw_A p e s m args below meth c nc ns Q X 396 (lw_L (6 * (k : Int)) w5 w6) [] σ := by
  have hLn := hK.2.2.2.2
  have hd := lw_dL1
  unfold lw_cL1 at hd
  obtain ⟨d1, hd⟩ := lw_dB_c hd
  obtain ⟨da, hd⟩ := lw_dB_a hd
  rw [lw_as] at hd
  obtain ⟨d2, hd⟩ := lw_dB_c hd
  obtain ⟨d3, hd⟩ := lw_dB_c hd
  obtain ⟨d4, hd⟩ := lw_dB_c hd
  obtain ⟨d5, hd⟩ := lw_dB_c hd
  obtain ⟨db, hd⟩ := lw_dB_a hd
  rw [lw_as] at hd
  obtain ⟨d6, hd⟩ := lw_dB_c hd
  obtain ⟨d7, hd⟩ := lw_dB_c hd
  obtain ⟨d8, hd⟩ := lw_dB_c hd
  obtain ⟨d9, hd⟩ := lw_dB_c hd
  obtain ⟨d10, hd⟩ := lw_dB_c hd
  obtain ⟨d11, -⟩ := lw_dB_c hd
  have hd := lw_dL2
  unfold lw_cL2 at hd
  obtain ⟨f1, hd⟩ := lw_dB_c hd
  obtain ⟨f2, hd⟩ := lw_dB_c hd
  obtain ⟨f3, hd⟩ := lw_dB_c hd
  obtain ⟨f4, hd⟩ := lw_dB_c hd
  obtain ⟨f5, hd⟩ := lw_dB_c hd
  obtain ⟨f6, hd⟩ := lw_dB_c hd
  obtain ⟨f7, hd⟩ := lw_dB_c hd
  obtain ⟨f8, hd⟩ := lw_dB_c hd
  obtain ⟨f9, -⟩ := lw_dB_c hd
  have hR0 : nc ≤ 601024 ∧ ns ≤ 7293034 := ⟨by omega, by omega⟩
  have hst := hK.1.2.2.2.2.2.2.2.1
  obtain ⟨pp, P, A, W9, B, V, C, kp, z, nx, n9, g1, g2, tx, w, t⟩ := I.el
  have hM := c_ll (w := (xs (6 * k + 1)).toInt) (q := (xs (6 * k + 2)).toInt) hst hfl hT2 hVx w.p t.c.e2 t.c.g t.c.w w.wp (fLoo_1 w.wp w.ww (by omega))
  have h012 : (fLoo P W9 (xs (6 * k + 1)).toInt (xs (6 * k + 2)).toInt).2 = 0 ∨ (fLoo P W9 (xs (6 * k + 1)).toInt (xs (6 * k + 2)).toInt).2 = 1 ∨ (fLoo P W9 (xs (6 * k + 1)).toInt (xs (6 * k + 2)).toInt).2 = 2 := fLoo_2
  have hlook : ∀ (σ1 : sx_S) (R' : sx_R), jT (k : Int) pp P A W9 B V C kp z nx n9 g1 g2 tx σ1 → R' (some (.inl (fLoo P W9 (xs (6 * k + 1)).toInt (xs (6 * k + 2)).toInt).1)) shM (sx_up σ1 124 2 (fLoo P W9 (xs (6 * k + 1)).toInt (xs (6 * k + 2)).toInt).2) → sx_Run X 236 [.inr (.inr 124), .inl (xs (6 * k + 1)).toInt, .inl (xs (6 * k + 2)).toInt] shM σ1 R' := fun σ1 R' t1 h => by
    have t0 := t1.up2 w (v := 0)
    exact r_look rfl w.wp t0.r.g.pt t0.r.g.rp t0.r.w h
  generalize fLoo P W9 (xs (6 * k + 1)).toInt (xs (6 * k + 2)).toInt = r at hM h012 hlook
  have hr2 : sx_r32 r.2 := by rcases h012 with h | h | h <;> rw [h] <;> exact ⟨by decide, by decide⟩
  refine lw_1 (w := []) hK hR0 d1 rfl ⟨rfl, rfl, rfl⟩ ?_
  refine lw_pushN hK hR0 hk 2 1 _ _ (by omega) da ?_
  refine lw_1 (w := []) hK hR0 d2 rfl ⟨rfl, rfl, rfl⟩ ?_
  refine lw_callL hK hR hM hr2 d3 ?_
  have t1 : jT (k : Int) pp P A W9 B V C kp z nx n9 g1 g2 tx (if r.2 = 0 then sx_up σ 171 0 r.1 else σ) := by
    split
    · exact t.out w
    · exact t
  have e171 : r.2 = 0 → (if r.2 = 0 then sx_up σ 171 0 r.1 else σ) 171 0 = r.1 := fun h => by rw [if_pos h, up_s]
  generalize (if r.2 = 0 then sx_up σ 171 0 r.1 else σ) = σ1 at t1 e171
  refine lw_1 (w := []) (L' := lw_L (6 * (k : Int)) (some (.inl r.2)) w6) hK hR d4 rfl ⟨rfl, rfl, rfl⟩ ?_
  refine lw_1 (w := []) hK hR d5 rfl ⟨rfl, rfl, rfl⟩ ?_
  refine lw_pushN hK hR hk 2 1 _ _ (by omega) db ?_
  refine lw_call (ci := 12) (i := 236) hK hR d6 (lw_ck_ok (pl := 1935) (n := 3) (by decide +kernel)) (by decide +kernel) (by decide) rfl (by decide) (hlook σ1 (fun o _ σ2 => o = some (.inl r.1) ∧ σ2 = sx_up σ1 124 2 r.2) t1 ⟨rfl, rfl⟩) (fun o σ2 ho => ?_)
  obtain ⟨rfl, rfl⟩ := ho
  refine lw_1 (w := []) (L' := lw_L (6 * (k : Int)) (some (.inl r.2)) (some (.inl r.1))) hK hR d7 rfl ⟨rfl, rfl, rfl⟩ ?_
  refine lw_1 (w := []) hK hR d8 rfl ⟨rfl, rfl, rfl⟩ ?_
  refine lw_call (ci := 12) (i := 176) (vs := []) hK hR d9 (lw_ck_ok (pl := 1797) (n := 1) (by decide +kernel)) (by decide +kernel) (by decide) rfl (by decide) (r_thrown (Q := fun o _ σ2 => o = some (.inl r.2) ∧ σ2 = sx_up σ1 124 2 r.2) ⟨by rw [up_s], rfl⟩) (fun o σ2 ho => ?_)
  obtain ⟨rfl, rfl⟩ := ho
  refine lw_1 (w := []) hK hR d10 rfl ⟨rfl, rfl, rfl⟩ ?_
  have hF1 := gx_Fx hK.1 hR
  have tf := t1.up2 w (v := r.2)
  refine sx_jcmp hF1 (cc := .eq) (off := 5) (t := 444) d11 (by decide) (fun _ => ?_) (fun z => absurd rfl z)
  refine lw_1 (w := []) hK hR f1 rfl ⟨rfl, rfl, rfl⟩ ?_
  have h461 : lw_A p e s m args below meth c (nc + 1) (ns + 6) Q X 461 (lw_L (6 * (k : Int)) (some (.inl r.2)) (some (.inl r.1))) [] (sx_up σ1 124 2 r.2) := lw_goto hK lw_dL3 (t := 1770) (by decide) (hnx _ _ _ (tf.fin w))
  refine sx_jif hF1 (cc := .ne) (off := 15) (t := 461) f2 (by decide) (fun _ => h461) (fun hz => ?_)
  have hz : r.2 = 0 := Classical.not_not.mp hz
  refine lw_1 (w := []) hK hR f3 rfl ⟨rfl, rfl, rfl⟩ ?_
  refine lw_1 (w := []) hK hR f4 rfl ⟨rfl, rfl, rfl⟩ ?_
  refine lw_1 (w := []) (st' := [.inr (.inl r.1)]) (L' := lw_L (6 * (k : Int)) (some (.inl r.2)) (some (.inl r.1))) (σ' := sx_up σ1 124 2 r.2) hK hR f5 rfl ⟨sx_ixI (show sx_lk shM 171 = (2, 1) from rfl) (by decide) (by decide), rfl, by
    show ([.inr (.inl (sx_up σ1 124 2 r.2 171 0))] : List sx_V) = _
    rw [up_a (by decide), e171 hz], rfl⟩ ?_
  refine lw_1 (w := []) hK hR f6 rfl ⟨rfl, rfl, rfl⟩ ?_
  refine lw_1 (w := []) hK hR f7 rfl ⟨rfl, rfl, rfl⟩ ?_
  refine lw_1 (w := []) (st' := [.inl 0]) (L' := lw_L (6 * (k : Int)) (some (.inl r.2)) (some (.inl r.1))) (σ' := sx_up σ1 124 2 r.2) hK hR f8 rfl ⟨rfl, by
    show ([.inl (sx_cmp r.1 r.1)] : List sx_V) = _
    unfold sx_cmp
    rw [if_neg (by omega), if_pos rfl], rfl⟩ ?_
  exact sx_jif hF1 (cc := .eq) (off := 5) (t := 461) f9 (by decide) (fun _ => h461) (fun z => absurd rfl z)
end LWR
