/-! THE LAW: one turn, and its loop -/
section LWS
variable {p : Program} {e : Env} {s : State} {m : MethodId} {args : Array Value} {below : List Frame} {meth : Method} {c : Code} {nc ns : Nat} {Q : State → Prop} {X : sx_X} {b Ln : Nat} {xs : Nat → Int32}
variable {w5 w6 : Option sx_V} {st : List sx_V} {σ : sx_S} {pc k a1 a2 : Nat}
theorem lw_x32 (x : Int32) : x.toInt ≤ 2147483647 := (sx_oki x).2
set_option maxHeartbeats 4000000 in
theorem lw_case (hK : lw_K p s m args meth c X b Ln xs) (hR : nc + 1 ≤ 601024 ∧ ns + 6 ≤ 7293034) (hk : 6 * k + 6 ≤ Ln) (hfl : X.1.flags = flags0) (hT2 : lk_T X a1 a2) (hVx : ∀ U : State, X.2.2.2.2.2 U → ct_V U) (hWT : sx_WT X) (I : Inv (k : Int) σ)
    (hnx : ∀ σ' v5 v6, Inv ((k : Int) + 1) σ' → lw_A p e s m args below meth c (nc + 1) (ns + 6) Q X 1770 (lw_L (6 * (k : Int)) v5 v6) [] σ') (j t : Nat) (ht : ([236, 309, 334, 359, 396, 464, 501, 538, 576, 613, 650, 699, 724, 749, 774, 787, 800, 825, 862, 875, 936, 961, 986, 999, 1012, 1037, 1062, 1099, 1148, 1197, 1246, 1295, 1332, 1381, 1407, 1464, 1533, 1558, 1571, 1596, 1657, 1706, 1719, 1732, 1745] : List Nat)[j]? = some t) : lw_A p e s m args below meth c nc ns Q X t (lw_L (6 * (k : Int)) w5 w6) [] σ := by
  have hLn := hK.2.2.2.2
  have hR0 : nc ≤ 601024 ∧ ns ≤ 7293034 := ⟨by omega, by omega⟩
  have h1000 : (k : Int) ≤ 1000 := by omega
  have hn0 : ∀ σ', Inv ((k : Int) + 1) σ' → lw_A p e s m args below meth c nc ns Q X 1770 (lw_L (6 * (k : Int)) w5 w6) [] σ' := fun σ' h => lw_wide (by omega) (by omega) (hnx σ' w5 w6 h)
  match j, ht with
  | 0, ht => cases ht; exact lw_caseI hK hR0 hk (n := 5) (by decide) lw_d0 (by decide) lw_k0.1 lw_k0.2 (by decide +kernel) (by decide +kernel) (j_feed I) hn0
  | 1, ht => cases ht; exact lw_caseI hK hR0 hk (n := 1) (by decide) lw_d1 (by decide) lw_k1.1 lw_k1.2 (by decide +kernel) (by decide +kernel) (j_text hWT I) hn0
  | 2, ht => cases ht; exact lw_caseI hK hR0 hk (n := 1) (by decide) lw_d2 (by decide) lw_k2.1 lw_k2.2 (by decide +kernel) (by decide +kernel) (j_fault I) hn0
  | 3, ht => cases ht; exact lw_caseI hK hR0 hk (n := 2) (by decide) lw_d3 (by decide) lw_k3.1 lw_k3.2 (by decide +kernel) (by decide +kernel) (j_named I) hn0
  | 4, ht => cases ht; exact lw_caseL hK hR hk hfl hT2 hVx I hnx
  | 5, ht => cases ht; exact lw_caseI hK hR0 hk (n := 2) (by decide) lw_d5 (by decide) lw_k5.1 lw_k5.2 (by decide +kernel) (by decide +kernel) (j_cell I) hn0
  | 6, ht => cases ht; exact lw_caseI hK hR0 hk (n := 2) (by decide) lw_d6 (by decide) lw_k6.1 lw_k6.2 (by decide +kernel) (by decide +kernel) (j_mark I) hn0
  | 7, ht => cases ht; exact lw_caseJ hK hR0 hk (n := 2) (by decide) lw_d7 (by decide) lw_k7.1 lw_k7.2 (by decide +kernel) (by decide +kernel) (j_law I) hn0
  | 8, ht => cases ht; exact lw_caseI hK hR0 hk (n := 2) (by decide) lw_d8 (by decide) lw_k8.1 lw_k8.2 (by decide +kernel) (by decide +kernel) (j_step I h1000) hn0
  | 9, ht => cases ht; exact lw_caseI hK hR0 hk (n := 2) (by decide) lw_d9 (by decide) lw_k9.1 lw_k9.2 (by decide +kernel) (by decide +kernel) (j_boots I) hn0
  | 10, ht => cases ht; exact lw_caseI hK hR0 hk (n := 3) (by decide) lw_d10 (by decide) lw_k10.1 lw_k10.2 (by decide +kernel) (by decide +kernel) (j_fox I) hn0
  | 11, ht => cases ht; exact lw_caseI hK hR0 hk (n := 1) (by decide) lw_d11 (by decide) lw_k11.1 lw_k11.2 (by decide +kernel) (by decide +kernel) (j_hours I) hn0
  | 12, ht => cases ht; exact lw_caseI hK hR0 hk (n := 1) (by decide) lw_d12 (by decide) lw_k12.1 lw_k12.2 (by decide +kernel) (by decide +kernel) (j_fall I h1000) hn0
  | 13, ht => cases ht; exact lw_caseI hK hR0 hk (n := 1) (by decide) lw_d13 (by decide) lw_k13.1 lw_k13.2 (by decide +kernel) (by decide +kernel) (j_thaw I h1000) hn0
  | 14, ht => cases ht; exact lw_caseI hK hR0 hk (n := 0) (by decide) lw_d14 (by decide) lw_k14.1 lw_k14.2 (by decide +kernel) (by decide +kernel) (j_night I h1000) hn0
  | 15, ht => cases ht; exact lw_caseI hK hR0 hk (n := 0) (by decide) lw_d15 (by decide) lw_k15.1 lw_k15.2 (by decide +kernel) (by decide +kernel) (j_winter I h1000) hn0
  | 16, ht => cases ht; exact lw_caseI hK hR0 hk (n := 1) (by decide) lw_d16 (by decide) lw_k16.1 lw_k16.2 (by decide +kernel) (by decide +kernel) (j_rd I) hn0
  | 17, ht => cases ht; exact lw_caseI hK hR0 hk (n := 2) (by decide) lw_d17 (by decide) lw_k17.1 lw_k17.2 (by decide +kernel) (by decide +kernel) (j_score I) hn0
  | 18, ht => cases ht; exact lw_caseI hK hR0 hk (n := 0) (by decide) lw_d18 (by decide) lw_k18.1 lw_k18.2 (by decide +kernel) (by decide +kernel) (j_ahead I h1000) hn0
  | 19, ht => cases ht; exact lw_caseI hK hR0 hk (n := 4) (by decide) lw_d19 (by decide) lw_k19.1 lw_k19.2 (by decide +kernel) (by decide +kernel) (j_claim I) hn0
  | 20, ht => cases ht; exact lw_caseI hK hR0 hk (n := 1) (by decide) lw_d20 (by decide) lw_k20.1 lw_k20.2 (by decide +kernel) (by decide +kernel) (j_strike I) hn0
  | 21, ht => cases ht; exact lw_caseI hK hR0 hk (n := 1) (by decide) lw_d21 (by decide) lw_k21.1 lw_k21.2 (by decide +kernel) (by decide +kernel) (j_known I) hn0
  | 22, ht => cases ht; exact lw_caseI hK hR0 hk (n := 0) (by decide) lw_d22 (by decide) lw_k22.1 lw_k22.2 (by decide +kernel) (by decide +kernel) (j_judged I) hn0
  | 23, ht => cases ht; exact lw_caseI hK hR0 hk (n := 0) (by decide) lw_d23 (by decide) lw_k23.1 lw_k23.2 (by decide +kernel) (by decide +kernel) (j_forged I) hn0
  | 24, ht => cases ht; exact lw_caseI hK hR0 hk (n := 1) (by decide) lw_d24 (by decide) lw_k24.1 lw_k24.2 (by decide +kernel) (by decide +kernel) (j_forgery I (lw_x32 _)) hn0
  | 25, ht => cases ht; exact lw_caseI hK hR0 hk (n := 1) (by decide) lw_d25 (by decide) lw_k25.1 lw_k25.2 (by decide +kernel) (by decide +kernel) (j_trail I) hn0
  | 26, ht => cases ht; exact lw_caseI hK hR0 hk (n := 2) (by decide) lw_d26 (by decide) lw_k26.1 lw_k26.2 (by decide +kernel) (by decide +kernel) (j_trailed I (lw_x32 _)) hn0
  | 27, ht => cases ht; exact lw_caseI hK hR0 hk (n := 3) (by decide) lw_d27 (by decide) lw_k27.1 lw_k27.2 (by decide +kernel) (by decide +kernel) (j_quiet I) hn0
  | 28, ht => cases ht; exact lw_caseI hK hR0 hk (n := 3) (by decide) lw_d28 (by decide) lw_k28.1 lw_k28.2 (by decide +kernel) (by decide +kernel) (j_hushed I) hn0
  | 29, ht => cases ht; exact lw_caseI hK hR0 hk (n := 3) (by decide) lw_d29 (by decide) lw_k29.1 lw_k29.2 (by decide +kernel) (by decide +kernel) (j_covered I) hn0
  | 30, ht => cases ht; exact lw_caseI hK hR0 hk (n := 3) (by decide) lw_d30 (by decide) lw_k30.1 lw_k30.2 (by decide +kernel) (by decide +kernel) (j_best I) hn0
  | 31, ht => cases ht; exact lw_caseI hK hR0 hk (n := 2) (by decide) lw_d31 (by decide) lw_k31.1 lw_k31.2 (by decide +kernel) (by decide +kernel) (j_rests I) hn0
  | 32, ht => cases ht; exact lw_caseI hK hR0 hk (n := 3) (by decide) lw_d32 (by decide) lw_k32.1 lw_k32.2 (by decide +kernel) (by decide +kernel) (j_rest I (lw_x32 _)) hn0
  | 33, ht => cases ht; exact lw_caseJ hK hR0 hk (n := 1) (by decide) lw_d33 (by decide) lw_k33.1 lw_k33.2 (by decide +kernel) (by decide +kernel) (j_sees I) hn0
  | 34, ht => cases ht; exact lw_caseU hK hR0 hk (n := 0) (by decide) lw_d34 (by decide) lw_k34.1 lw_k34.2 (by decide +kernel) (by decide +kernel) (j_umpires I (sx_okj _)) hn0
  | 35, ht => cases ht; exact lw_caseU hK hR0 hk (n := 1) (by decide) lw_d35 (by decide) lw_k35.1 lw_k35.2 (by decide +kernel) (by decide +kernel) (j_umpire I (sx_okj _)) hn0
  | 36, ht => cases ht; exact lw_caseI hK hR0 hk (n := 1) (by decide) lw_d36 (by decide) lw_k36.1 lw_k36.2 (by decide +kernel) (by decide +kernel) (j_below I h1000) hn0
  | 37, ht => cases ht; exact lw_caseI hK hR0 hk (n := 0) (by decide) lw_d37 (by decide) lw_k37.1 lw_k37.2 (by decide +kernel) (by decide +kernel) (j_layers I) hn0
  | 38, ht => cases ht; exact lw_caseI hK hR0 hk (n := 1) (by decide) lw_d38 (by decide) lw_k38.1 lw_k38.2 (by decide +kernel) (by decide +kernel) (j_layer I (lw_x32 _)) hn0
  | 39, ht => cases ht; exact lw_caseI hK hR0 hk (n := 4) (by decide) lw_d39 (by decide) lw_k39.1 lw_k39.2 (by decide +kernel) (by decide +kernel) (j_chance I h1000 (lw_x32 _)) hn0
  | 40, ht => cases ht; exact lw_caseI hK hR0 hk (n := 3) (by decide) lw_d40 (by decide) lw_k40.1 lw_k40.2 (by decide +kernel) (by decide +kernel) (j_tried I h1000) hn0
  | 41, ht => cases ht; exact lw_caseI hK hR0 hk (n := 0) (by decide) lw_d41 (by decide) lw_k41.1 lw_k41.2 (by decide +kernel) (by decide +kernel) (j_undo I h1000) hn0
  | 42, ht => cases ht; exact lw_caseI hK hR0 hk (n := 0) (by decide) lw_d42 (by decide) lw_k42.1 lw_k42.2 (by decide +kernel) (by decide +kernel) (j_keep I) hn0
  | 43, ht => cases ht; exact lw_caseI hK hR0 hk (n := 0) (by decide) lw_d43 (by decide) lw_k43.1 lw_k43.2 (by decide +kernel) (by decide +kernel) (j_back I) hn0
  | 44, ht => cases ht; exact lw_caseI hK hR0 hk (n := 1) (by decide) lw_d44 (by decide) lw_k44.1 lw_k44.2 (by decide +kernel) (by decide +kernel) (j_count I) hn0
  | j + 45, ht => simp at ht
end LWS
