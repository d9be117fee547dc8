/-! THE REFERENCE'S CONSTRUCTOR: its code checked, piece by piece -/
theorem gx_okB_app {own : Nat} {mt : sx_Mt} : ∀ {a b : List sx_I} {pc : Nat}, gx_okB own mt a pc = true → gx_okB own mt b (pc + gx_ln a) = true → gx_okB own mt (a ++ b) pc = true
  | [], b, pc, _, h => by simpa [gx_ln] using h
  | I :: a, b, pc, h, h2 => by
    simp only [gx_okB, List.cons_append, Bool.and_eq_true] at h ⊢
    refine ⟨h.1, h.2.1, gx_okB_app h.2.2 ?_⟩
    have e : pc + gx_ln (I :: a) = pc + I.1 + gx_ln a := by
      show pc + (I.1 + gx_ln a) = _
      omega
    rw [← e]
    exact h2
set_option maxRecDepth 20000 in
theorem gI175_0_ok : gx_okB 12 (sx_M 175) gI175_0 0 = true := by decide +kernel
theorem gI175_0_ln : gx_ln gI175_0 = 38 := by decide +kernel
set_option maxRecDepth 20000 in
theorem gI175_1_ok : gx_okB 12 (sx_M 175) gI175_1 38 = true := by decide +kernel
theorem gI175_1_ln : gx_ln gI175_1 = 35 := by decide +kernel
set_option maxRecDepth 20000 in
theorem gI175_2_ok : gx_okB 12 (sx_M 175) gI175_2 73 = true := by decide +kernel
theorem gI175_2_ln : gx_ln gI175_2 = 38 := by decide +kernel
set_option maxRecDepth 20000 in
theorem gI175_3_ok : gx_okB 12 (sx_M 175) gI175_3 111 = true := by decide +kernel
theorem gI175_3_ln : gx_ln gI175_3 = 38 := by decide +kernel
set_option maxRecDepth 20000 in
theorem gI175_4_ok : gx_okB 12 (sx_M 175) gI175_4 149 = true := by decide +kernel
theorem gI175_4_ln : gx_ln gI175_4 = 37 := by decide +kernel
set_option maxRecDepth 20000 in
theorem gI175_5_ok : gx_okB 12 (sx_M 175) gI175_5 186 = true := by decide +kernel
theorem gI175_5_ln : gx_ln gI175_5 = 37 := by decide +kernel
set_option maxRecDepth 20000 in
theorem gI175_6_ok : gx_okB 12 (sx_M 175) gI175_6 223 = true := by decide +kernel
theorem gI175_6_ln : gx_ln gI175_6 = 38 := by decide +kernel
set_option maxRecDepth 20000 in
theorem gI175_7_ok : gx_okB 12 (sx_M 175) gI175_7 261 = true := by decide +kernel
theorem gI175_7_ln : gx_ln gI175_7 = 38 := by decide +kernel
set_option maxRecDepth 20000 in
theorem gI175_8_ok : gx_okB 12 (sx_M 175) gI175_8 299 = true := by decide +kernel
theorem gI175_8_ln : gx_ln gI175_8 = 37 := by decide +kernel
set_option maxRecDepth 20000 in
theorem gI175_9_ok : gx_okB 12 (sx_M 175) gI175_9 336 = true := by decide +kernel
theorem gI175_9_ln : gx_ln gI175_9 = 37 := by decide +kernel
set_option maxRecDepth 20000 in
theorem gI175_10_ok : gx_okB 12 (sx_M 175) gI175_10 373 = true := by decide +kernel
theorem gI175_10_ln : gx_ln gI175_10 = 38 := by decide +kernel
set_option maxRecDepth 20000 in
theorem gI175_11_ok : gx_okB 12 (sx_M 175) gI175_11 411 = true := by decide +kernel
theorem gI175_11_ln : gx_ln gI175_11 = 38 := by decide +kernel
set_option maxRecDepth 20000 in
theorem gI175_12_ok : gx_okB 12 (sx_M 175) gI175_12 449 = true := by decide +kernel
theorem gI175_12_ln : gx_ln gI175_12 = 37 := by decide +kernel
set_option maxRecDepth 20000 in
theorem gI175_13_ok : gx_okB 12 (sx_M 175) gI175_13 486 = true := by decide +kernel
theorem gI175_13_ln : gx_ln gI175_13 = 37 := by decide +kernel
set_option maxRecDepth 20000 in
theorem gI175_14_ok : gx_okB 12 (sx_M 175) gI175_14 523 = true := by decide +kernel
theorem gI175_14_ln : gx_ln gI175_14 = 38 := by decide +kernel
set_option maxRecDepth 20000 in
theorem gI175_15_ok : gx_okB 12 (sx_M 175) gI175_15 561 = true := by decide +kernel
theorem gI175_15_ln : gx_ln gI175_15 = 38 := by decide +kernel
set_option maxRecDepth 20000 in
theorem gI175_16_ok : gx_okB 12 (sx_M 175) gI175_16 599 = true := by decide +kernel
theorem gI175_16_ln : gx_ln gI175_16 = 51 := by decide +kernel
set_option maxRecDepth 20000 in
theorem gI175_17_ok : gx_okB 12 (sx_M 175) gI175_17 650 = true := by decide +kernel
theorem gI175_17_ln : gx_ln gI175_17 = 49 := by decide +kernel
set_option maxRecDepth 20000 in
theorem gI175_18_ok : gx_okB 12 (sx_M 175) gI175_18 699 = true := by decide +kernel
theorem gI175_18_ln : gx_ln gI175_18 = 53 := by decide +kernel
set_option maxRecDepth 20000 in
theorem gI175_19_ok : gx_okB 12 (sx_M 175) gI175_19 752 = true := by decide +kernel
theorem gI175_19_ln : gx_ln gI175_19 = 56 := by decide +kernel
set_option maxRecDepth 20000 in
theorem gI175_20_ok : gx_okB 12 (sx_M 175) gI175_20 808 = true := by decide +kernel
theorem gI175_20_ln : gx_ln gI175_20 = 49 := by decide +kernel
set_option maxRecDepth 20000 in
theorem gI175_21_ok : gx_okB 12 (sx_M 175) gI175_21 857 = true := by decide +kernel
theorem gI175_21_ln : gx_ln gI175_21 = 45 := by decide +kernel
set_option maxRecDepth 20000 in
theorem gI175_22_ok : gx_okB 12 (sx_M 175) gI175_22 902 = true := by decide +kernel
theorem gI175_22_ln : gx_ln gI175_22 = 51 := by decide +kernel
set_option maxRecDepth 20000 in
theorem gI175_23_ok : gx_okB 12 (sx_M 175) gI175_23 953 = true := by decide +kernel
theorem gI175_23_ln : gx_ln gI175_23 = 10 := by decide +kernel
theorem gI175_ok : gx_okB 12 (sx_M 175) gI175 0 = true := (gx_okB_app gI175_0_ok (by rw [gI175_0_ln]; exact (gx_okB_app gI175_1_ok (by rw [gI175_1_ln]; exact (gx_okB_app gI175_2_ok (by rw [gI175_2_ln]; exact (gx_okB_app gI175_3_ok (by rw [gI175_3_ln]; exact (gx_okB_app gI175_4_ok (by rw [gI175_4_ln]; exact (gx_okB_app gI175_5_ok (by rw [gI175_5_ln]; exact (gx_okB_app gI175_6_ok (by rw [gI175_6_ln]; exact (gx_okB_app gI175_7_ok (by rw [gI175_7_ln]; exact (gx_okB_app gI175_8_ok (by rw [gI175_8_ln]; exact (gx_okB_app gI175_9_ok (by rw [gI175_9_ln]; exact (gx_okB_app gI175_10_ok (by rw [gI175_10_ln]; exact (gx_okB_app gI175_11_ok (by rw [gI175_11_ln]; exact (gx_okB_app gI175_12_ok (by rw [gI175_12_ln]; exact (gx_okB_app gI175_13_ok (by rw [gI175_13_ln]; exact (gx_okB_app gI175_14_ok (by rw [gI175_14_ln]; exact (gx_okB_app gI175_15_ok (by rw [gI175_15_ln]; exact (gx_okB_app gI175_16_ok (by rw [gI175_16_ln]; exact (gx_okB_app gI175_17_ok (by rw [gI175_17_ln]; exact (gx_okB_app gI175_18_ok (by rw [gI175_18_ln]; exact (gx_okB_app gI175_19_ok (by rw [gI175_19_ln]; exact (gx_okB_app gI175_20_ok (by rw [gI175_20_ln]; exact (gx_okB_app gI175_21_ok (by rw [gI175_21_ln]; exact (gx_okB_app gI175_22_ok (by rw [gI175_22_ln]; exact gI175_23_ok))))))))))))))))))))))))))))))))))))))))))))))
