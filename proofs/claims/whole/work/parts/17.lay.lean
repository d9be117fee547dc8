/-! THE LAYOUT: what each cell is once both objects are made (by wip/whole/genlay.py); the references that never change -/
def shM : sx_H := [(0, 11), (3, 700), (0, 5), (1, 48), (1, 48), (1, 3), (1, 5), (1, 5), (1, 5), (1, 5), (1, 5), (0, 1), (1, 24), (1, 64), (1, 64), (1, 3), (1, 3), (0, 5), (1, 48), (1, 48), (1, 3), (1, 5), (1, 5), (1, 5), (1, 5), (1, 5), (0, 1), (1, 24), (1, 64), (1, 64), (1, 3), (1, 3), (0, 10), (0, 2), (3, 0), (1, 3), (1, 72), (0, 6), (2, 7), (2, 64), (0, 9), (1, 5), (1, 5), (1, 5), (0, 4), (1, 90), (1, 90), (1, 90), (1, 90), (1, 90), (1, 90), (1, 90), (1, 90), (1, 3), (1, 48), (0, 9), (1, 5), (1, 5), (1, 5), (0, 4), (1, 90), (1, 90), (1, 90), (1, 90), (1, 90), (1, 90), (1, 90), (1, 90), (1, 3), (1, 48), (0, 9), (1, 5), (1, 5), (1, 5), (0, 4), (1, 90), (1, 90), (1, 90), (1, 90), (1, 90), (1, 90), (1, 90), (1, 90), (1, 3), (1, 48), (0, 3), (1, 20), (1, 20), (1, 20), (5, 20), (1, 8), (1, 8), (1, 8), (1, 8), (1, 8), (1, 8), (1, 8), (1, 8), (1, 8), (1, 8), (1, 8), (1, 8), (1, 8), (1, 8), (1, 8), (1, 8), (1, 8), (1, 8), (1, 8), (1, 8), (0, 0), (1, 24), (1, 24), (1, 24), (1, 24), (1, 24), (1, 24), (0, 7), (1, 48), (1, 48), (1, 48), (0, 8), (1, 3), (2, 48), (0, 12), (1, 700), (1, 97), (1, 96), (1, 96), (1, 6), (1, 10), (1, 10), (1, 10), (1, 10), (1, 10), (1, 48), (4, 6), (1, 6), (1, 6), (1, 128), (1, 128), (1, 128), (1, 96), (1, 96), (2, 7), (2, 64), (1, 180), (1, 180), (1, 180), (1, 180), (1, 180), (1, 180), (1, 180), (4, 180), (1, 2), (1, 2), (1, 2), (1, 5), (1, 5), (1, 5), (1, 3), (1, 96), (4, 24), (1, 48), (1, 48), (2, 48), (1, 3), (1, 2120), (1, 16), (1, 720), (1, 3), (2, 1)]
def ptL : List (Int × Int × Int) := [(0, 0, 1), (0, 4, 32), (0, 5, 37), (0, 6, 40), (0, 7, 55), (0, 8, 70), (0, 10, 85), (0, 11, 110), (0, 12, 117), (0, 13, 121), (2, 2, 3), (2, 3, 4), (2, 5, 5), (2, 7, 6), (2, 8, 7), (2, 9, 8), (2, 10, 9), (2, 11, 10), (2, 12, 11), (2, 15, 13), (2, 16, 14), (2, 17, 15), (2, 18, 16), (11, 0, 12), (17, 2, 18), (17, 3, 19), (17, 5, 20), (17, 7, 21), (17, 8, 22), (17, 9, 23), (17, 10, 24), (17, 11, 25), (17, 12, 26), (17, 15, 28), (17, 16, 29), (17, 17, 30), (17, 18, 31), (26, 0, 27), (32, 3, 33), (32, 5, 35), (32, 10, 36), (37, 0, 38), (37, 1, 39), (40, 0, 37), (40, 2, 41), (40, 3, 42), (40, 4, 43), (40, 5, 44), (40, 6, 53), (40, 11, 54), (44, 1, 45), (44, 2, 46), (44, 3, 47), (44, 4, 48), (44, 5, 49), (44, 6, 50), (44, 7, 51), (44, 8, 52), (55, 0, 37), (55, 2, 56), (55, 3, 57), (55, 4, 58), (55, 5, 59), (55, 6, 68), (55, 11, 69), (59, 1, 60), (59, 2, 61), (59, 3, 62), (59, 4, 63), (59, 5, 64), (59, 6, 65), (59, 7, 66), (59, 8, 67), (70, 0, 37), (70, 2, 71), (70, 3, 72), (70, 4, 73), (70, 5, 74), (70, 6, 83), (70, 11, 84), (74, 1, 75), (74, 2, 76), (74, 3, 77), (74, 4, 78), (74, 5, 79), (74, 6, 80), (74, 7, 81), (74, 8, 82), (85, 2, 86), (85, 3, 87), (85, 4, 88), (85, 5, 89), (89, 0, 90), (89, 1, 91), (89, 2, 92), (89, 3, 93), (89, 4, 94), (89, 5, 95), (89, 6, 96), (89, 7, 97), (89, 8, 98), (89, 9, 99), (89, 10, 100), (89, 11, 101), (89, 12, 102), (89, 13, 103), (89, 14, 104), (89, 15, 105), (89, 16, 106), (89, 17, 107), (89, 18, 108), (89, 19, 109), (110, 2, 111), (110, 3, 112), (110, 4, 113), (110, 5, 114), (110, 6, 115), (110, 7, 116), (117, 2, 118), (117, 3, 119), (117, 4, 120), (121, 0, 122), (121, 1, 123), (124, 0, 125), (124, 3, 126), (124, 30, 127), (124, 31, 128), (124, 32, 129), (124, 33, 130), (124, 34, 131), (124, 35, 132), (124, 36, 133), (124, 37, 134), (124, 38, 135), (124, 39, 136), (124, 40, 137), (124, 41, 138), (124, 42, 139), (124, 43, 140), (124, 44, 141), (124, 46, 142), (124, 47, 143), (124, 54, 144), (124, 55, 145), (124, 57, 146), (124, 58, 147), (124, 59, 148), (124, 60, 149), (124, 61, 150), (124, 62, 151), (124, 63, 152), (124, 64, 153), (124, 65, 154), (124, 66, 155), (124, 67, 156), (124, 68, 157), (124, 69, 158), (124, 70, 159), (124, 71, 160), (124, 76, 161), (124, 77, 162), (124, 78, 163), (124, 79, 164), (124, 80, 165), (124, 82, 166), (124, 84, 167), (124, 86, 168), (124, 87, 169), (124, 88, 170)]
def PT (σ : sx_S) : Prop := ∀ q ∈ ptL, σ q.1 q.2.1 = q.2.2
theorem pt_0_0 {σ : sx_S} (h : PT σ) : σ 0 0 = 1 := h (0, 0, 1) (List.mem_of_getElem? (i := 0) rfl)
theorem pt_0_4 {σ : sx_S} (h : PT σ) : σ 0 4 = 32 := h (0, 4, 32) (List.mem_of_getElem? (i := 1) rfl)
theorem pt_0_5 {σ : sx_S} (h : PT σ) : σ 0 5 = 37 := h (0, 5, 37) (List.mem_of_getElem? (i := 2) rfl)
theorem pt_0_6 {σ : sx_S} (h : PT σ) : σ 0 6 = 40 := h (0, 6, 40) (List.mem_of_getElem? (i := 3) rfl)
theorem pt_0_7 {σ : sx_S} (h : PT σ) : σ 0 7 = 55 := h (0, 7, 55) (List.mem_of_getElem? (i := 4) rfl)
theorem pt_0_8 {σ : sx_S} (h : PT σ) : σ 0 8 = 70 := h (0, 8, 70) (List.mem_of_getElem? (i := 5) rfl)
theorem pt_0_10 {σ : sx_S} (h : PT σ) : σ 0 10 = 85 := h (0, 10, 85) (List.mem_of_getElem? (i := 6) rfl)
theorem pt_0_11 {σ : sx_S} (h : PT σ) : σ 0 11 = 110 := h (0, 11, 110) (List.mem_of_getElem? (i := 7) rfl)
theorem pt_0_12 {σ : sx_S} (h : PT σ) : σ 0 12 = 117 := h (0, 12, 117) (List.mem_of_getElem? (i := 8) rfl)
theorem pt_0_13 {σ : sx_S} (h : PT σ) : σ 0 13 = 121 := h (0, 13, 121) (List.mem_of_getElem? (i := 9) rfl)
theorem pt_2_2 {σ : sx_S} (h : PT σ) : σ 2 2 = 3 := h (2, 2, 3) (List.mem_of_getElem? (i := 10) rfl)
theorem pt_2_3 {σ : sx_S} (h : PT σ) : σ 2 3 = 4 := h (2, 3, 4) (List.mem_of_getElem? (i := 11) rfl)
theorem pt_2_5 {σ : sx_S} (h : PT σ) : σ 2 5 = 5 := h (2, 5, 5) (List.mem_of_getElem? (i := 12) rfl)
theorem pt_2_7 {σ : sx_S} (h : PT σ) : σ 2 7 = 6 := h (2, 7, 6) (List.mem_of_getElem? (i := 13) rfl)
theorem pt_2_8 {σ : sx_S} (h : PT σ) : σ 2 8 = 7 := h (2, 8, 7) (List.mem_of_getElem? (i := 14) rfl)
theorem pt_2_9 {σ : sx_S} (h : PT σ) : σ 2 9 = 8 := h (2, 9, 8) (List.mem_of_getElem? (i := 15) rfl)
theorem pt_2_10 {σ : sx_S} (h : PT σ) : σ 2 10 = 9 := h (2, 10, 9) (List.mem_of_getElem? (i := 16) rfl)
theorem pt_2_11 {σ : sx_S} (h : PT σ) : σ 2 11 = 10 := h (2, 11, 10) (List.mem_of_getElem? (i := 17) rfl)
theorem pt_2_12 {σ : sx_S} (h : PT σ) : σ 2 12 = 11 := h (2, 12, 11) (List.mem_of_getElem? (i := 18) rfl)
theorem pt_2_15 {σ : sx_S} (h : PT σ) : σ 2 15 = 13 := h (2, 15, 13) (List.mem_of_getElem? (i := 19) rfl)
theorem pt_2_16 {σ : sx_S} (h : PT σ) : σ 2 16 = 14 := h (2, 16, 14) (List.mem_of_getElem? (i := 20) rfl)
theorem pt_2_17 {σ : sx_S} (h : PT σ) : σ 2 17 = 15 := h (2, 17, 15) (List.mem_of_getElem? (i := 21) rfl)
theorem pt_2_18 {σ : sx_S} (h : PT σ) : σ 2 18 = 16 := h (2, 18, 16) (List.mem_of_getElem? (i := 22) rfl)
theorem pt_11_0 {σ : sx_S} (h : PT σ) : σ 11 0 = 12 := h (11, 0, 12) (List.mem_of_getElem? (i := 23) rfl)
theorem pt_17_2 {σ : sx_S} (h : PT σ) : σ 17 2 = 18 := h (17, 2, 18) (List.mem_of_getElem? (i := 24) rfl)
theorem pt_17_3 {σ : sx_S} (h : PT σ) : σ 17 3 = 19 := h (17, 3, 19) (List.mem_of_getElem? (i := 25) rfl)
theorem pt_17_5 {σ : sx_S} (h : PT σ) : σ 17 5 = 20 := h (17, 5, 20) (List.mem_of_getElem? (i := 26) rfl)
theorem pt_17_7 {σ : sx_S} (h : PT σ) : σ 17 7 = 21 := h (17, 7, 21) (List.mem_of_getElem? (i := 27) rfl)
theorem pt_17_8 {σ : sx_S} (h : PT σ) : σ 17 8 = 22 := h (17, 8, 22) (List.mem_of_getElem? (i := 28) rfl)
theorem pt_17_9 {σ : sx_S} (h : PT σ) : σ 17 9 = 23 := h (17, 9, 23) (List.mem_of_getElem? (i := 29) rfl)
theorem pt_17_10 {σ : sx_S} (h : PT σ) : σ 17 10 = 24 := h (17, 10, 24) (List.mem_of_getElem? (i := 30) rfl)
theorem pt_17_11 {σ : sx_S} (h : PT σ) : σ 17 11 = 25 := h (17, 11, 25) (List.mem_of_getElem? (i := 31) rfl)
theorem pt_17_12 {σ : sx_S} (h : PT σ) : σ 17 12 = 26 := h (17, 12, 26) (List.mem_of_getElem? (i := 32) rfl)
theorem pt_17_15 {σ : sx_S} (h : PT σ) : σ 17 15 = 28 := h (17, 15, 28) (List.mem_of_getElem? (i := 33) rfl)
theorem pt_17_16 {σ : sx_S} (h : PT σ) : σ 17 16 = 29 := h (17, 16, 29) (List.mem_of_getElem? (i := 34) rfl)
theorem pt_17_17 {σ : sx_S} (h : PT σ) : σ 17 17 = 30 := h (17, 17, 30) (List.mem_of_getElem? (i := 35) rfl)
theorem pt_17_18 {σ : sx_S} (h : PT σ) : σ 17 18 = 31 := h (17, 18, 31) (List.mem_of_getElem? (i := 36) rfl)
theorem pt_26_0 {σ : sx_S} (h : PT σ) : σ 26 0 = 27 := h (26, 0, 27) (List.mem_of_getElem? (i := 37) rfl)
theorem pt_32_3 {σ : sx_S} (h : PT σ) : σ 32 3 = 33 := h (32, 3, 33) (List.mem_of_getElem? (i := 38) rfl)
theorem pt_32_5 {σ : sx_S} (h : PT σ) : σ 32 5 = 35 := h (32, 5, 35) (List.mem_of_getElem? (i := 39) rfl)
theorem pt_32_10 {σ : sx_S} (h : PT σ) : σ 32 10 = 36 := h (32, 10, 36) (List.mem_of_getElem? (i := 40) rfl)
theorem pt_37_0 {σ : sx_S} (h : PT σ) : σ 37 0 = 38 := h (37, 0, 38) (List.mem_of_getElem? (i := 41) rfl)
theorem pt_37_1 {σ : sx_S} (h : PT σ) : σ 37 1 = 39 := h (37, 1, 39) (List.mem_of_getElem? (i := 42) rfl)
theorem pt_40_0 {σ : sx_S} (h : PT σ) : σ 40 0 = 37 := h (40, 0, 37) (List.mem_of_getElem? (i := 43) rfl)
theorem pt_40_2 {σ : sx_S} (h : PT σ) : σ 40 2 = 41 := h (40, 2, 41) (List.mem_of_getElem? (i := 44) rfl)
theorem pt_40_3 {σ : sx_S} (h : PT σ) : σ 40 3 = 42 := h (40, 3, 42) (List.mem_of_getElem? (i := 45) rfl)
theorem pt_40_4 {σ : sx_S} (h : PT σ) : σ 40 4 = 43 := h (40, 4, 43) (List.mem_of_getElem? (i := 46) rfl)
theorem pt_40_5 {σ : sx_S} (h : PT σ) : σ 40 5 = 44 := h (40, 5, 44) (List.mem_of_getElem? (i := 47) rfl)
theorem pt_40_6 {σ : sx_S} (h : PT σ) : σ 40 6 = 53 := h (40, 6, 53) (List.mem_of_getElem? (i := 48) rfl)
theorem pt_40_11 {σ : sx_S} (h : PT σ) : σ 40 11 = 54 := h (40, 11, 54) (List.mem_of_getElem? (i := 49) rfl)
theorem pt_44_1 {σ : sx_S} (h : PT σ) : σ 44 1 = 45 := h (44, 1, 45) (List.mem_of_getElem? (i := 50) rfl)
theorem pt_44_2 {σ : sx_S} (h : PT σ) : σ 44 2 = 46 := h (44, 2, 46) (List.mem_of_getElem? (i := 51) rfl)
theorem pt_44_3 {σ : sx_S} (h : PT σ) : σ 44 3 = 47 := h (44, 3, 47) (List.mem_of_getElem? (i := 52) rfl)
theorem pt_44_4 {σ : sx_S} (h : PT σ) : σ 44 4 = 48 := h (44, 4, 48) (List.mem_of_getElem? (i := 53) rfl)
theorem pt_44_5 {σ : sx_S} (h : PT σ) : σ 44 5 = 49 := h (44, 5, 49) (List.mem_of_getElem? (i := 54) rfl)
theorem pt_44_6 {σ : sx_S} (h : PT σ) : σ 44 6 = 50 := h (44, 6, 50) (List.mem_of_getElem? (i := 55) rfl)
theorem pt_44_7 {σ : sx_S} (h : PT σ) : σ 44 7 = 51 := h (44, 7, 51) (List.mem_of_getElem? (i := 56) rfl)
theorem pt_44_8 {σ : sx_S} (h : PT σ) : σ 44 8 = 52 := h (44, 8, 52) (List.mem_of_getElem? (i := 57) rfl)
theorem pt_55_0 {σ : sx_S} (h : PT σ) : σ 55 0 = 37 := h (55, 0, 37) (List.mem_of_getElem? (i := 58) rfl)
theorem pt_55_2 {σ : sx_S} (h : PT σ) : σ 55 2 = 56 := h (55, 2, 56) (List.mem_of_getElem? (i := 59) rfl)
theorem pt_55_3 {σ : sx_S} (h : PT σ) : σ 55 3 = 57 := h (55, 3, 57) (List.mem_of_getElem? (i := 60) rfl)
theorem pt_55_4 {σ : sx_S} (h : PT σ) : σ 55 4 = 58 := h (55, 4, 58) (List.mem_of_getElem? (i := 61) rfl)
theorem pt_55_5 {σ : sx_S} (h : PT σ) : σ 55 5 = 59 := h (55, 5, 59) (List.mem_of_getElem? (i := 62) rfl)
theorem pt_55_6 {σ : sx_S} (h : PT σ) : σ 55 6 = 68 := h (55, 6, 68) (List.mem_of_getElem? (i := 63) rfl)
theorem pt_55_11 {σ : sx_S} (h : PT σ) : σ 55 11 = 69 := h (55, 11, 69) (List.mem_of_getElem? (i := 64) rfl)
theorem pt_59_1 {σ : sx_S} (h : PT σ) : σ 59 1 = 60 := h (59, 1, 60) (List.mem_of_getElem? (i := 65) rfl)
theorem pt_59_2 {σ : sx_S} (h : PT σ) : σ 59 2 = 61 := h (59, 2, 61) (List.mem_of_getElem? (i := 66) rfl)
theorem pt_59_3 {σ : sx_S} (h : PT σ) : σ 59 3 = 62 := h (59, 3, 62) (List.mem_of_getElem? (i := 67) rfl)
theorem pt_59_4 {σ : sx_S} (h : PT σ) : σ 59 4 = 63 := h (59, 4, 63) (List.mem_of_getElem? (i := 68) rfl)
theorem pt_59_5 {σ : sx_S} (h : PT σ) : σ 59 5 = 64 := h (59, 5, 64) (List.mem_of_getElem? (i := 69) rfl)
theorem pt_59_6 {σ : sx_S} (h : PT σ) : σ 59 6 = 65 := h (59, 6, 65) (List.mem_of_getElem? (i := 70) rfl)
theorem pt_59_7 {σ : sx_S} (h : PT σ) : σ 59 7 = 66 := h (59, 7, 66) (List.mem_of_getElem? (i := 71) rfl)
theorem pt_59_8 {σ : sx_S} (h : PT σ) : σ 59 8 = 67 := h (59, 8, 67) (List.mem_of_getElem? (i := 72) rfl)
theorem pt_70_0 {σ : sx_S} (h : PT σ) : σ 70 0 = 37 := h (70, 0, 37) (List.mem_of_getElem? (i := 73) rfl)
theorem pt_70_2 {σ : sx_S} (h : PT σ) : σ 70 2 = 71 := h (70, 2, 71) (List.mem_of_getElem? (i := 74) rfl)
theorem pt_70_3 {σ : sx_S} (h : PT σ) : σ 70 3 = 72 := h (70, 3, 72) (List.mem_of_getElem? (i := 75) rfl)
theorem pt_70_4 {σ : sx_S} (h : PT σ) : σ 70 4 = 73 := h (70, 4, 73) (List.mem_of_getElem? (i := 76) rfl)
theorem pt_70_5 {σ : sx_S} (h : PT σ) : σ 70 5 = 74 := h (70, 5, 74) (List.mem_of_getElem? (i := 77) rfl)
theorem pt_70_6 {σ : sx_S} (h : PT σ) : σ 70 6 = 83 := h (70, 6, 83) (List.mem_of_getElem? (i := 78) rfl)
theorem pt_70_11 {σ : sx_S} (h : PT σ) : σ 70 11 = 84 := h (70, 11, 84) (List.mem_of_getElem? (i := 79) rfl)
theorem pt_74_1 {σ : sx_S} (h : PT σ) : σ 74 1 = 75 := h (74, 1, 75) (List.mem_of_getElem? (i := 80) rfl)
theorem pt_74_2 {σ : sx_S} (h : PT σ) : σ 74 2 = 76 := h (74, 2, 76) (List.mem_of_getElem? (i := 81) rfl)
theorem pt_74_3 {σ : sx_S} (h : PT σ) : σ 74 3 = 77 := h (74, 3, 77) (List.mem_of_getElem? (i := 82) rfl)
theorem pt_74_4 {σ : sx_S} (h : PT σ) : σ 74 4 = 78 := h (74, 4, 78) (List.mem_of_getElem? (i := 83) rfl)
theorem pt_74_5 {σ : sx_S} (h : PT σ) : σ 74 5 = 79 := h (74, 5, 79) (List.mem_of_getElem? (i := 84) rfl)
theorem pt_74_6 {σ : sx_S} (h : PT σ) : σ 74 6 = 80 := h (74, 6, 80) (List.mem_of_getElem? (i := 85) rfl)
theorem pt_74_7 {σ : sx_S} (h : PT σ) : σ 74 7 = 81 := h (74, 7, 81) (List.mem_of_getElem? (i := 86) rfl)
theorem pt_74_8 {σ : sx_S} (h : PT σ) : σ 74 8 = 82 := h (74, 8, 82) (List.mem_of_getElem? (i := 87) rfl)
theorem pt_85_2 {σ : sx_S} (h : PT σ) : σ 85 2 = 86 := h (85, 2, 86) (List.mem_of_getElem? (i := 88) rfl)
theorem pt_85_3 {σ : sx_S} (h : PT σ) : σ 85 3 = 87 := h (85, 3, 87) (List.mem_of_getElem? (i := 89) rfl)
theorem pt_85_4 {σ : sx_S} (h : PT σ) : σ 85 4 = 88 := h (85, 4, 88) (List.mem_of_getElem? (i := 90) rfl)
theorem pt_85_5 {σ : sx_S} (h : PT σ) : σ 85 5 = 89 := h (85, 5, 89) (List.mem_of_getElem? (i := 91) rfl)
theorem pt_89_0 {σ : sx_S} (h : PT σ) : σ 89 0 = 90 := h (89, 0, 90) (List.mem_of_getElem? (i := 92) rfl)
theorem pt_89_1 {σ : sx_S} (h : PT σ) : σ 89 1 = 91 := h (89, 1, 91) (List.mem_of_getElem? (i := 93) rfl)
theorem pt_89_2 {σ : sx_S} (h : PT σ) : σ 89 2 = 92 := h (89, 2, 92) (List.mem_of_getElem? (i := 94) rfl)
theorem pt_89_3 {σ : sx_S} (h : PT σ) : σ 89 3 = 93 := h (89, 3, 93) (List.mem_of_getElem? (i := 95) rfl)
theorem pt_89_4 {σ : sx_S} (h : PT σ) : σ 89 4 = 94 := h (89, 4, 94) (List.mem_of_getElem? (i := 96) rfl)
theorem pt_89_5 {σ : sx_S} (h : PT σ) : σ 89 5 = 95 := h (89, 5, 95) (List.mem_of_getElem? (i := 97) rfl)
theorem pt_89_6 {σ : sx_S} (h : PT σ) : σ 89 6 = 96 := h (89, 6, 96) (List.mem_of_getElem? (i := 98) rfl)
theorem pt_89_7 {σ : sx_S} (h : PT σ) : σ 89 7 = 97 := h (89, 7, 97) (List.mem_of_getElem? (i := 99) rfl)
theorem pt_89_8 {σ : sx_S} (h : PT σ) : σ 89 8 = 98 := h (89, 8, 98) (List.mem_of_getElem? (i := 100) rfl)
theorem pt_89_9 {σ : sx_S} (h : PT σ) : σ 89 9 = 99 := h (89, 9, 99) (List.mem_of_getElem? (i := 101) rfl)
theorem pt_89_10 {σ : sx_S} (h : PT σ) : σ 89 10 = 100 := h (89, 10, 100) (List.mem_of_getElem? (i := 102) rfl)
theorem pt_89_11 {σ : sx_S} (h : PT σ) : σ 89 11 = 101 := h (89, 11, 101) (List.mem_of_getElem? (i := 103) rfl)
theorem pt_89_12 {σ : sx_S} (h : PT σ) : σ 89 12 = 102 := h (89, 12, 102) (List.mem_of_getElem? (i := 104) rfl)
theorem pt_89_13 {σ : sx_S} (h : PT σ) : σ 89 13 = 103 := h (89, 13, 103) (List.mem_of_getElem? (i := 105) rfl)
theorem pt_89_14 {σ : sx_S} (h : PT σ) : σ 89 14 = 104 := h (89, 14, 104) (List.mem_of_getElem? (i := 106) rfl)
theorem pt_89_15 {σ : sx_S} (h : PT σ) : σ 89 15 = 105 := h (89, 15, 105) (List.mem_of_getElem? (i := 107) rfl)
theorem pt_89_16 {σ : sx_S} (h : PT σ) : σ 89 16 = 106 := h (89, 16, 106) (List.mem_of_getElem? (i := 108) rfl)
theorem pt_89_17 {σ : sx_S} (h : PT σ) : σ 89 17 = 107 := h (89, 17, 107) (List.mem_of_getElem? (i := 109) rfl)
theorem pt_89_18 {σ : sx_S} (h : PT σ) : σ 89 18 = 108 := h (89, 18, 108) (List.mem_of_getElem? (i := 110) rfl)
theorem pt_89_19 {σ : sx_S} (h : PT σ) : σ 89 19 = 109 := h (89, 19, 109) (List.mem_of_getElem? (i := 111) rfl)
theorem pt_110_2 {σ : sx_S} (h : PT σ) : σ 110 2 = 111 := h (110, 2, 111) (List.mem_of_getElem? (i := 112) rfl)
theorem pt_110_3 {σ : sx_S} (h : PT σ) : σ 110 3 = 112 := h (110, 3, 112) (List.mem_of_getElem? (i := 113) rfl)
theorem pt_110_4 {σ : sx_S} (h : PT σ) : σ 110 4 = 113 := h (110, 4, 113) (List.mem_of_getElem? (i := 114) rfl)
theorem pt_110_5 {σ : sx_S} (h : PT σ) : σ 110 5 = 114 := h (110, 5, 114) (List.mem_of_getElem? (i := 115) rfl)
theorem pt_110_6 {σ : sx_S} (h : PT σ) : σ 110 6 = 115 := h (110, 6, 115) (List.mem_of_getElem? (i := 116) rfl)
theorem pt_110_7 {σ : sx_S} (h : PT σ) : σ 110 7 = 116 := h (110, 7, 116) (List.mem_of_getElem? (i := 117) rfl)
theorem pt_117_2 {σ : sx_S} (h : PT σ) : σ 117 2 = 118 := h (117, 2, 118) (List.mem_of_getElem? (i := 118) rfl)
theorem pt_117_3 {σ : sx_S} (h : PT σ) : σ 117 3 = 119 := h (117, 3, 119) (List.mem_of_getElem? (i := 119) rfl)
theorem pt_117_4 {σ : sx_S} (h : PT σ) : σ 117 4 = 120 := h (117, 4, 120) (List.mem_of_getElem? (i := 120) rfl)
theorem pt_121_0 {σ : sx_S} (h : PT σ) : σ 121 0 = 122 := h (121, 0, 122) (List.mem_of_getElem? (i := 121) rfl)
theorem pt_121_1 {σ : sx_S} (h : PT σ) : σ 121 1 = 123 := h (121, 1, 123) (List.mem_of_getElem? (i := 122) rfl)
theorem pt_124_0 {σ : sx_S} (h : PT σ) : σ 124 0 = 125 := h (124, 0, 125) (List.mem_of_getElem? (i := 123) rfl)
theorem pt_124_3 {σ : sx_S} (h : PT σ) : σ 124 3 = 126 := h (124, 3, 126) (List.mem_of_getElem? (i := 124) rfl)
theorem pt_124_30 {σ : sx_S} (h : PT σ) : σ 124 30 = 127 := h (124, 30, 127) (List.mem_of_getElem? (i := 125) rfl)
theorem pt_124_31 {σ : sx_S} (h : PT σ) : σ 124 31 = 128 := h (124, 31, 128) (List.mem_of_getElem? (i := 126) rfl)
theorem pt_124_32 {σ : sx_S} (h : PT σ) : σ 124 32 = 129 := h (124, 32, 129) (List.mem_of_getElem? (i := 127) rfl)
theorem pt_124_33 {σ : sx_S} (h : PT σ) : σ 124 33 = 130 := h (124, 33, 130) (List.mem_of_getElem? (i := 128) rfl)
theorem pt_124_34 {σ : sx_S} (h : PT σ) : σ 124 34 = 131 := h (124, 34, 131) (List.mem_of_getElem? (i := 129) rfl)
theorem pt_124_35 {σ : sx_S} (h : PT σ) : σ 124 35 = 132 := h (124, 35, 132) (List.mem_of_getElem? (i := 130) rfl)
theorem pt_124_36 {σ : sx_S} (h : PT σ) : σ 124 36 = 133 := h (124, 36, 133) (List.mem_of_getElem? (i := 131) rfl)
theorem pt_124_37 {σ : sx_S} (h : PT σ) : σ 124 37 = 134 := h (124, 37, 134) (List.mem_of_getElem? (i := 132) rfl)
theorem pt_124_38 {σ : sx_S} (h : PT σ) : σ 124 38 = 135 := h (124, 38, 135) (List.mem_of_getElem? (i := 133) rfl)
theorem pt_124_39 {σ : sx_S} (h : PT σ) : σ 124 39 = 136 := h (124, 39, 136) (List.mem_of_getElem? (i := 134) rfl)
theorem pt_124_40 {σ : sx_S} (h : PT σ) : σ 124 40 = 137 := h (124, 40, 137) (List.mem_of_getElem? (i := 135) rfl)
theorem pt_124_41 {σ : sx_S} (h : PT σ) : σ 124 41 = 138 := h (124, 41, 138) (List.mem_of_getElem? (i := 136) rfl)
theorem pt_124_42 {σ : sx_S} (h : PT σ) : σ 124 42 = 139 := h (124, 42, 139) (List.mem_of_getElem? (i := 137) rfl)
theorem pt_124_43 {σ : sx_S} (h : PT σ) : σ 124 43 = 140 := h (124, 43, 140) (List.mem_of_getElem? (i := 138) rfl)
theorem pt_124_44 {σ : sx_S} (h : PT σ) : σ 124 44 = 141 := h (124, 44, 141) (List.mem_of_getElem? (i := 139) rfl)
theorem pt_124_46 {σ : sx_S} (h : PT σ) : σ 124 46 = 142 := h (124, 46, 142) (List.mem_of_getElem? (i := 140) rfl)
theorem pt_124_47 {σ : sx_S} (h : PT σ) : σ 124 47 = 143 := h (124, 47, 143) (List.mem_of_getElem? (i := 141) rfl)
theorem pt_124_54 {σ : sx_S} (h : PT σ) : σ 124 54 = 144 := h (124, 54, 144) (List.mem_of_getElem? (i := 142) rfl)
theorem pt_124_55 {σ : sx_S} (h : PT σ) : σ 124 55 = 145 := h (124, 55, 145) (List.mem_of_getElem? (i := 143) rfl)
theorem pt_124_57 {σ : sx_S} (h : PT σ) : σ 124 57 = 146 := h (124, 57, 146) (List.mem_of_getElem? (i := 144) rfl)
theorem pt_124_58 {σ : sx_S} (h : PT σ) : σ 124 58 = 147 := h (124, 58, 147) (List.mem_of_getElem? (i := 145) rfl)
theorem pt_124_59 {σ : sx_S} (h : PT σ) : σ 124 59 = 148 := h (124, 59, 148) (List.mem_of_getElem? (i := 146) rfl)
theorem pt_124_60 {σ : sx_S} (h : PT σ) : σ 124 60 = 149 := h (124, 60, 149) (List.mem_of_getElem? (i := 147) rfl)
theorem pt_124_61 {σ : sx_S} (h : PT σ) : σ 124 61 = 150 := h (124, 61, 150) (List.mem_of_getElem? (i := 148) rfl)
theorem pt_124_62 {σ : sx_S} (h : PT σ) : σ 124 62 = 151 := h (124, 62, 151) (List.mem_of_getElem? (i := 149) rfl)
theorem pt_124_63 {σ : sx_S} (h : PT σ) : σ 124 63 = 152 := h (124, 63, 152) (List.mem_of_getElem? (i := 150) rfl)
theorem pt_124_64 {σ : sx_S} (h : PT σ) : σ 124 64 = 153 := h (124, 64, 153) (List.mem_of_getElem? (i := 151) rfl)
theorem pt_124_65 {σ : sx_S} (h : PT σ) : σ 124 65 = 154 := h (124, 65, 154) (List.mem_of_getElem? (i := 152) rfl)
theorem pt_124_66 {σ : sx_S} (h : PT σ) : σ 124 66 = 155 := h (124, 66, 155) (List.mem_of_getElem? (i := 153) rfl)
theorem pt_124_67 {σ : sx_S} (h : PT σ) : σ 124 67 = 156 := h (124, 67, 156) (List.mem_of_getElem? (i := 154) rfl)
theorem pt_124_68 {σ : sx_S} (h : PT σ) : σ 124 68 = 157 := h (124, 68, 157) (List.mem_of_getElem? (i := 155) rfl)
theorem pt_124_69 {σ : sx_S} (h : PT σ) : σ 124 69 = 158 := h (124, 69, 158) (List.mem_of_getElem? (i := 156) rfl)
theorem pt_124_70 {σ : sx_S} (h : PT σ) : σ 124 70 = 159 := h (124, 70, 159) (List.mem_of_getElem? (i := 157) rfl)
theorem pt_124_71 {σ : sx_S} (h : PT σ) : σ 124 71 = 160 := h (124, 71, 160) (List.mem_of_getElem? (i := 158) rfl)
theorem pt_124_76 {σ : sx_S} (h : PT σ) : σ 124 76 = 161 := h (124, 76, 161) (List.mem_of_getElem? (i := 159) rfl)
theorem pt_124_77 {σ : sx_S} (h : PT σ) : σ 124 77 = 162 := h (124, 77, 162) (List.mem_of_getElem? (i := 160) rfl)
theorem pt_124_78 {σ : sx_S} (h : PT σ) : σ 124 78 = 163 := h (124, 78, 163) (List.mem_of_getElem? (i := 161) rfl)
theorem pt_124_79 {σ : sx_S} (h : PT σ) : σ 124 79 = 164 := h (124, 79, 164) (List.mem_of_getElem? (i := 162) rfl)
theorem pt_124_80 {σ : sx_S} (h : PT σ) : σ 124 80 = 165 := h (124, 80, 165) (List.mem_of_getElem? (i := 163) rfl)
theorem pt_124_82 {σ : sx_S} (h : PT σ) : σ 124 82 = 166 := h (124, 82, 166) (List.mem_of_getElem? (i := 164) rfl)
theorem pt_124_84 {σ : sx_S} (h : PT σ) : σ 124 84 = 167 := h (124, 84, 167) (List.mem_of_getElem? (i := 165) rfl)
theorem pt_124_86 {σ : sx_S} (h : PT σ) : σ 124 86 = 168 := h (124, 86, 168) (List.mem_of_getElem? (i := 166) rfl)
theorem pt_124_87 {σ : sx_S} (h : PT σ) : σ 124 87 = 169 := h (124, 87, 169) (List.mem_of_getElem? (i := 167) rfl)
theorem pt_124_88 {σ : sx_S} (h : PT σ) : σ 124 88 = 170 := h (124, 88, 170) (List.mem_of_getElem? (i := 168) rfl)
theorem lk_0 : sx_lk shM 0 = (0, 11) := rfl
theorem lk_1 : sx_lk shM 1 = (3, 700) := rfl
theorem lk_2 : sx_lk shM 2 = (0, 5) := rfl
theorem lk_3 : sx_lk shM 3 = (1, 48) := rfl
theorem lk_4 : sx_lk shM 4 = (1, 48) := rfl
theorem lk_5 : sx_lk shM 5 = (1, 3) := rfl
theorem lk_6 : sx_lk shM 6 = (1, 5) := rfl
theorem lk_7 : sx_lk shM 7 = (1, 5) := rfl
theorem lk_8 : sx_lk shM 8 = (1, 5) := rfl
theorem lk_9 : sx_lk shM 9 = (1, 5) := rfl
theorem lk_10 : sx_lk shM 10 = (1, 5) := rfl
theorem lk_11 : sx_lk shM 11 = (0, 1) := rfl
theorem lk_12 : sx_lk shM 12 = (1, 24) := rfl
theorem lk_13 : sx_lk shM 13 = (1, 64) := rfl
theorem lk_14 : sx_lk shM 14 = (1, 64) := rfl
theorem lk_15 : sx_lk shM 15 = (1, 3) := rfl
theorem lk_16 : sx_lk shM 16 = (1, 3) := rfl
theorem lk_17 : sx_lk shM 17 = (0, 5) := rfl
theorem lk_18 : sx_lk shM 18 = (1, 48) := rfl
theorem lk_19 : sx_lk shM 19 = (1, 48) := rfl
theorem lk_20 : sx_lk shM 20 = (1, 3) := rfl
theorem lk_21 : sx_lk shM 21 = (1, 5) := rfl
theorem lk_22 : sx_lk shM 22 = (1, 5) := rfl
theorem lk_23 : sx_lk shM 23 = (1, 5) := rfl
theorem lk_24 : sx_lk shM 24 = (1, 5) := rfl
theorem lk_25 : sx_lk shM 25 = (1, 5) := rfl
theorem lk_26 : sx_lk shM 26 = (0, 1) := rfl
theorem lk_27 : sx_lk shM 27 = (1, 24) := rfl
theorem lk_28 : sx_lk shM 28 = (1, 64) := rfl
theorem lk_29 : sx_lk shM 29 = (1, 64) := rfl
theorem lk_30 : sx_lk shM 30 = (1, 3) := rfl
theorem lk_31 : sx_lk shM 31 = (1, 3) := rfl
theorem lk_32 : sx_lk shM 32 = (0, 10) := rfl
theorem lk_33 : sx_lk shM 33 = (0, 2) := rfl
theorem lk_34 : sx_lk shM 34 = (3, 0) := rfl
theorem lk_35 : sx_lk shM 35 = (1, 3) := rfl
theorem lk_36 : sx_lk shM 36 = (1, 72) := rfl
theorem lk_37 : sx_lk shM 37 = (0, 6) := rfl
theorem lk_38 : sx_lk shM 38 = (2, 7) := rfl
theorem lk_39 : sx_lk shM 39 = (2, 64) := rfl
theorem lk_40 : sx_lk shM 40 = (0, 9) := rfl
theorem lk_41 : sx_lk shM 41 = (1, 5) := rfl
theorem lk_42 : sx_lk shM 42 = (1, 5) := rfl
theorem lk_43 : sx_lk shM 43 = (1, 5) := rfl
theorem lk_44 : sx_lk shM 44 = (0, 4) := rfl
theorem lk_45 : sx_lk shM 45 = (1, 90) := rfl
theorem lk_46 : sx_lk shM 46 = (1, 90) := rfl
theorem lk_47 : sx_lk shM 47 = (1, 90) := rfl
theorem lk_48 : sx_lk shM 48 = (1, 90) := rfl
theorem lk_49 : sx_lk shM 49 = (1, 90) := rfl
theorem lk_50 : sx_lk shM 50 = (1, 90) := rfl
theorem lk_51 : sx_lk shM 51 = (1, 90) := rfl
theorem lk_52 : sx_lk shM 52 = (1, 90) := rfl
theorem lk_53 : sx_lk shM 53 = (1, 3) := rfl
theorem lk_54 : sx_lk shM 54 = (1, 48) := rfl
theorem lk_55 : sx_lk shM 55 = (0, 9) := rfl
theorem lk_56 : sx_lk shM 56 = (1, 5) := rfl
theorem lk_57 : sx_lk shM 57 = (1, 5) := rfl
theorem lk_58 : sx_lk shM 58 = (1, 5) := rfl
theorem lk_59 : sx_lk shM 59 = (0, 4) := rfl
theorem lk_60 : sx_lk shM 60 = (1, 90) := rfl
theorem lk_61 : sx_lk shM 61 = (1, 90) := rfl
theorem lk_62 : sx_lk shM 62 = (1, 90) := rfl
theorem lk_63 : sx_lk shM 63 = (1, 90) := rfl
theorem lk_64 : sx_lk shM 64 = (1, 90) := rfl
theorem lk_65 : sx_lk shM 65 = (1, 90) := rfl
theorem lk_66 : sx_lk shM 66 = (1, 90) := rfl
theorem lk_67 : sx_lk shM 67 = (1, 90) := rfl
theorem lk_68 : sx_lk shM 68 = (1, 3) := rfl
theorem lk_69 : sx_lk shM 69 = (1, 48) := rfl
theorem lk_70 : sx_lk shM 70 = (0, 9) := rfl
theorem lk_71 : sx_lk shM 71 = (1, 5) := rfl
theorem lk_72 : sx_lk shM 72 = (1, 5) := rfl
theorem lk_73 : sx_lk shM 73 = (1, 5) := rfl
theorem lk_74 : sx_lk shM 74 = (0, 4) := rfl
theorem lk_75 : sx_lk shM 75 = (1, 90) := rfl
theorem lk_76 : sx_lk shM 76 = (1, 90) := rfl
theorem lk_77 : sx_lk shM 77 = (1, 90) := rfl
theorem lk_78 : sx_lk shM 78 = (1, 90) := rfl
theorem lk_79 : sx_lk shM 79 = (1, 90) := rfl
theorem lk_80 : sx_lk shM 80 = (1, 90) := rfl
theorem lk_81 : sx_lk shM 81 = (1, 90) := rfl
theorem lk_82 : sx_lk shM 82 = (1, 90) := rfl
theorem lk_83 : sx_lk shM 83 = (1, 3) := rfl
theorem lk_84 : sx_lk shM 84 = (1, 48) := rfl
theorem lk_85 : sx_lk shM 85 = (0, 3) := rfl
theorem lk_86 : sx_lk shM 86 = (1, 20) := rfl
theorem lk_87 : sx_lk shM 87 = (1, 20) := rfl
theorem lk_88 : sx_lk shM 88 = (1, 20) := rfl
theorem lk_89 : sx_lk shM 89 = (5, 20) := rfl
theorem lk_90 : sx_lk shM 90 = (1, 8) := rfl
theorem lk_91 : sx_lk shM 91 = (1, 8) := rfl
theorem lk_92 : sx_lk shM 92 = (1, 8) := rfl
theorem lk_93 : sx_lk shM 93 = (1, 8) := rfl
theorem lk_94 : sx_lk shM 94 = (1, 8) := rfl
theorem lk_95 : sx_lk shM 95 = (1, 8) := rfl
theorem lk_96 : sx_lk shM 96 = (1, 8) := rfl
theorem lk_97 : sx_lk shM 97 = (1, 8) := rfl
theorem lk_98 : sx_lk shM 98 = (1, 8) := rfl
theorem lk_99 : sx_lk shM 99 = (1, 8) := rfl
theorem lk_100 : sx_lk shM 100 = (1, 8) := rfl
theorem lk_101 : sx_lk shM 101 = (1, 8) := rfl
theorem lk_102 : sx_lk shM 102 = (1, 8) := rfl
theorem lk_103 : sx_lk shM 103 = (1, 8) := rfl
theorem lk_104 : sx_lk shM 104 = (1, 8) := rfl
theorem lk_105 : sx_lk shM 105 = (1, 8) := rfl
theorem lk_106 : sx_lk shM 106 = (1, 8) := rfl
theorem lk_107 : sx_lk shM 107 = (1, 8) := rfl
theorem lk_108 : sx_lk shM 108 = (1, 8) := rfl
theorem lk_109 : sx_lk shM 109 = (1, 8) := rfl
theorem lk_110 : sx_lk shM 110 = (0, 0) := rfl
theorem lk_111 : sx_lk shM 111 = (1, 24) := rfl
theorem lk_112 : sx_lk shM 112 = (1, 24) := rfl
theorem lk_113 : sx_lk shM 113 = (1, 24) := rfl
theorem lk_114 : sx_lk shM 114 = (1, 24) := rfl
theorem lk_115 : sx_lk shM 115 = (1, 24) := rfl
theorem lk_116 : sx_lk shM 116 = (1, 24) := rfl
theorem lk_117 : sx_lk shM 117 = (0, 7) := rfl
theorem lk_118 : sx_lk shM 118 = (1, 48) := rfl
theorem lk_119 : sx_lk shM 119 = (1, 48) := rfl
theorem lk_120 : sx_lk shM 120 = (1, 48) := rfl
theorem lk_121 : sx_lk shM 121 = (0, 8) := rfl
theorem lk_122 : sx_lk shM 122 = (1, 3) := rfl
theorem lk_123 : sx_lk shM 123 = (2, 48) := rfl
theorem lk_124 : sx_lk shM 124 = (0, 12) := rfl
theorem lk_125 : sx_lk shM 125 = (1, 700) := rfl
theorem lk_126 : sx_lk shM 126 = (1, 97) := rfl
theorem lk_127 : sx_lk shM 127 = (1, 96) := rfl
theorem lk_128 : sx_lk shM 128 = (1, 96) := rfl
theorem lk_129 : sx_lk shM 129 = (1, 6) := rfl
theorem lk_130 : sx_lk shM 130 = (1, 10) := rfl
theorem lk_131 : sx_lk shM 131 = (1, 10) := rfl
theorem lk_132 : sx_lk shM 132 = (1, 10) := rfl
theorem lk_133 : sx_lk shM 133 = (1, 10) := rfl
theorem lk_134 : sx_lk shM 134 = (1, 10) := rfl
theorem lk_135 : sx_lk shM 135 = (1, 48) := rfl
theorem lk_136 : sx_lk shM 136 = (4, 6) := rfl
theorem lk_137 : sx_lk shM 137 = (1, 6) := rfl
theorem lk_138 : sx_lk shM 138 = (1, 6) := rfl
theorem lk_139 : sx_lk shM 139 = (1, 128) := rfl
theorem lk_140 : sx_lk shM 140 = (1, 128) := rfl
theorem lk_141 : sx_lk shM 141 = (1, 128) := rfl
theorem lk_142 : sx_lk shM 142 = (1, 96) := rfl
theorem lk_143 : sx_lk shM 143 = (1, 96) := rfl
theorem lk_144 : sx_lk shM 144 = (2, 7) := rfl
theorem lk_145 : sx_lk shM 145 = (2, 64) := rfl
theorem lk_146 : sx_lk shM 146 = (1, 180) := rfl
theorem lk_147 : sx_lk shM 147 = (1, 180) := rfl
theorem lk_148 : sx_lk shM 148 = (1, 180) := rfl
theorem lk_149 : sx_lk shM 149 = (1, 180) := rfl
theorem lk_150 : sx_lk shM 150 = (1, 180) := rfl
theorem lk_151 : sx_lk shM 151 = (1, 180) := rfl
theorem lk_152 : sx_lk shM 152 = (1, 180) := rfl
theorem lk_153 : sx_lk shM 153 = (4, 180) := rfl
theorem lk_154 : sx_lk shM 154 = (1, 2) := rfl
theorem lk_155 : sx_lk shM 155 = (1, 2) := rfl
theorem lk_156 : sx_lk shM 156 = (1, 2) := rfl
theorem lk_157 : sx_lk shM 157 = (1, 5) := rfl
theorem lk_158 : sx_lk shM 158 = (1, 5) := rfl
theorem lk_159 : sx_lk shM 159 = (1, 5) := rfl
theorem lk_160 : sx_lk shM 160 = (1, 3) := rfl
theorem lk_161 : sx_lk shM 161 = (1, 96) := rfl
theorem lk_162 : sx_lk shM 162 = (4, 24) := rfl
theorem lk_163 : sx_lk shM 163 = (1, 48) := rfl
theorem lk_164 : sx_lk shM 164 = (1, 48) := rfl
theorem lk_165 : sx_lk shM 165 = (2, 48) := rfl
theorem lk_166 : sx_lk shM 166 = (1, 3) := rfl
theorem lk_167 : sx_lk shM 167 = (1, 2120) := rfl
theorem lk_168 : sx_lk shM 168 = (1, 16) := rfl
theorem lk_169 : sx_lk shM 169 = (1, 720) := rfl
theorem lk_170 : sx_lk shM 170 = (1, 3) := rfl
theorem lk_171 : sx_lk shM 171 = (2, 1) := rfl
def isS (s : Int) : Prop := s = 40 ∨ s = 55 ∨ s = 70
def isP (p : Int) : Prop := p = 2 ∨ p = 17
theorem lkS0 {s : Int} (h : isS s) : sx_lk shM (s) = (0, 9) := by rcases h with rfl | rfl | rfl <;> rfl
theorem lkS1 {s : Int} (h : isS s) : sx_lk shM (s + 1) = (1, 5) := by rcases h with rfl | rfl | rfl <;> rfl
theorem lkS2 {s : Int} (h : isS s) : sx_lk shM (s + 2) = (1, 5) := by rcases h with rfl | rfl | rfl <;> rfl
theorem lkS3 {s : Int} (h : isS s) : sx_lk shM (s + 3) = (1, 5) := by rcases h with rfl | rfl | rfl <;> rfl
theorem lkS4 {s : Int} (h : isS s) : sx_lk shM (s + 4) = (0, 4) := by rcases h with rfl | rfl | rfl <;> rfl
theorem lkS5 {s : Int} (h : isS s) : sx_lk shM (s + 5) = (1, 90) := by rcases h with rfl | rfl | rfl <;> rfl
theorem lkS6 {s : Int} (h : isS s) : sx_lk shM (s + 6) = (1, 90) := by rcases h with rfl | rfl | rfl <;> rfl
theorem lkS7 {s : Int} (h : isS s) : sx_lk shM (s + 7) = (1, 90) := by rcases h with rfl | rfl | rfl <;> rfl
theorem lkS8 {s : Int} (h : isS s) : sx_lk shM (s + 8) = (1, 90) := by rcases h with rfl | rfl | rfl <;> rfl
theorem lkS9 {s : Int} (h : isS s) : sx_lk shM (s + 9) = (1, 90) := by rcases h with rfl | rfl | rfl <;> rfl
theorem lkS10 {s : Int} (h : isS s) : sx_lk shM (s + 10) = (1, 90) := by rcases h with rfl | rfl | rfl <;> rfl
theorem lkS11 {s : Int} (h : isS s) : sx_lk shM (s + 11) = (1, 90) := by rcases h with rfl | rfl | rfl <;> rfl
theorem lkS12 {s : Int} (h : isS s) : sx_lk shM (s + 12) = (1, 90) := by rcases h with rfl | rfl | rfl <;> rfl
theorem lkS13 {s : Int} (h : isS s) : sx_lk shM (s + 13) = (1, 3) := by rcases h with rfl | rfl | rfl <;> rfl
theorem lkS14 {s : Int} (h : isS s) : sx_lk shM (s + 14) = (1, 48) := by rcases h with rfl | rfl | rfl <;> rfl
theorem lkP0 {p : Int} (h : isP p) : sx_lk shM (p) = (0, 5) := by rcases h with rfl | rfl <;> rfl
theorem lkP1 {p : Int} (h : isP p) : sx_lk shM (p + 1) = (1, 48) := by rcases h with rfl | rfl <;> rfl
theorem lkP2 {p : Int} (h : isP p) : sx_lk shM (p + 2) = (1, 48) := by rcases h with rfl | rfl <;> rfl
theorem lkP3 {p : Int} (h : isP p) : sx_lk shM (p + 3) = (1, 3) := by rcases h with rfl | rfl <;> rfl
theorem lkP4 {p : Int} (h : isP p) : sx_lk shM (p + 4) = (1, 5) := by rcases h with rfl | rfl <;> rfl
theorem lkP5 {p : Int} (h : isP p) : sx_lk shM (p + 5) = (1, 5) := by rcases h with rfl | rfl <;> rfl
theorem lkP6 {p : Int} (h : isP p) : sx_lk shM (p + 6) = (1, 5) := by rcases h with rfl | rfl <;> rfl
theorem lkP7 {p : Int} (h : isP p) : sx_lk shM (p + 7) = (1, 5) := by rcases h with rfl | rfl <;> rfl
theorem lkP8 {p : Int} (h : isP p) : sx_lk shM (p + 8) = (1, 5) := by rcases h with rfl | rfl <;> rfl
theorem lkP9 {p : Int} (h : isP p) : sx_lk shM (p + 9) = (0, 1) := by rcases h with rfl | rfl <;> rfl
theorem lkP10 {p : Int} (h : isP p) : sx_lk shM (p + 10) = (1, 24) := by rcases h with rfl | rfl <;> rfl
theorem lkP11 {p : Int} (h : isP p) : sx_lk shM (p + 11) = (1, 64) := by rcases h with rfl | rfl <;> rfl
theorem lkP12 {p : Int} (h : isP p) : sx_lk shM (p + 12) = (1, 64) := by rcases h with rfl | rfl <;> rfl
theorem lkP13 {p : Int} (h : isP p) : sx_lk shM (p + 13) = (1, 3) := by rcases h with rfl | rfl <;> rfl
theorem lkP14 {p : Int} (h : isP p) : sx_lk shM (p + 14) = (1, 3) := by rcases h with rfl | rfl <;> rfl
theorem ptS_0 {σ : sx_S} {s : Int} (h : PT σ) (hs : isS s) : σ s 0 = 37 := by
  rcases hs with rfl | rfl | rfl
  · exact pt_40_0 h
  · exact pt_55_0 h
  · exact pt_70_0 h
theorem ptS_2 {σ : sx_S} {s : Int} (h : PT σ) (hs : isS s) : σ s 2 = s + 1 := by
  rcases hs with rfl | rfl | rfl
  · exact pt_40_2 h
  · exact pt_55_2 h
  · exact pt_70_2 h
theorem ptS_3 {σ : sx_S} {s : Int} (h : PT σ) (hs : isS s) : σ s 3 = s + 2 := by
  rcases hs with rfl | rfl | rfl
  · exact pt_40_3 h
  · exact pt_55_3 h
  · exact pt_70_3 h
theorem ptS_4 {σ : sx_S} {s : Int} (h : PT σ) (hs : isS s) : σ s 4 = s + 3 := by
  rcases hs with rfl | rfl | rfl
  · exact pt_40_4 h
  · exact pt_55_4 h
  · exact pt_70_4 h
theorem ptS_5 {σ : sx_S} {s : Int} (h : PT σ) (hs : isS s) : σ s 5 = s + 4 := by
  rcases hs with rfl | rfl | rfl
  · exact pt_40_5 h
  · exact pt_55_5 h
  · exact pt_70_5 h
theorem ptS_6 {σ : sx_S} {s : Int} (h : PT σ) (hs : isS s) : σ s 6 = s + 13 := by
  rcases hs with rfl | rfl | rfl
  · exact pt_40_6 h
  · exact pt_55_6 h
  · exact pt_70_6 h
theorem ptS_11 {σ : sx_S} {s : Int} (h : PT σ) (hs : isS s) : σ s 11 = s + 14 := by
  rcases hs with rfl | rfl | rfl
  · exact pt_40_11 h
  · exact pt_55_11 h
  · exact pt_70_11 h
theorem ptM_1 {σ : sx_S} {s : Int} (h : PT σ) (hs : isS s) : σ (s + 4) 1 = s + 5 := by
  rcases hs with rfl | rfl | rfl
  · exact pt_44_1 h
  · exact pt_59_1 h
  · exact pt_74_1 h
theorem ptM_2 {σ : sx_S} {s : Int} (h : PT σ) (hs : isS s) : σ (s + 4) 2 = s + 6 := by
  rcases hs with rfl | rfl | rfl
  · exact pt_44_2 h
  · exact pt_59_2 h
  · exact pt_74_2 h
theorem ptM_3 {σ : sx_S} {s : Int} (h : PT σ) (hs : isS s) : σ (s + 4) 3 = s + 7 := by
  rcases hs with rfl | rfl | rfl
  · exact pt_44_3 h
  · exact pt_59_3 h
  · exact pt_74_3 h
theorem ptM_4 {σ : sx_S} {s : Int} (h : PT σ) (hs : isS s) : σ (s + 4) 4 = s + 8 := by
  rcases hs with rfl | rfl | rfl
  · exact pt_44_4 h
  · exact pt_59_4 h
  · exact pt_74_4 h
theorem ptM_5 {σ : sx_S} {s : Int} (h : PT σ) (hs : isS s) : σ (s + 4) 5 = s + 9 := by
  rcases hs with rfl | rfl | rfl
  · exact pt_44_5 h
  · exact pt_59_5 h
  · exact pt_74_5 h
theorem ptM_6 {σ : sx_S} {s : Int} (h : PT σ) (hs : isS s) : σ (s + 4) 6 = s + 10 := by
  rcases hs with rfl | rfl | rfl
  · exact pt_44_6 h
  · exact pt_59_6 h
  · exact pt_74_6 h
theorem ptM_7 {σ : sx_S} {s : Int} (h : PT σ) (hs : isS s) : σ (s + 4) 7 = s + 11 := by
  rcases hs with rfl | rfl | rfl
  · exact pt_44_7 h
  · exact pt_59_7 h
  · exact pt_74_7 h
theorem ptM_8 {σ : sx_S} {s : Int} (h : PT σ) (hs : isS s) : σ (s + 4) 8 = s + 12 := by
  rcases hs with rfl | rfl | rfl
  · exact pt_44_8 h
  · exact pt_59_8 h
  · exact pt_74_8 h
theorem ptP_2 {σ : sx_S} {p : Int} (h : PT σ) (hp : isP p) : σ p 2 = p + 1 := by
  rcases hp with rfl | rfl
  · exact pt_2_2 h
  · exact pt_17_2 h
theorem ptP_3 {σ : sx_S} {p : Int} (h : PT σ) (hp : isP p) : σ p 3 = p + 2 := by
  rcases hp with rfl | rfl
  · exact pt_2_3 h
  · exact pt_17_3 h
theorem ptP_5 {σ : sx_S} {p : Int} (h : PT σ) (hp : isP p) : σ p 5 = p + 3 := by
  rcases hp with rfl | rfl
  · exact pt_2_5 h
  · exact pt_17_5 h
theorem ptP_7 {σ : sx_S} {p : Int} (h : PT σ) (hp : isP p) : σ p 7 = p + 4 := by
  rcases hp with rfl | rfl
  · exact pt_2_7 h
  · exact pt_17_7 h
theorem ptP_8 {σ : sx_S} {p : Int} (h : PT σ) (hp : isP p) : σ p 8 = p + 5 := by
  rcases hp with rfl | rfl
  · exact pt_2_8 h
  · exact pt_17_8 h
theorem ptP_9 {σ : sx_S} {p : Int} (h : PT σ) (hp : isP p) : σ p 9 = p + 6 := by
  rcases hp with rfl | rfl
  · exact pt_2_9 h
  · exact pt_17_9 h
theorem ptP_10 {σ : sx_S} {p : Int} (h : PT σ) (hp : isP p) : σ p 10 = p + 7 := by
  rcases hp with rfl | rfl
  · exact pt_2_10 h
  · exact pt_17_10 h
theorem ptP_11 {σ : sx_S} {p : Int} (h : PT σ) (hp : isP p) : σ p 11 = p + 8 := by
  rcases hp with rfl | rfl
  · exact pt_2_11 h
  · exact pt_17_11 h
theorem ptP_12 {σ : sx_S} {p : Int} (h : PT σ) (hp : isP p) : σ p 12 = p + 9 := by
  rcases hp with rfl | rfl
  · exact pt_2_12 h
  · exact pt_17_12 h
theorem ptP_15 {σ : sx_S} {p : Int} (h : PT σ) (hp : isP p) : σ p 15 = p + 11 := by
  rcases hp with rfl | rfl
  · exact pt_2_15 h
  · exact pt_17_15 h
theorem ptP_16 {σ : sx_S} {p : Int} (h : PT σ) (hp : isP p) : σ p 16 = p + 12 := by
  rcases hp with rfl | rfl
  · exact pt_2_16 h
  · exact pt_17_16 h
theorem ptP_17 {σ : sx_S} {p : Int} (h : PT σ) (hp : isP p) : σ p 17 = p + 13 := by
  rcases hp with rfl | rfl
  · exact pt_2_17 h
  · exact pt_17_17 h
theorem ptP_18 {σ : sx_S} {p : Int} (h : PT σ) (hp : isP p) : σ p 18 = p + 14 := by
  rcases hp with rfl | rfl
  · exact pt_2_18 h
  · exact pt_17_18 h
theorem ptF_0 {σ : sx_S} {p : Int} (h : PT σ) (hp : isP p) : σ (p + 9) 0 = p + 10 := by
  rcases hp with rfl | rfl
  · exact pt_11_0 h
  · exact pt_26_0 h
theorem sx_ixI {sh : sx_H} {t n : Nat} {a i : Int} (h : sx_lk sh a = (t, n)) (h0 : 0 ≤ i) (h1 : i < (n : Int)) : sx_ix sh t a i := ⟨by rw [h], h0, by rw [h]; exact h1⟩
theorem up_s {σ : sx_S} {a i v : Int} : sx_up σ a i v a i = v := by simp [sx_up]
theorem up_a {σ : sx_S} {a i v b j : Int} (h : ¬ b = a) : sx_up σ a i v b j = σ b j := by simp [sx_up, h]
theorem up_i {σ : sx_S} {a i v b j : Int} (h : ¬ j = i) : sx_up σ a i v b j = σ b j := by simp [sx_up, h]
/-- references stay where nothing is written to them -/
theorem PT.fr {σ σ' : sx_S} (h : PT σ) (hf : ∀ q ∈ ptL, σ' q.1 q.2.1 = σ q.1 q.2.1) : PT σ' := fun q hq => (hf q hq).trans (h q hq)
def ptA : List Int := ptL.map fun q => q.1
theorem PT.up {σ : sx_S} {a i v : Int} (h : PT σ) (ha : (ptL.all fun q => !(decide (q.1 = a) && decide (q.2.1 = i))) = true) : PT (sx_up σ a i v) := by
  refine h.fr (fun q hq => ?_)
  have h1 := List.all_eq_true.mp ha q hq
  simp only [Bool.not_eq_true', Bool.and_eq_false_iff, decide_eq_false_iff_not] at h1
  rcases h1 with h1 | h1
  · exact up_a h1
  · exact up_i h1
