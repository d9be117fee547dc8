def kX0_clear_0 : List sx_I := [(1, .aload_n 0, []), (1, .iconst 0, []), (3, .putfield 9, [0, 0, 0]), (1, .aload_n 0, []), (1, .iconst (-1), []), (3, .putfield 15, [0, 1, 0]), (1, .return_, [])]
def kX0_clear : List (Nat × List sx_I) := [(0, kX0_clear_0)]
theorem kX0_clear_c0 : sx_cd kX0_clear 0 = kX0_clear_0 := rfl
theorem kX0_clear_ok : sx_okM 0 (sx_M 1) kX0_clear = true := by decide +kernel
def kX0_addClaim_0 : List sx_I := [(1, .aload_n 0, []), (3, .getfield 9, [0, 0, 0]), (2, .bipush 24, []), (3, .if_icmp .lt 5, [11]), (1, .iconst (-1), []), (1, .ireturn, [0])]
def kX0_addClaim_11 : List sx_I := [(1, .aload_n 0, []), (3, .getfield 18, [0, 2, 2]), (1, .aload_n 0, []), (3, .getfield 9, [0, 0, 0]), (1, .iload_n 1, []), (1, .iastore, []), (1, .aload_n 0, []), (3, .getfield 22, [0, 3, 2]), (1, .aload_n 0, []), (3, .getfield 9, [0, 0, 0]), (1, .iload_n 2, []), (1, .iastore, []), (1, .aload_n 0, []), (3, .getfield 25, [0, 4, 2]), (1, .aload_n 0, []), (3, .getfield 9, [0, 0, 0]), (1, .iload_n 3, []), (1, .iastore, []), (1, .aload_n 0, []), (3, .getfield 28, [0, 5, 2]), (1, .aload_n 0, []), (3, .getfield 9, [0, 0, 0]), (2, .iload 4, []), (1, .iastore, []), (1, .aload_n 0, []), (3, .getfield 31, [0, 6, 2]), (1, .aload_n 0, []), (3, .getfield 9, [0, 0, 0]), (1, .iconst (-1), []), (1, .iastore, []), (1, .aload_n 0, []), (1, .dup, []), (3, .getfield 9, [0, 0, 0]), (1, .iconst 1, []), (1, .iadd, []), (3, .putfield 9, [0, 0, 0]), (1, .aload_n 0, []), (3, .getfield 9, [0, 0, 0]), (1, .iconst 1, []), (1, .isub, []), (1, .ireturn, [0])]
def kX0_addClaim : List (Nat × List sx_I) := [(0, kX0_addClaim_0), (11, kX0_addClaim_11)]
theorem kX0_addClaim_c0 : sx_cd kX0_addClaim 0 = kX0_addClaim_0 := rfl
theorem kX0_addClaim_c11 : sx_cd kX0_addClaim 11 = kX0_addClaim_11 := rfl
theorem kX0_addClaim_ok : sx_okM 0 (sx_M 2) kX0_addClaim = true := by decide +kernel
def kX0_addStrike_0 : List sx_I := [(1, .aload_n 0, []), (3, .getfield 9, [0, 0, 0]), (2, .bipush 24, []), (3, .if_icmp .lt 5, [11]), (1, .iconst (-1), []), (1, .ireturn, [0])]
def kX0_addStrike_11 : List sx_I := [(1, .aload_n 0, []), (3, .getfield 31, [0, 6, 2]), (1, .aload_n 0, []), (3, .getfield 9, [0, 0, 0]), (1, .iload_n 1, []), (1, .iastore, []), (1, .aload_n 0, []), (1, .dup, []), (3, .getfield 9, [0, 0, 0]), (1, .iconst 1, []), (1, .iadd, []), (3, .putfield 9, [0, 0, 0]), (1, .aload_n 0, []), (3, .getfield 9, [0, 0, 0]), (1, .iconst 1, []), (1, .isub, []), (1, .ireturn, [0])]
def kX0_addStrike : List (Nat × List sx_I) := [(0, kX0_addStrike_0), (11, kX0_addStrike_11)]
theorem kX0_addStrike_c0 : sx_cd kX0_addStrike 0 = kX0_addStrike_0 := rfl
theorem kX0_addStrike_c11 : sx_cd kX0_addStrike 11 = kX0_addStrike_11 := rfl
theorem kX0_addStrike_ok : sx_okM 0 (sx_M 3) kX0_addStrike = true := by decide +kernel
def kX0_knownSize_0 : List sx_I := [(1, .aload_n 0, []), (3, .getfield 15, [0, 1, 0]), (1, .iconst (-1), []), (3, .if_icmp .ne 10, [15]), (1, .aload_n 0, []), (3, .getfield 9, [0, 0, 0]), (3, .goto 7, [19])]
def kX0_knownSize_15 : List sx_I := [(1, .aload_n 0, []), (3, .getfield 15, [0, 1, 0]), (0, .nop, [19])]
def kX0_knownSize_19 : List sx_I := [(1, .ireturn, [0])]
def kX0_knownSize : List (Nat × List sx_I) := [(0, kX0_knownSize_0), (15, kX0_knownSize_15), (19, kX0_knownSize_19)]
theorem kX0_knownSize_c0 : sx_cd kX0_knownSize 0 = kX0_knownSize_0 := rfl
theorem kX0_knownSize_c15 : sx_cd kX0_knownSize 15 = kX0_knownSize_15 := rfl
theorem kX0_knownSize_c19 : sx_cd kX0_knownSize 19 = kX0_knownSize_19 := rfl
theorem kX0_knownSize_ok : sx_okM 0 (sx_M 4) kX0_knownSize = true := by decide +kernel
def kX0_findStruck_0 : List sx_I := [(1, .aload_n 0, []), (3, .getfield 34, [0, 7, 2]), (1, .iconst 0, []), (3, .invokestatic 37, [4, 308, 2]), (1, .iload_n 1, []), (1, .iconst 1, []), (1, .isub, []), (1, .istore_n 2, []), (0, .nop, [12])]
def kX0_findStruck_12 : List sx_I := [(1, .iload_n 2, []), (3, .ifCond .lt 41, [54]), (1, .aload_n 0, []), (3, .getfield 31, [0, 6, 2]), (1, .iload_n 2, []), (1, .iaload, []), (1, .istore_n 3, []), (1, .iload_n 3, []), (3, .ifCond .lt 24, [48]), (1, .iload_n 3, []), (1, .iload_n 2, []), (3, .if_icmp .ge 19, [48]), (1, .aload_n 0, []), (3, .getfield 34, [0, 7, 2]), (1, .iload_n 2, []), (1, .iaload, []), (3, .ifCond .ne 10, [48]), (1, .aload_n 0, []), (3, .getfield 34, [0, 7, 2]), (1, .iload_n 3, []), (1, .iconst 1, []), (1, .iastore, []), (0, .nop, [48])]
def kX0_findStruck_48 : List sx_I := [(3, .iinc 2 (-1), []), (3, .goto (-39), [12])]
def kX0_findStruck_54 : List sx_I := [(1, .return_, [])]
def kX0_findStruck : List (Nat × List sx_I) := [(0, kX0_findStruck_0), (12, kX0_findStruck_12), (48, kX0_findStruck_48), (54, kX0_findStruck_54)]
theorem kX0_findStruck_c0 : sx_cd kX0_findStruck 0 = kX0_findStruck_0 := rfl
theorem kX0_findStruck_c12 : sx_cd kX0_findStruck 12 = kX0_findStruck_12 := rfl
theorem kX0_findStruck_c48 : sx_cd kX0_findStruck 48 = kX0_findStruck_48 := rfl
theorem kX0_findStruck_c54 : sx_cd kX0_findStruck 54 = kX0_findStruck_54 := rfl
theorem kX0_findStruck_ok : sx_okM 0 (sx_M 5) kX0_findStruck = true := by decide +kernel
def kX0_firstWrong_0 : List sx_I := [(1, .aload_n 0, []), (3, .invokevirtual 43, [0, 4, 1, 0]), (1, .istore_n 2, []), (1, .aload_n 0, []), (1, .iload_n 2, []), (3, .invokevirtual 47, [0, 5, 2, 0]), (1, .iconst 0, []), (1, .istore_n 3, []), (0, .nop, [12])]
def kX0_firstWrong_12 : List sx_I := [(1, .iload_n 3, []), (1, .iload_n 2, []), (3, .if_icmp .ge 39, [53]), (1, .aload_n 0, []), (3, .getfield 31, [0, 6, 2]), (1, .iload_n 3, []), (1, .iaload, []), (1, .iconst (-1), []), (3, .if_icmp .ne 23, [47]), (1, .aload_n 0, []), (3, .getfield 34, [0, 7, 2]), (1, .iload_n 3, []), (1, .iaload, []), (3, .ifCond .ne 14, [47]), (1, .aload_n 0, []), (1, .iload_n 3, []), (1, .aload_n 1, []), (3, .invokevirtual 51, [0, 7, 3, 0]), (3, .ifCond .ne 5, [47]), (1, .iload_n 3, []), (1, .ireturn, [0])]
def kX0_firstWrong_47 : List sx_I := [(3, .iinc 3 1, []), (3, .goto (-38), [12])]
def kX0_firstWrong_53 : List sx_I := [(1, .iconst (-1), []), (1, .ireturn, [0])]
def kX0_firstWrong : List (Nat × List sx_I) := [(0, kX0_firstWrong_0), (12, kX0_firstWrong_12), (47, kX0_firstWrong_47), (53, kX0_firstWrong_53)]
theorem kX0_firstWrong_c0 : sx_cd kX0_firstWrong 0 = kX0_firstWrong_0 := rfl
theorem kX0_firstWrong_c12 : sx_cd kX0_firstWrong 12 = kX0_firstWrong_12 := rfl
theorem kX0_firstWrong_c47 : sx_cd kX0_firstWrong 47 = kX0_firstWrong_47 := rfl
theorem kX0_firstWrong_c53 : sx_cd kX0_firstWrong 53 = kX0_firstWrong_53 := rfl
theorem kX0_firstWrong_ok : sx_okM 0 (sx_M 6) kX0_firstWrong = true := by decide +kernel
def kX0_holds_0 : List sx_I := [(1, .aload_n 2, []), (3, .getfield 55, [9, 5, 2]), (1, .astore_n 3, []), (1, .aload_n 3, []), (1, .aload_n 0, []), (3, .getfield 18, [0, 2, 2]), (1, .iload_n 1, []), (1, .iaload, []), (3, .invokevirtual 61, [0, 39, 2, 4]), (2, .istore 4, []), (2, .iload 4, []), (1, .iconst (-1), []), (3, .if_icmp .eq 65, [85]), (1, .aload_n 3, []), (3, .getfield 67, [4, 8, 2]), (2, .iload 4, []), (1, .iaload, []), (3, .ifCond .ne 55, [85]), (1, .aload_n 3, []), (3, .getfield 70, [4, 1, 2]), (2, .iload 4, []), (1, .iaload, []), (1, .aload_n 0, []), (3, .getfield 22, [0, 3, 2]), (1, .iload_n 1, []), (1, .iaload, []), (3, .if_icmp .ne 39, [85]), (1, .aload_n 3, []), (3, .getfield 73, [4, 4, 2]), (2, .iload 4, []), (1, .iaload, []), (1, .aload_n 0, []), (3, .getfield 25, [0, 4, 2]), (1, .iload_n 1, []), (1, .iaload, []), (3, .if_icmp .lt 23, [85]), (1, .aload_n 3, []), (3, .getfield 73, [4, 4, 2]), (2, .iload 4, []), (1, .iaload, []), (1, .aload_n 0, []), (3, .getfield 28, [0, 5, 2]), (1, .iload_n 1, []), (1, .iaload, []), (3, .if_icmp .gt 7, [85]), (1, .iconst 1, []), (3, .goto 4, [86])]
def kX0_holds_85 : List sx_I := [(1, .iconst 0, []), (0, .nop, [86])]
def kX0_holds_86 : List sx_I := [(1, .ireturn, [1])]
def kX0_holds : List (Nat × List sx_I) := [(0, kX0_holds_0), (85, kX0_holds_85), (86, kX0_holds_86)]
theorem kX0_holds_c0 : sx_cd kX0_holds 0 = kX0_holds_0 := rfl
theorem kX0_holds_c85 : sx_cd kX0_holds 85 = kX0_holds_85 := rfl
theorem kX0_holds_c86 : sx_cd kX0_holds 86 = kX0_holds_86 := rfl
theorem kX0_holds_ok : sx_okM 0 (sx_M 7) kX0_holds = true := by decide +kernel
def kX1_whole_0 : List sx_I := [(1, .iconst 1, []), (1, .istore_n 2, []), (1, .iconst 0, []), (1, .istore_n 3, []), (0, .nop, [4])]
def kX1_whole_4 : List sx_I := [(1, .iload_n 3, []), (1, .iload_n 1, []), (3, .if_icmp .ge 14, [20]), (1, .iload_n 2, []), (2, .bipush 100, []), (1, .imul, []), (1, .istore_n 2, []), (3, .iinc 3 1, []), (3, .goto (-13), [4])]
def kX1_whole_20 : List sx_I := [(1, .iload_n 2, []), (1, .ireturn, [0])]
def kX1_whole : List (Nat × List sx_I) := [(0, kX1_whole_0), (4, kX1_whole_4), (20, kX1_whole_20)]
theorem kX1_whole_c0 : sx_cd kX1_whole 0 = kX1_whole_0 := rfl
theorem kX1_whole_c4 : sx_cd kX1_whole 4 = kX1_whole_4 := rfl
theorem kX1_whole_c20 : sx_cd kX1_whole 20 = kX1_whole_20 := rfl
theorem kX1_whole_ok : sx_okM 1 (sx_M 9) kX1_whole = true := by decide +kernel
def kX1_odds_0 : List sx_I := [(1, .iconst 1, []), (1, .istore_n 3, []), (1, .iload_n 1, []), (2, .istore 4, []), (0, .nop, [5])]
def kX1_odds_5 : List sx_I := [(2, .iload 4, []), (1, .iload_n 1, []), (1, .iload_n 2, []), (1, .iadd, []), (3, .if_icmp .ge 39, [49]), (1, .iload_n 3, []), (2, .iload 4, []), (3, .ifCond .lt 23, [39]), (2, .iload 4, []), (2, .bipush 24, []), (3, .if_icmp .ge 16, [39]), (2, .bipush 100, []), (1, .aload_n 0, []), (3, .getfield 9, [1, 0, 2]), (2, .iload 4, []), (1, .iaload, []), (1, .isub, []), (3, .goto 5, [41])]
def kX1_odds_39 : List sx_I := [(2, .bipush 100, []), (0, .nop, [41])]
def kX1_odds_41 : List sx_I := [(1, .imul, []), (1, .istore_n 3, []), (3, .iinc 4 1, []), (3, .goto (-41), [5])]
def kX1_odds_49 : List sx_I := [(1, .aload_n 0, []), (1, .iload_n 2, []), (3, .invokevirtual 15, [0, 9, 2, 1]), (1, .iload_n 3, []), (1, .isub, []), (1, .ireturn, [0])]
def kX1_odds : List (Nat × List sx_I) := [(0, kX1_odds_0), (5, kX1_odds_5), (39, kX1_odds_39), (41, kX1_odds_41), (49, kX1_odds_49)]
theorem kX1_odds_c0 : sx_cd kX1_odds 0 = kX1_odds_0 := rfl
theorem kX1_odds_c5 : sx_cd kX1_odds 5 = kX1_odds_5 := rfl
theorem kX1_odds_c39 : sx_cd kX1_odds 39 = kX1_odds_39 := rfl
theorem kX1_odds_c41 : sx_cd kX1_odds 41 = kX1_odds_41 := rfl
theorem kX1_odds_c49 : sx_cd kX1_odds 49 = kX1_odds_49 := rfl
theorem kX1_odds_ok : sx_okM 1 (sx_M 10) kX1_odds = true := by decide +kernel
def kX1_gain_0 : List sx_I := [(1, .aload_n 0, []), (1, .iload_n 1, []), (1, .iconst 2, []), (3, .invokevirtual 19, [0, 10, 3, 1]), (1, .istore_n 3, []), (1, .iload_n 2, []), (1, .iload_n 1, []), (3, .if_icmp .ge 9, [18]), (1, .iload_n 3, []), (1, .iconst 2, []), (1, .idiv, []), (3, .goto 4, [19])]
def kX1_gain_18 : List sx_I := [(1, .iload_n 3, []), (0, .nop, [19])]
def kX1_gain_19 : List sx_I := [(1, .ireturn, [0])]
def kX1_gain : List (Nat × List sx_I) := [(0, kX1_gain_0), (18, kX1_gain_18), (19, kX1_gain_19)]
theorem kX1_gain_c0 : sx_cd kX1_gain 0 = kX1_gain_0 := rfl
theorem kX1_gain_c18 : sx_cd kX1_gain 18 = kX1_gain_18 := rfl
theorem kX1_gain_c19 : sx_cd kX1_gain 19 = kX1_gain_19 := rfl
theorem kX1_gain_ok : sx_okM 1 (sx_M 11) kX1_gain = true := by decide +kernel
def kX1_isRest_0 : List sx_I := [(1, .aload_n 0, []), (1, .iload_n 1, []), (1, .iload_n 2, []), (3, .invokevirtual 23, [0, 11, 3, 1]), (2, .istore 5, []), (1, .aload_n 0, []), (1, .iload_n 2, []), (1, .iload_n 1, []), (3, .invokevirtual 23, [0, 11, 3, 1]), (2, .istore 6, []), (1, .iload_n 3, []), (2, .istore 7, []), (0, .nop, [19])]
def kX1_isRest_19 : List sx_I := [(2, .iload 7, []), (1, .iload_n 3, []), (2, .iload 4, []), (1, .iadd, []), (3, .if_icmp .ge 35, [60]), (1, .aload_n 0, []), (2, .iload 7, []), (1, .iload_n 2, []), (3, .invokevirtual 23, [0, 11, 3, 1]), (2, .iload 5, []), (3, .if_icmp .gt 15, [52]), (1, .aload_n 0, []), (2, .iload 7, []), (1, .iload_n 1, []), (3, .invokevirtual 23, [0, 11, 3, 1]), (2, .iload 6, []), (3, .if_icmp .le 5, [54]), (0, .nop, [52])]
def kX1_isRest_52 : List sx_I := [(1, .iconst 0, []), (1, .ireturn, [1])]
def kX1_isRest_54 : List sx_I := [(3, .iinc 7 1, []), (3, .goto (-38), [19])]
def kX1_isRest_60 : List sx_I := [(1, .iconst 1, []), (1, .ireturn, [1])]
def kX1_isRest : List (Nat × List sx_I) := [(0, kX1_isRest_0), (19, kX1_isRest_19), (52, kX1_isRest_52), (54, kX1_isRest_54), (60, kX1_isRest_60)]
theorem kX1_isRest_c0 : sx_cd kX1_isRest 0 = kX1_isRest_0 := rfl
theorem kX1_isRest_c19 : sx_cd kX1_isRest 19 = kX1_isRest_19 := rfl
theorem kX1_isRest_c52 : sx_cd kX1_isRest 52 = kX1_isRest_52 := rfl
theorem kX1_isRest_c54 : sx_cd kX1_isRest 54 = kX1_isRest_54 := rfl
theorem kX1_isRest_c60 : sx_cd kX1_isRest 60 = kX1_isRest_60 := rfl
theorem kX1_isRest_ok : sx_okM 1 (sx_M 12) kX1_isRest = true := by decide +kernel
def kX2_begin_0 : List sx_I := [(1, .aload_n 0, []), (1, .aload_n 1, []), (3, .putfield 9, [2, 0, 2]), (1, .aload_n 0, []), (1, .iload_n 2, []), (3, .putfield 15, [2, 1, 0]), (1, .aload_n 0, []), (1, .iconst 0, []), (3, .putfield 19, [2, 2, 0]), (1, .aload_n 0, []), (3, .invokevirtual 22, [0, 16, 1, 2]), (1, .return_, [])]
def kX2_begin : List (Nat × List sx_I) := [(0, kX2_begin_0)]
theorem kX2_begin_c0 : sx_cd kX2_begin 0 = kX2_begin_0 := rfl
theorem kX2_begin_ok : sx_okM 2 (sx_M 14) kX2_begin = true := by decide +kernel
def kX2_byteAt_0 : List sx_I := [(1, .iload_n 1, []), (1, .aload_n 0, []), (3, .getfield 15, [2, 1, 0]), (3, .if_icmp .ge 25, [30]), (1, .iload_n 1, []), (1, .aload_n 0, []), (3, .getfield 9, [2, 0, 2]), (1, .arraylength, []), (3, .if_icmp .ge 16, [30]), (1, .aload_n 0, []), (3, .getfield 9, [2, 0, 2]), (1, .iload_n 1, []), (1, .baload, [3]), (3, .sipush 255, []), (1, .iand, []), (3, .goto 4, [31])]
def kX2_byteAt_30 : List sx_I := [(1, .iconst 0, []), (0, .nop, [31])]
def kX2_byteAt_31 : List sx_I := [(1, .ireturn, [0])]
def kX2_byteAt : List (Nat × List sx_I) := [(0, kX2_byteAt_0), (30, kX2_byteAt_30), (31, kX2_byteAt_31)]
theorem kX2_byteAt_c0 : sx_cd kX2_byteAt 0 = kX2_byteAt_0 := rfl
theorem kX2_byteAt_c30 : sx_cd kX2_byteAt 30 = kX2_byteAt_30 := rfl
theorem kX2_byteAt_c31 : sx_cd kX2_byteAt 31 = kX2_byteAt_31 := rfl
theorem kX2_byteAt_ok : sx_okM 2 (sx_M 15) kX2_byteAt = true := by decide +kernel
def kX2_advance_0 : List sx_I := [(1, .aload_n 0, []), (3, .getfield 19, [2, 2, 0]), (1, .aload_n 0, []), (3, .getfield 15, [2, 1, 0]), (3, .if_icmp .ge 42, [50]), (1, .aload_n 0, []), (1, .aload_n 0, []), (3, .getfield 19, [2, 2, 0]), (3, .invokevirtual 25, [0, 15, 2, 2]), (2, .bipush 10, []), (3, .if_icmp .eq 16, [37]), (1, .aload_n 0, []), (1, .aload_n 0, []), (3, .getfield 19, [2, 2, 0]), (3, .invokevirtual 25, [0, 15, 2, 2]), (2, .bipush 32, []), (3, .if_icmp .ne 16, [50]), (0, .nop, [37])]
def kX2_advance_37 : List sx_I := [(1, .aload_n 0, []), (1, .dup, []), (3, .getfield 19, [2, 2, 0]), (1, .iconst 1, []), (1, .iadd, []), (3, .putfield 19, [2, 2, 0]), (3, .goto (-47), [0])]
def kX2_advance_50 : List sx_I := [(1, .aload_n 0, []), (1, .aload_n 0, []), (3, .getfield 19, [2, 2, 0]), (3, .putfield 29, [2, 4, 0]), (1, .aload_n 0, []), (3, .getfield 19, [2, 2, 0]), (1, .aload_n 0, []), (3, .getfield 15, [2, 1, 0]), (3, .if_icmp .lt 10, [76]), (1, .aload_n 0, []), (2, .bipush 36, []), (3, .putfield 32, [2, 3, 0]), (1, .return_, [])]
def kX2_advance_76 : List sx_I := [(1, .aload_n 0, []), (1, .aload_n 0, []), (3, .getfield 19, [2, 2, 0]), (3, .invokevirtual 25, [0, 15, 2, 2]), (1, .istore_n 1, []), (1, .iload_n 1, []), (3, .invokestatic 35, [4, 17, 1]), (3, .ifCond .eq 10, [99]), (1, .aload_n 0, []), (3, .invokevirtual 39, [0, 19, 1, 2]), (3, .goto 36, [132])]
def kX2_advance_99 : List sx_I := [(1, .iload_n 1, []), (3, .invokestatic 42, [4, 18, 1]), (3, .ifCond .eq 10, [113]), (1, .aload_n 0, []), (3, .invokevirtual 45, [0, 21, 1, 2]), (3, .goto 22, [132])]
def kX2_advance_113 : List sx_I := [(1, .aload_n 0, []), (1, .dup, []), (3, .getfield 19, [2, 2, 0]), (1, .iconst 1, []), (1, .iadd, []), (3, .putfield 19, [2, 2, 0]), (1, .aload_n 0, []), (1, .aload_n 0, []), (1, .iload_n 1, []), (3, .invokevirtual 48, [0, 22, 2, 2]), (3, .putfield 32, [2, 3, 0]), (0, .nop, [132])]
def kX2_advance_132 : List sx_I := [(1, .return_, [])]
def kX2_advance : List (Nat × List sx_I) := [(0, kX2_advance_0), (37, kX2_advance_37), (50, kX2_advance_50), (76, kX2_advance_76), (99, kX2_advance_99), (113, kX2_advance_113), (132, kX2_advance_132)]
theorem kX2_advance_c0 : sx_cd kX2_advance 0 = kX2_advance_0 := rfl
theorem kX2_advance_c37 : sx_cd kX2_advance 37 = kX2_advance_37 := rfl
theorem kX2_advance_c50 : sx_cd kX2_advance 50 = kX2_advance_50 := rfl
theorem kX2_advance_c76 : sx_cd kX2_advance 76 = kX2_advance_76 := rfl
theorem kX2_advance_c99 : sx_cd kX2_advance 99 = kX2_advance_99 := rfl
theorem kX2_advance_c113 : sx_cd kX2_advance 113 = kX2_advance_113 := rfl
theorem kX2_advance_c132 : sx_cd kX2_advance 132 = kX2_advance_132 := rfl
theorem kX2_advance_ok : sx_okM 2 (sx_M 16) kX2_advance = true := by decide +kernel
def kX2_isLetter_0 : List sx_I := [(1, .iload_n 0, []), (2, .bipush 97, []), (3, .if_icmp .lt 13, [16]), (1, .iload_n 0, []), (2, .bipush 122, []), (3, .if_icmp .gt 7, [16]), (1, .iconst 1, []), (3, .goto 4, [17])]
def kX2_isLetter_16 : List sx_I := [(1, .iconst 0, []), (0, .nop, [17])]
def kX2_isLetter_17 : List sx_I := [(1, .ireturn, [1])]
def kX2_isLetter : List (Nat × List sx_I) := [(0, kX2_isLetter_0), (16, kX2_isLetter_16), (17, kX2_isLetter_17)]
theorem kX2_isLetter_c0 : sx_cd kX2_isLetter 0 = kX2_isLetter_0 := rfl
theorem kX2_isLetter_c16 : sx_cd kX2_isLetter 16 = kX2_isLetter_16 := rfl
theorem kX2_isLetter_c17 : sx_cd kX2_isLetter 17 = kX2_isLetter_17 := rfl
theorem kX2_isLetter_ok : sx_okM 2 (sx_M 17) kX2_isLetter = true := by decide +kernel
def kX2_isDigit_0 : List sx_I := [(1, .iload_n 0, []), (2, .bipush 48, []), (3, .if_icmp .lt 13, [16]), (1, .iload_n 0, []), (2, .bipush 57, []), (3, .if_icmp .gt 7, [16]), (1, .iconst 1, []), (3, .goto 4, [17])]
def kX2_isDigit_16 : List sx_I := [(1, .iconst 0, []), (0, .nop, [17])]
def kX2_isDigit_17 : List sx_I := [(1, .ireturn, [1])]
def kX2_isDigit : List (Nat × List sx_I) := [(0, kX2_isDigit_0), (16, kX2_isDigit_16), (17, kX2_isDigit_17)]
theorem kX2_isDigit_c0 : sx_cd kX2_isDigit 0 = kX2_isDigit_0 := rfl
theorem kX2_isDigit_c16 : sx_cd kX2_isDigit 16 = kX2_isDigit_16 := rfl
theorem kX2_isDigit_c17 : sx_cd kX2_isDigit 17 = kX2_isDigit_17 := rfl
theorem kX2_isDigit_ok : sx_okM 2 (sx_M 18) kX2_isDigit = true := by decide +kernel
def kX2_takeWord_0 : List sx_I := [(1, .aload_n 0, []), (1, .iconst 0, []), (3, .putfield 51, [2, 6, 0]), (0, .nop, [5])]
def kX2_takeWord_5 : List sx_I := [(1, .aload_n 0, []), (3, .getfield 19, [2, 2, 0]), (1, .aload_n 0, []), (3, .getfield 15, [2, 1, 0]), (3, .if_icmp .ge 75, [88]), (1, .aload_n 0, []), (1, .aload_n 0, []), (3, .getfield 19, [2, 2, 0]), (3, .invokevirtual 25, [0, 15, 2, 2]), (3, .invokestatic 35, [4, 17, 1]), (3, .ifCond .eq 61, [88]), (1, .aload_n 0, []), (3, .getfield 19, [2, 2, 0]), (1, .aload_n 0, []), (3, .getfield 29, [2, 4, 0]), (1, .isub, []), (1, .istore_n 1, []), (1, .iload_n 1, []), (2, .bipush 6, []), (3, .if_icmp .ge 32, [75]), (1, .aload_n 0, []), (1, .dup, []), (3, .getfield 51, [2, 6, 0]), (1, .aload_n 0, []), (1, .aload_n 0, []), (3, .getfield 19, [2, 2, 0]), (3, .invokevirtual 25, [0, 15, 2, 2]), (2, .bipush 97, []), (1, .isub, []), (1, .iconst 1, []), (1, .iadd, []), (2, .bipush 25, []), (1, .iconst 5, []), (1, .iload_n 1, []), (1, .imul, []), (1, .isub, []), (1, .ishl, []), (1, .ior, []), (3, .putfield 51, [2, 6, 0]), (0, .nop, [75])]
def kX2_takeWord_75 : List sx_I := [(1, .aload_n 0, []), (1, .dup, []), (3, .getfield 19, [2, 2, 0]), (1, .iconst 1, []), (1, .iadd, []), (3, .putfield 19, [2, 2, 0]), (3, .goto (-80), [5])]
def kX2_takeWord_88 : List sx_I := [(1, .aload_n 0, []), (1, .aload_n 0, []), (3, .getfield 19, [2, 2, 0]), (1, .aload_n 0, []), (3, .getfield 29, [2, 4, 0]), (1, .isub, []), (2, .bipush 6, []), (3, .if_icmp .le 8, [108]), (2, .bipush 35, []), (3, .goto 7, [112])]
def kX2_takeWord_108 : List sx_I := [(1, .aload_n 0, []), (3, .invokevirtual 54, [0, 20, 1, 2]), (0, .nop, [112])]
def kX2_takeWord_112 : List sx_I := [(3, .putfield 32, [2, 3, 0]), (1, .return_, [])]
def kX2_takeWord : List (Nat × List sx_I) := [(0, kX2_takeWord_0), (5, kX2_takeWord_5), (75, kX2_takeWord_75), (88, kX2_takeWord_88), (108, kX2_takeWord_108), (112, kX2_takeWord_112)]
theorem kX2_takeWord_c0 : sx_cd kX2_takeWord 0 = kX2_takeWord_0 := rfl
theorem kX2_takeWord_c5 : sx_cd kX2_takeWord 5 = kX2_takeWord_5 := rfl
theorem kX2_takeWord_c75 : sx_cd kX2_takeWord 75 = kX2_takeWord_75 := rfl
theorem kX2_takeWord_c88 : sx_cd kX2_takeWord 88 = kX2_takeWord_88 := rfl
theorem kX2_takeWord_c108 : sx_cd kX2_takeWord 108 = kX2_takeWord_108 := rfl
theorem kX2_takeWord_c112 : sx_cd kX2_takeWord 112 = kX2_takeWord_112 := rfl
theorem kX2_takeWord_ok : sx_okM 2 (sx_M 19) kX2_takeWord = true := by decide +kernel
def kX2_takeNumber_0 : List sx_I := [(1, .aload_n 0, []), (1, .iconst 0, []), (3, .putfield 66, [2, 5, 0]), (0, .nop, [5])]
def kX2_takeNumber_5 : List sx_I := [(1, .aload_n 0, []), (3, .getfield 19, [2, 2, 0]), (1, .aload_n 0, []), (3, .getfield 15, [2, 1, 0]), (3, .if_icmp .ge 58, [71]), (1, .aload_n 0, []), (1, .aload_n 0, []), (3, .getfield 19, [2, 2, 0]), (3, .invokevirtual 25, [0, 15, 2, 2]), (3, .invokestatic 42, [4, 18, 1]), (3, .ifCond .eq 44, [71]), (1, .aload_n 0, []), (2, .ldc 69, [1000000, 0]), (1, .aload_n 0, []), (3, .getfield 66, [2, 5, 0]), (2, .bipush 10, []), (1, .imul, []), (1, .aload_n 0, []), (1, .aload_n 0, []), (3, .getfield 19, [2, 2, 0]), (3, .invokevirtual 25, [0, 15, 2, 2]), (1, .iadd, []), (2, .bipush 48, []), (1, .isub, []), (3, .invokestatic 70, [1, 1]), (3, .putfield 66, [2, 5, 0]), (1, .aload_n 0, []), (1, .dup, []), (3, .getfield 19, [2, 2, 0]), (1, .iconst 1, []), (1, .iadd, []), (3, .putfield 19, [2, 2, 0]), (3, .goto (-63), [5])]
def kX2_takeNumber_71 : List sx_I := [(1, .aload_n 0, []), (2, .bipush 21, []), (3, .putfield 32, [2, 3, 0]), (1, .return_, [])]
def kX2_takeNumber : List (Nat × List sx_I) := [(0, kX2_takeNumber_0), (5, kX2_takeNumber_5), (71, kX2_takeNumber_71)]
theorem kX2_takeNumber_c0 : sx_cd kX2_takeNumber 0 = kX2_takeNumber_0 := rfl
theorem kX2_takeNumber_c5 : sx_cd kX2_takeNumber 5 = kX2_takeNumber_5 := rfl
theorem kX2_takeNumber_c71 : sx_cd kX2_takeNumber 71 = kX2_takeNumber_71 := rfl
theorem kX2_takeNumber_ok : sx_okM 2 (sx_M 21) kX2_takeNumber = true := by decide +kernel
def kX2_signType_0 : List sx_I := [(1, .iload_n 1, []), (107, .tableswitch 179 40 62 #[110, 113, 173, 167, 179, 170, 179, 176, 179, 179, 179, 179, 179, 179, 179, 179, 179, 179, 179, 107, 116, 147, 150], [180, 111, 114, 174, 168, 180, 171, 180, 177, 180, 180, 180, 180, 180, 180, 180, 180, 180, 180, 180, 108, 117, 148, 151])]
def kX2_signType_108 : List sx_I := [(2, .bipush 22, []), (1, .ireturn, [0])]
def kX2_signType_111 : List sx_I := [(2, .bipush 23, []), (1, .ireturn, [0])]
def kX2_signType_114 : List sx_I := [(2, .bipush 24, []), (1, .ireturn, [0])]
def kX2_signType_117 : List sx_I := [(1, .aload_n 0, []), (2, .bipush 61, []), (3, .invokevirtual 76, [0, 23, 2, 2]), (3, .ifCond .eq 8, [131]), (2, .bipush 26, []), (3, .goto 19, [147])]
def kX2_signType_131 : List sx_I := [(1, .aload_n 0, []), (2, .bipush 62, []), (3, .invokevirtual 76, [0, 23, 2, 2]), (3, .ifCond .eq 8, [145]), (2, .bipush 28, []), (3, .goto 5, [147])]
def kX2_signType_145 : List sx_I := [(2, .bipush 25, []), (0, .nop, [147])]
def kX2_signType_147 : List sx_I := [(1, .ireturn, [0])]
def kX2_signType_148 : List sx_I := [(2, .bipush 27, []), (1, .ireturn, [0])]
def kX2_signType_151 : List sx_I := [(1, .aload_n 0, []), (2, .bipush 61, []), (3, .invokevirtual 76, [0, 23, 2, 2]), (3, .ifCond .eq 8, [165]), (2, .bipush 29, []), (3, .goto 5, [167])]
def kX2_signType_165 : List sx_I := [(2, .bipush 30, []), (0, .nop, [167])]
def kX2_signType_167 : List sx_I := [(1, .ireturn, [0])]
def kX2_signType_168 : List sx_I := [(2, .bipush 31, []), (1, .ireturn, [0])]
def kX2_signType_171 : List sx_I := [(2, .bipush 32, []), (1, .ireturn, [0])]
def kX2_signType_174 : List sx_I := [(2, .bipush 33, []), (1, .ireturn, [0])]
def kX2_signType_177 : List sx_I := [(2, .bipush 34, []), (1, .ireturn, [0])]
def kX2_signType_180 : List sx_I := [(2, .bipush 35, []), (1, .ireturn, [0])]
def kX2_signType : List (Nat × List sx_I) := [(0, kX2_signType_0), (108, kX2_signType_108), (111, kX2_signType_111), (114, kX2_signType_114), (117, kX2_signType_117), (131, kX2_signType_131), (145, kX2_signType_145), (147, kX2_signType_147), (148, kX2_signType_148), (151, kX2_signType_151), (165, kX2_signType_165), (167, kX2_signType_167), (168, kX2_signType_168), (171, kX2_signType_171), (174, kX2_signType_174), (177, kX2_signType_177), (180, kX2_signType_180)]
theorem kX2_signType_c0 : sx_cd kX2_signType 0 = kX2_signType_0 := rfl
theorem kX2_signType_c108 : sx_cd kX2_signType 108 = kX2_signType_108 := rfl
theorem kX2_signType_c111 : sx_cd kX2_signType 111 = kX2_signType_111 := rfl
theorem kX2_signType_c114 : sx_cd kX2_signType 114 = kX2_signType_114 := rfl
theorem kX2_signType_c117 : sx_cd kX2_signType 117 = kX2_signType_117 := rfl
theorem kX2_signType_c131 : sx_cd kX2_signType 131 = kX2_signType_131 := rfl
theorem kX2_signType_c145 : sx_cd kX2_signType 145 = kX2_signType_145 := rfl
theorem kX2_signType_c147 : sx_cd kX2_signType 147 = kX2_signType_147 := rfl
theorem kX2_signType_c148 : sx_cd kX2_signType 148 = kX2_signType_148 := rfl
theorem kX2_signType_c151 : sx_cd kX2_signType 151 = kX2_signType_151 := rfl
theorem kX2_signType_c165 : sx_cd kX2_signType 165 = kX2_signType_165 := rfl
theorem kX2_signType_c167 : sx_cd kX2_signType 167 = kX2_signType_167 := rfl
theorem kX2_signType_c168 : sx_cd kX2_signType 168 = kX2_signType_168 := rfl
theorem kX2_signType_c171 : sx_cd kX2_signType 171 = kX2_signType_171 := rfl
theorem kX2_signType_c174 : sx_cd kX2_signType 174 = kX2_signType_174 := rfl
theorem kX2_signType_c177 : sx_cd kX2_signType 177 = kX2_signType_177 := rfl
theorem kX2_signType_c180 : sx_cd kX2_signType 180 = kX2_signType_180 := rfl
theorem kX2_signType_ok : sx_okM 2 (sx_M 22) kX2_signType = true := by decide +kernel
def kX2_takeNext_0 : List sx_I := [(1, .aload_n 0, []), (1, .aload_n 0, []), (3, .getfield 19, [2, 2, 0]), (3, .invokevirtual 25, [0, 15, 2, 2]), (1, .iload_n 1, []), (3, .if_icmp .eq 5, [14]), (1, .iconst 0, []), (1, .ireturn, [1])]
def kX2_takeNext_14 : List sx_I := [(1, .aload_n 0, []), (1, .dup, []), (3, .getfield 19, [2, 2, 0]), (1, .iconst 1, []), (1, .iadd, []), (3, .putfield 19, [2, 2, 0]), (1, .iconst 1, []), (1, .ireturn, [1])]
def kX2_takeNext : List (Nat × List sx_I) := [(0, kX2_takeNext_0), (14, kX2_takeNext_14)]
theorem kX2_takeNext_c0 : sx_cd kX2_takeNext 0 = kX2_takeNext_0 := rfl
theorem kX2_takeNext_c14 : sx_cd kX2_takeNext 14 = kX2_takeNext_14 := rfl
theorem kX2_takeNext_ok : sx_okM 2 (sx_M 23) kX2_takeNext = true := by decide +kernel
def kX3_noteStep_0 : List sx_I := [(1, .aload_n 0, []), (1, .iload_n 3, []), (3, .ifCond .eq 7, [9]), (1, .iconst 1, []), (3, .goto 4, [10])]
def kX3_noteStep_9 : List sx_I := [(1, .iconst 0, []), (0, .nop, [10])]
def kX3_noteStep_10 : List sx_I := [(1, .iload_n 1, []), (1, .iload_n 2, []), (3, .invokevirtual 33, [0, 29, 4, 3]), (1, .return_, [])]
def kX3_noteStep : List (Nat × List sx_I) := [(0, kX3_noteStep_0), (9, kX3_noteStep_9), (10, kX3_noteStep_10)]
theorem kX3_noteStep_c0 : sx_cd kX3_noteStep 0 = kX3_noteStep_0 := rfl
theorem kX3_noteStep_c9 : sx_cd kX3_noteStep 9 = kX3_noteStep_9 := rfl
theorem kX3_noteStep_c10 : sx_cd kX3_noteStep 10 = kX3_noteStep_10 := rfl
theorem kX3_noteStep_ok : sx_okM 3 (sx_M 25) kX3_noteStep = true := by decide +kernel
def kX3_noteBoots_0 : List sx_I := [(1, .aload_n 0, []), (1, .iconst 2, []), (1, .iload_n 1, []), (1, .iload_n 2, []), (3, .invokevirtual 33, [0, 29, 4, 3]), (1, .return_, [])]
def kX3_noteBoots : List (Nat × List sx_I) := [(0, kX3_noteBoots_0)]
theorem kX3_noteBoots_c0 : sx_cd kX3_noteBoots 0 = kX3_noteBoots_0 := rfl
theorem kX3_noteBoots_ok : sx_okM 3 (sx_M 26) kX3_noteBoots = true := by decide +kernel
def kX3_foxRow_0 : List sx_I := [(1, .aload_n 0, []), (3, .getfield 30, [3, 5, 2]), (1, .aload_n 0, []), (3, .getfield 15, [3, 1, 0]), (1, .aaload, []), (1, .areturn, [])]
def kX3_foxRow : List (Nat × List sx_I) := [(0, kX3_foxRow_0)]
theorem kX3_foxRow_c0 : sx_cd kX3_foxRow 0 = kX3_foxRow_0 := rfl
theorem kX3_foxRow_ok : sx_okM 3 (sx_M 27) kX3_foxRow = true := by decide +kernel
def kX3_noteFox_0 : List sx_I := [(1, .aload_n 0, []), (1, .iconst 3, []), (1, .iconst 0, []), (1, .iload_n 1, []), (3, .invokevirtual 33, [0, 29, 4, 3]), (1, .return_, [])]
def kX3_noteFox : List (Nat × List sx_I) := [(0, kX3_noteFox_0)]
theorem kX3_noteFox_c0 : sx_cd kX3_noteFox 0 = kX3_noteFox_0 := rfl
theorem kX3_noteFox_ok : sx_okM 3 (sx_M 28) kX3_noteFox = true := by decide +kernel
def kX3_note_0 : List sx_I := [(1, .aload_n 0, []), (3, .getfield 18, [3, 2, 2]), (1, .aload_n 0, []), (3, .getfield 15, [3, 1, 0]), (1, .iload_n 1, []), (1, .iastore, []), (1, .aload_n 0, []), (3, .getfield 22, [3, 3, 2]), (1, .aload_n 0, []), (3, .getfield 15, [3, 1, 0]), (1, .iload_n 2, []), (1, .iastore, []), (1, .aload_n 0, []), (3, .getfield 25, [3, 4, 2]), (1, .aload_n 0, []), (3, .getfield 15, [3, 1, 0]), (1, .iload_n 3, []), (1, .iastore, []), (1, .aload_n 0, []), (1, .aload_n 0, []), (3, .getfield 15, [3, 1, 0]), (1, .iconst 1, []), (1, .iadd, []), (2, .bipush 20, []), (3, .if_icmp .ge 12, [51]), (1, .aload_n 0, []), (3, .getfield 15, [3, 1, 0]), (1, .iconst 1, []), (1, .iadd, []), (3, .goto 4, [52])]
def kX3_note_51 : List sx_I := [(1, .iconst 0, []), (0, .nop, [52])]
def kX3_note_52 : List sx_I := [(3, .putfield 15, [3, 1, 0]), (1, .aload_n 0, []), (2, .bipush 20, []), (1, .aload_n 0, []), (3, .getfield 9, [3, 0, 0]), (1, .iconst 1, []), (1, .iadd, []), (3, .invokestatic 37, [1, 1]), (3, .putfield 9, [3, 0, 0]), (1, .return_, [])]
def kX3_note : List (Nat × List sx_I) := [(0, kX3_note_0), (51, kX3_note_51), (52, kX3_note_52)]
theorem kX3_note_c0 : sx_cd kX3_note 0 = kX3_note_0 := rfl
theorem kX3_note_c51 : sx_cd kX3_note 51 = kX3_note_51 := rfl
theorem kX3_note_c52 : sx_cd kX3_note 52 = kX3_note_52 := rfl
theorem kX3_note_ok : sx_okM 3 (sx_M 29) kX3_note = true := by decide +kernel
def kX3_takeBack_0 : List sx_I := [(1, .aload_n 0, []), (1, .aload_n 0, []), (3, .getfield 15, [3, 1, 0]), (3, .ifCond .le 12, [17]), (1, .aload_n 0, []), (3, .getfield 15, [3, 1, 0]), (1, .iconst 1, []), (1, .isub, []), (3, .goto 5, [19])]
def kX3_takeBack_17 : List sx_I := [(2, .bipush 19, []), (0, .nop, [19])]
def kX3_takeBack_19 : List sx_I := [(3, .putfield 15, [3, 1, 0]), (1, .aload_n 0, []), (1, .dup, []), (3, .getfield 9, [3, 0, 0]), (1, .iconst 1, []), (1, .isub, []), (3, .putfield 9, [3, 0, 0]), (1, .aload_n 0, []), (3, .getfield 25, [3, 4, 2]), (1, .aload_n 0, []), (3, .getfield 15, [3, 1, 0]), (1, .iaload, []), (1, .istore_n 2, []), (1, .aload_n 0, []), (3, .getfield 22, [3, 3, 2]), (1, .aload_n 0, []), (3, .getfield 15, [3, 1, 0]), (1, .iaload, []), (1, .istore_n 3, []), (1, .aload_n 0, []), (3, .getfield 18, [3, 2, 2]), (1, .aload_n 0, []), (3, .getfield 15, [3, 1, 0]), (1, .iaload, []), (27, .tableswitch 90 0 2 #[27, 27, 80], [151, 88, 88, 141])]
def kX3_takeBack_88 : List sx_I := [(1, .aload_n 1, []), (3, .getfield 43, [9, 2, 2]), (1, .iload_n 3, []), (1, .iload_n 2, []), (1, .iastore, []), (1, .aload_n 1, []), (3, .getfield 48, [9, 3, 2]), (1, .iload_n 3, []), (1, .dup2, []), (1, .iaload, []), (1, .iconst 1, []), (1, .isub, []), (1, .iastore, []), (1, .aload_n 0, []), (3, .getfield 18, [3, 2, 2]), (1, .aload_n 0, []), (3, .getfield 15, [3, 1, 0]), (1, .iaload, []), (1, .iconst 1, []), (3, .if_icmp .ne 79, [194]), (1, .aload_n 1, []), (3, .getfield 51, [9, 5, 2]), (1, .iconst 0, []), (1, .aload_n 1, []), (3, .getfield 51, [9, 5, 2]), (3, .getfield 55, [4, 0, 0]), (1, .iconst 1, []), (1, .isub, []), (3, .invokestatic 58, [1, 0]), (3, .putfield 55, [4, 0, 0]), (3, .goto 56, [194])]
def kX3_takeBack_141 : List sx_I := [(1, .aload_n 1, []), (3, .getfield 61, [9, 4, 2]), (1, .iload_n 3, []), (1, .iload_n 2, []), (1, .iastore, []), (3, .goto 46, [194])]
def kX3_takeBack_151 : List sx_I := [(1, .iconst 0, []), (2, .istore 4, []), (0, .nop, [154])]
def kX3_takeBack_154 : List sx_I := [(2, .iload 4, []), (1, .iload_n 2, []), (3, .if_icmp .ge 37, [194]), (2, .iload 4, []), (2, .bipush 8, []), (3, .if_icmp .ge 30, [194]), (1, .aload_n 1, []), (3, .getfield 51, [9, 5, 2]), (3, .getfield 64, [4, 8, 2]), (1, .aload_n 0, []), (3, .getfield 30, [3, 5, 2]), (1, .aload_n 0, []), (3, .getfield 15, [3, 1, 0]), (1, .aaload, []), (2, .iload 4, []), (1, .iaload, []), (1, .iconst 0, []), (1, .iastore, []), (3, .iinc 4 1, []), (3, .goto (-37), [154])]
def kX3_takeBack_194 : List sx_I := [(1, .return_, [])]
def kX3_takeBack : List (Nat × List sx_I) := [(0, kX3_takeBack_0), (17, kX3_takeBack_17), (19, kX3_takeBack_19), (88, kX3_takeBack_88), (141, kX3_takeBack_141), (151, kX3_takeBack_151), (154, kX3_takeBack_154), (194, kX3_takeBack_194)]
theorem kX3_takeBack_c0 : sx_cd kX3_takeBack 0 = kX3_takeBack_0 := rfl
theorem kX3_takeBack_c17 : sx_cd kX3_takeBack 17 = kX3_takeBack_17 := rfl
theorem kX3_takeBack_c19 : sx_cd kX3_takeBack 19 = kX3_takeBack_19 := rfl
theorem kX3_takeBack_c88 : sx_cd kX3_takeBack 88 = kX3_takeBack_88 := rfl
theorem kX3_takeBack_c141 : sx_cd kX3_takeBack 141 = kX3_takeBack_141 := rfl
theorem kX3_takeBack_c151 : sx_cd kX3_takeBack 151 = kX3_takeBack_151 := rfl
theorem kX3_takeBack_c154 : sx_cd kX3_takeBack 154 = kX3_takeBack_154 := rfl
theorem kX3_takeBack_c194 : sx_cd kX3_takeBack 194 = kX3_takeBack_194 := rfl
theorem kX3_takeBack_ok : sx_okM 3 (sx_M 30) kX3_takeBack = true := by decide +kernel
def kX4_takeFrom_0 : List sx_I := [(1, .aload_n 0, []), (1, .aload_n 1, []), (3, .getfield 9, [4, 0, 0]), (3, .putfield 9, [4, 0, 0]), (1, .aload_n 1, []), (3, .getfield 15, [4, 1, 2]), (1, .iconst 0, []), (1, .aload_n 0, []), (3, .getfield 15, [4, 1, 2]), (1, .iconst 0, []), (1, .aload_n 0, []), (3, .getfield 9, [4, 0, 0]), (3, .invokestatic 40, [2]), (1, .aload_n 1, []), (3, .getfield 19, [4, 2, 2]), (1, .iconst 0, []), (1, .aload_n 0, []), (3, .getfield 19, [4, 2, 2]), (1, .iconst 0, []), (1, .aload_n 0, []), (3, .getfield 9, [4, 0, 0]), (3, .invokestatic 40, [2]), (1, .aload_n 1, []), (3, .getfield 22, [4, 3, 2]), (1, .iconst 0, []), (1, .aload_n 0, []), (3, .getfield 22, [4, 3, 2]), (1, .iconst 0, []), (1, .aload_n 0, []), (3, .getfield 9, [4, 0, 0]), (3, .invokestatic 40, [2]), (1, .aload_n 1, []), (3, .getfield 25, [4, 4, 2]), (1, .iconst 0, []), (1, .aload_n 0, []), (3, .getfield 25, [4, 4, 2]), (1, .iconst 0, []), (1, .aload_n 0, []), (3, .getfield 9, [4, 0, 0]), (3, .invokestatic 40, [2]), (1, .aload_n 1, []), (3, .getfield 28, [4, 5, 2]), (1, .iconst 0, []), (1, .aload_n 0, []), (3, .getfield 28, [4, 5, 2]), (1, .iconst 0, []), (1, .aload_n 0, []), (3, .getfield 9, [4, 0, 0]), (3, .invokestatic 40, [2]), (1, .aload_n 1, []), (3, .getfield 31, [4, 6, 2]), (1, .iconst 0, []), (1, .aload_n 0, []), (3, .getfield 31, [4, 6, 2]), (1, .iconst 0, []), (1, .aload_n 0, []), (3, .getfield 9, [4, 0, 0]), (3, .invokestatic 40, [2]), (1, .aload_n 1, []), (3, .getfield 34, [4, 7, 2]), (1, .iconst 0, []), (1, .aload_n 0, []), (3, .getfield 34, [4, 7, 2]), (1, .iconst 0, []), (1, .aload_n 0, []), (3, .getfield 9, [4, 0, 0]), (3, .invokestatic 40, [2]), (1, .aload_n 1, []), (3, .getfield 37, [4, 8, 2]), (1, .iconst 0, []), (1, .aload_n 0, []), (3, .getfield 37, [4, 8, 2]), (1, .iconst 0, []), (1, .aload_n 0, []), (3, .getfield 9, [4, 0, 0]), (3, .invokestatic 40, [2]), (1, .return_, [])]
def kX4_takeFrom : List (Nat × List sx_I) := [(0, kX4_takeFrom_0)]
theorem kX4_takeFrom_c0 : sx_cd kX4_takeFrom 0 = kX4_takeFrom_0 := rfl
theorem kX4_takeFrom_ok : sx_okM 4 (sx_M 32) kX4_takeFrom = true := by decide +kernel
def kX4_add_0 : List sx_I := [(1, .aload_n 0, []), (3, .getfield 9, [4, 0, 0]), (2, .bipush 90, []), (3, .if_icmp .lt 4, [10]), (1, .return_, [])]
def kX4_add_10 : List sx_I := [(1, .aload_n 0, []), (3, .getfield 34, [4, 7, 2]), (1, .aload_n 0, []), (3, .getfield 9, [4, 0, 0]), (1, .iload_n 1, []), (1, .iastore, []), (1, .aload_n 0, []), (3, .getfield 15, [4, 1, 2]), (1, .aload_n 0, []), (3, .getfield 9, [4, 0, 0]), (1, .iload_n 2, []), (1, .iastore, []), (1, .aload_n 0, []), (3, .getfield 19, [4, 2, 2]), (1, .aload_n 0, []), (3, .getfield 9, [4, 0, 0]), (1, .iload_n 3, []), (1, .iastore, []), (1, .aload_n 0, []), (3, .getfield 22, [4, 3, 2]), (1, .aload_n 0, []), (3, .getfield 9, [4, 0, 0]), (2, .iload 4, []), (1, .iastore, []), (1, .aload_n 0, []), (3, .getfield 25, [4, 4, 2]), (1, .aload_n 0, []), (3, .getfield 9, [4, 0, 0]), (2, .iload 5, []), (1, .iastore, []), (1, .aload_n 0, []), (3, .getfield 28, [4, 5, 2]), (1, .aload_n 0, []), (3, .getfield 9, [4, 0, 0]), (2, .iload 6, []), (1, .iastore, []), (1, .aload_n 0, []), (3, .getfield 31, [4, 6, 2]), (1, .aload_n 0, []), (3, .getfield 9, [4, 0, 0]), (1, .iconst 0, []), (1, .iastore, []), (1, .aload_n 0, []), (3, .getfield 37, [4, 8, 2]), (1, .aload_n 0, []), (3, .getfield 9, [4, 0, 0]), (1, .iconst 0, []), (1, .iastore, []), (1, .aload_n 0, []), (1, .dup, []), (3, .getfield 9, [4, 0, 0]), (1, .iconst 1, []), (1, .iadd, []), (3, .putfield 9, [4, 0, 0]), (1, .return_, [])]
def kX4_add : List (Nat × List sx_I) := [(0, kX4_add_0), (10, kX4_add_10)]
theorem kX4_add_c0 : sx_cd kX4_add 0 = kX4_add_0 := rfl
theorem kX4_add_c10 : sx_cd kX4_add 10 = kX4_add_10 := rfl
theorem kX4_add_ok : sx_okM 4 (sx_M 33) kX4_add = true := by decide +kernel
def kX4_has_0 : List sx_I := [(1, .iload_n 1, []), (3, .ifCond .lt 15, [16]), (1, .iload_n 1, []), (1, .aload_n 0, []), (3, .getfield 9, [4, 0, 0]), (3, .if_icmp .ge 7, [16]), (1, .iconst 1, []), (3, .goto 4, [17])]
def kX4_has_16 : List sx_I := [(1, .iconst 0, []), (0, .nop, [17])]
def kX4_has_17 : List sx_I := [(1, .ireturn, [1])]
def kX4_has : List (Nat × List sx_I) := [(0, kX4_has_0), (16, kX4_has_16), (17, kX4_has_17)]
theorem kX4_has_c0 : sx_cd kX4_has 0 = kX4_has_0 := rfl
theorem kX4_has_c16 : sx_cd kX4_has 16 = kX4_has_16 := rfl
theorem kX4_has_c17 : sx_cd kX4_has 17 = kX4_has_17 := rfl
theorem kX4_has_ok : sx_okM 4 (sx_M 34) kX4_has = true := by decide +kernel
def kX4_lasts_0 : List sx_I := [(1, .aload_n 0, []), (1, .iload_n 1, []), (3, .invokevirtual 46, [0, 34, 2, 4]), (3, .ifCond .eq 16, [21]), (1, .aload_n 0, []), (3, .getfield 28, [4, 5, 2]), (1, .iload_n 1, []), (1, .iaload, []), (3, .ifCond .le 7, [21]), (1, .iconst 1, []), (3, .goto 4, [22])]
def kX4_lasts_21 : List sx_I := [(1, .iconst 0, []), (0, .nop, [22])]
def kX4_lasts_22 : List sx_I := [(1, .ireturn, [1])]
def kX4_lasts : List (Nat × List sx_I) := [(0, kX4_lasts_0), (21, kX4_lasts_21), (22, kX4_lasts_22)]
theorem kX4_lasts_c0 : sx_cd kX4_lasts 0 = kX4_lasts_0 := rfl
theorem kX4_lasts_c21 : sx_cd kX4_lasts 21 = kX4_lasts_21 := rfl
theorem kX4_lasts_c22 : sx_cd kX4_lasts 22 = kX4_lasts_22 := rfl
theorem kX4_lasts_ok : sx_okM 4 (sx_M 35) kX4_lasts = true := by decide +kernel
def kX4_isOpen_0 : List sx_I := [(1, .aload_n 0, []), (1, .iload_n 1, []), (3, .invokevirtual 50, [0, 35, 2, 4]), (3, .ifCond .eq 16, [21]), (1, .aload_n 0, []), (3, .getfield 31, [4, 6, 2]), (1, .iload_n 1, []), (1, .iaload, []), (3, .ifCond .ne 7, [21]), (1, .iconst 1, []), (3, .goto 4, [22])]
def kX4_isOpen_21 : List sx_I := [(1, .iconst 0, []), (0, .nop, [22])]
def kX4_isOpen_22 : List sx_I := [(1, .ireturn, [1])]
def kX4_isOpen : List (Nat × List sx_I) := [(0, kX4_isOpen_0), (21, kX4_isOpen_21), (22, kX4_isOpen_22)]
theorem kX4_isOpen_c0 : sx_cd kX4_isOpen 0 = kX4_isOpen_0 := rfl
theorem kX4_isOpen_c21 : sx_cd kX4_isOpen 21 = kX4_isOpen_21 := rfl
theorem kX4_isOpen_c22 : sx_cd kX4_isOpen 22 = kX4_isOpen_22 := rfl
theorem kX4_isOpen_ok : sx_okM 4 (sx_M 36) kX4_isOpen = true := by decide +kernel
def kX4_lasting_0 : List sx_I := [(1, .iconst 0, []), (1, .istore_n 1, []), (1, .iconst 0, []), (1, .istore_n 2, []), (0, .nop, [4])]
def kX4_lasting_4 : List sx_I := [(1, .iload_n 2, []), (1, .aload_n 0, []), (3, .getfield 9, [4, 0, 0]), (3, .if_icmp .ge 20, [29]), (1, .aload_n 0, []), (1, .iload_n 2, []), (3, .invokevirtual 50, [0, 35, 2, 4]), (3, .ifCond .eq 6, [23]), (3, .iinc 1 1, []), (0, .nop, [23])]
def kX4_lasting_23 : List sx_I := [(3, .iinc 2 1, []), (3, .goto (-22), [4])]
def kX4_lasting_29 : List sx_I := [(1, .iload_n 1, []), (1, .ireturn, [0])]
def kX4_lasting : List (Nat × List sx_I) := [(0, kX4_lasting_0), (4, kX4_lasting_4), (23, kX4_lasting_23), (29, kX4_lasting_29)]
theorem kX4_lasting_c0 : sx_cd kX4_lasting 0 = kX4_lasting_0 := rfl
theorem kX4_lasting_c4 : sx_cd kX4_lasting 4 = kX4_lasting_4 := rfl
theorem kX4_lasting_c23 : sx_cd kX4_lasting 23 = kX4_lasting_23 := rfl
theorem kX4_lasting_c29 : sx_cd kX4_lasting 29 = kX4_lasting_29 := rfl
theorem kX4_lasting_ok : sx_okM 4 (sx_M 37) kX4_lasting = true := by decide +kernel
def kX4_lastingIn_0 : List sx_I := [(1, .iconst 0, []), (1, .istore_n 2, []), (1, .iconst 0, []), (1, .istore_n 3, []), (0, .nop, [4])]
def kX4_lastingIn_4 : List sx_I := [(1, .iload_n 3, []), (1, .aload_n 0, []), (3, .getfield 9, [4, 0, 0]), (3, .if_icmp .ge 30, [39]), (1, .aload_n 0, []), (1, .iload_n 3, []), (3, .invokevirtual 50, [0, 35, 2, 4]), (3, .ifCond .eq 16, [33]), (1, .aload_n 0, []), (3, .getfield 19, [4, 2, 2]), (1, .iload_n 3, []), (1, .iaload, []), (1, .iload_n 1, []), (3, .if_icmp .ne 6, [33]), (3, .iinc 2 1, []), (0, .nop, [33])]
def kX4_lastingIn_33 : List sx_I := [(3, .iinc 3 1, []), (3, .goto (-32), [4])]
def kX4_lastingIn_39 : List sx_I := [(1, .iload_n 2, []), (1, .ireturn, [0])]
def kX4_lastingIn : List (Nat × List sx_I) := [(0, kX4_lastingIn_0), (4, kX4_lastingIn_4), (33, kX4_lastingIn_33), (39, kX4_lastingIn_39)]
theorem kX4_lastingIn_c0 : sx_cd kX4_lastingIn 0 = kX4_lastingIn_0 := rfl
theorem kX4_lastingIn_c4 : sx_cd kX4_lastingIn 4 = kX4_lastingIn_4 := rfl
theorem kX4_lastingIn_c33 : sx_cd kX4_lastingIn 33 = kX4_lastingIn_33 := rfl
theorem kX4_lastingIn_c39 : sx_cd kX4_lastingIn 39 = kX4_lastingIn_39 := rfl
theorem kX4_lastingIn_ok : sx_okM 4 (sx_M 38) kX4_lastingIn = true := by decide +kernel
def kX4_readIn_0 : List sx_I := [(1, .aload_n 0, []), (3, .getfield 9, [4, 0, 0]), (1, .iconst 1, []), (1, .isub, []), (1, .istore_n 2, []), (0, .nop, [7])]
def kX4_readIn_7 : List sx_I := [(1, .iload_n 2, []), (3, .ifCond .lt 29, [37]), (1, .aload_n 0, []), (1, .iload_n 2, []), (3, .invokevirtual 53, [0, 36, 2, 4]), (3, .ifCond .eq 15, [31]), (1, .aload_n 0, []), (3, .getfield 19, [4, 2, 2]), (1, .iload_n 2, []), (1, .iaload, []), (1, .iload_n 1, []), (3, .if_icmp .ne 5, [31]), (1, .iload_n 2, []), (1, .ireturn, [0])]
def kX4_readIn_31 : List sx_I := [(3, .iinc 2 (-1), []), (3, .goto (-27), [7])]
def kX4_readIn_37 : List sx_I := [(1, .iconst (-1), []), (1, .ireturn, [0])]
def kX4_readIn : List (Nat × List sx_I) := [(0, kX4_readIn_0), (7, kX4_readIn_7), (31, kX4_readIn_31), (37, kX4_readIn_37)]
theorem kX4_readIn_c0 : sx_cd kX4_readIn 0 = kX4_readIn_0 := rfl
theorem kX4_readIn_c7 : sx_cd kX4_readIn 7 = kX4_readIn_7 := rfl
theorem kX4_readIn_c31 : sx_cd kX4_readIn 31 = kX4_readIn_31 := rfl
theorem kX4_readIn_c37 : sx_cd kX4_readIn 37 = kX4_readIn_37 := rfl
theorem kX4_readIn_ok : sx_okM 4 (sx_M 39) kX4_readIn = true := by decide +kernel
def kX4_lessen_0 : List sx_I := [(1, .aload_n 0, []), (3, .getfield 28, [4, 5, 2]), (1, .iload_n 1, []), (1, .iconst 0, []), (1, .aload_n 0, []), (3, .getfield 28, [4, 5, 2]), (1, .iload_n 1, []), (1, .iaload, []), (1, .iload_n 2, []), (1, .isub, []), (3, .invokestatic 56, [1, 0]), (1, .iastore, []), (1, .return_, [])]
def kX4_lessen : List (Nat × List sx_I) := [(0, kX4_lessen_0)]
theorem kX4_lessen_c0 : sx_cd kX4_lessen 0 = kX4_lessen_0 := rfl
theorem kX4_lessen_ok : sx_okM 4 (sx_M 40) kX4_lessen = true := by decide +kernel
def kX4_coverAbove_0 : List sx_I := [(1, .iconst (-1), []), (1, .istore_n 2, []), (1, .iconst 0, []), (1, .istore_n 3, []), (0, .nop, [4])]
def kX4_coverAbove_4 : List sx_I := [(1, .iload_n 3, []), (1, .aload_n 0, []), (3, .getfield 9, [4, 0, 0]), (3, .if_icmp .ge 49, [58]), (1, .aload_n 0, []), (1, .iload_n 3, []), (3, .invokevirtual 50, [0, 35, 2, 4]), (3, .ifCond .eq 35, [52]), (1, .aload_n 0, []), (3, .getfield 31, [4, 6, 2]), (1, .iload_n 3, []), (1, .iaload, []), (1, .iload_n 1, []), (3, .if_icmp .le 25, [52]), (1, .iload_n 2, []), (1, .iconst (-1), []), (3, .if_icmp .eq 13, [45]), (1, .aload_n 0, []), (3, .getfield 31, [4, 6, 2]), (1, .iload_n 3, []), (1, .iaload, []), (1, .iload_n 2, []), (3, .if_icmp .ge 10, [52]), (0, .nop, [45])]
def kX4_coverAbove_45 : List sx_I := [(1, .aload_n 0, []), (3, .getfield 31, [4, 6, 2]), (1, .iload_n 3, []), (1, .iaload, []), (1, .istore_n 2, []), (0, .nop, [52])]
def kX4_coverAbove_52 : List sx_I := [(3, .iinc 3 1, []), (3, .goto (-51), [4])]
def kX4_coverAbove_58 : List sx_I := [(1, .iload_n 2, []), (1, .ireturn, [0])]
def kX4_coverAbove : List (Nat × List sx_I) := [(0, kX4_coverAbove_0), (4, kX4_coverAbove_4), (45, kX4_coverAbove_45), (52, kX4_coverAbove_52), (58, kX4_coverAbove_58)]
theorem kX4_coverAbove_c0 : sx_cd kX4_coverAbove 0 = kX4_coverAbove_0 := rfl
theorem kX4_coverAbove_c4 : sx_cd kX4_coverAbove 4 = kX4_coverAbove_4 := rfl
theorem kX4_coverAbove_c45 : sx_cd kX4_coverAbove 45 = kX4_coverAbove_45 := rfl
theorem kX4_coverAbove_c52 : sx_cd kX4_coverAbove 52 = kX4_coverAbove_52 := rfl
theorem kX4_coverAbove_c58 : sx_cd kX4_coverAbove 58 = kX4_coverAbove_58 := rfl
theorem kX4_coverAbove_ok : sx_okM 4 (sx_M 41) kX4_coverAbove = true := by decide +kernel
def kX4_dropLooking_0 : List sx_I := [(1, .iconst 0, []), (1, .istore_n 2, []), (0, .nop, [2])]
def kX4_dropLooking_2 : List sx_I := [(1, .iload_n 2, []), (1, .aload_n 0, []), (3, .getfield 9, [4, 0, 0]), (3, .if_icmp .ge 26, [33]), (1, .aload_n 0, []), (3, .getfield 15, [4, 1, 2]), (1, .iload_n 2, []), (1, .iaload, []), (1, .iload_n 1, []), (3, .if_icmp .ne 10, [27]), (1, .aload_n 0, []), (3, .getfield 28, [4, 5, 2]), (1, .iload_n 2, []), (1, .iconst 0, []), (1, .iastore, []), (0, .nop, [27])]
def kX4_dropLooking_27 : List sx_I := [(3, .iinc 2 1, []), (3, .goto (-28), [2])]
def kX4_dropLooking_33 : List sx_I := [(1, .return_, [])]
def kX4_dropLooking : List (Nat × List sx_I) := [(0, kX4_dropLooking_0), (2, kX4_dropLooking_2), (27, kX4_dropLooking_27), (33, kX4_dropLooking_33)]
theorem kX4_dropLooking_c0 : sx_cd kX4_dropLooking 0 = kX4_dropLooking_0 := rfl
theorem kX4_dropLooking_c2 : sx_cd kX4_dropLooking 2 = kX4_dropLooking_2 := rfl
theorem kX4_dropLooking_c27 : sx_cd kX4_dropLooking 27 = kX4_dropLooking_27 := rfl
theorem kX4_dropLooking_c33 : sx_cd kX4_dropLooking 33 = kX4_dropLooking_33 := rfl
theorem kX4_dropLooking_ok : sx_okM 4 (sx_M 42) kX4_dropLooking = true := by decide +kernel
def kX5_clear_0 : List sx_I := [(1, .aload_n 0, []), (2, .bipush 6, []), (3, .putfield 58, [5, 0, 0]), (1, .aload_n 0, []), (1, .iconst 5, []), (3, .putfield 62, [5, 1, 0]), (1, .aload_n 0, []), (3, .getfield 9, [5, 2, 2]), (1, .iconst 0, []), (3, .invokestatic 65, [4, 308, 2]), (1, .aload_n 0, []), (3, .getfield 15, [5, 3, 2]), (1, .iconst (-1), []), (3, .invokestatic 65, [4, 308, 2]), (1, .aload_n 0, []), (1, .iconst 0, []), (3, .putfield 71, [5, 4, 0]), (1, .aload_n 0, []), (1, .iconst 0, []), (3, .putfield 74, [5, 6, 0]), (1, .aload_n 0, []), (3, .getfield 39, [5, 12, 2]), (3, .getfield 77, [1, 0, 2]), (1, .iconst 0, []), (3, .invokestatic 65, [4, 308, 2]), (1, .aload_n 0, []), (1, .iconst 0, []), (3, .putfield 80, [5, 13, 0]), (1, .aload_n 0, []), (1, .iconst 0, []), (3, .putfield 83, [5, 14, 0]), (1, .aload_n 0, []), (3, .getfield 49, [5, 17, 2]), (1, .iconst 0, []), (3, .invokestatic 65, [4, 308, 2]), (1, .aload_n 0, []), (3, .getfield 52, [5, 18, 2]), (1, .iconst 0, []), (3, .invokestatic 65, [4, 308, 2]), (1, .return_, [])]
def kX5_clear : List (Nat × List sx_I) := [(0, kX5_clear_0)]
theorem kX5_clear_c0 : sx_cd kX5_clear 0 = kX5_clear_0 := rfl
theorem kX5_clear_ok : sx_okM 5 (sx_M 44) kX5_clear = true := by decide +kernel
def kX5_cellCount_0 : List sx_I := [(1, .aload_n 0, []), (3, .getfield 58, [5, 0, 0]), (1, .aload_n 0, []), (3, .getfield 62, [5, 1, 0]), (1, .imul, []), (1, .ireturn, [0])]
def kX5_cellCount : List (Nat × List sx_I) := [(0, kX5_cellCount_0)]
theorem kX5_cellCount_c0 : sx_cd kX5_cellCount 0 = kX5_cellCount_0 := rfl
theorem kX5_cellCount_ok : sx_okM 5 (sx_M 45) kX5_cellCount = true := by decide +kernel
def kX5_hasCell_0 : List sx_I := [(1, .iload_n 1, []), (3, .ifCond .lt 15, [16]), (1, .iload_n 1, []), (1, .aload_n 0, []), (3, .invokevirtual 86, [0, 45, 1, 5]), (3, .if_icmp .ge 7, [16]), (1, .iconst 1, []), (3, .goto 4, [17])]
def kX5_hasCell_16 : List sx_I := [(1, .iconst 0, []), (0, .nop, [17])]
def kX5_hasCell_17 : List sx_I := [(1, .ireturn, [1])]
def kX5_hasCell : List (Nat × List sx_I) := [(0, kX5_hasCell_0), (16, kX5_hasCell_16), (17, kX5_hasCell_17)]
theorem kX5_hasCell_c0 : sx_cd kX5_hasCell 0 = kX5_hasCell_0 := rfl
theorem kX5_hasCell_c16 : sx_cd kX5_hasCell 16 = kX5_hasCell_16 := rfl
theorem kX5_hasCell_c17 : sx_cd kX5_hasCell 17 = kX5_hasCell_17 := rfl
theorem kX5_hasCell_ok : sx_okM 5 (sx_M 46) kX5_hasCell = true := by decide +kernel
def kX5_hasFarm_0 : List sx_I := [(1, .iload_n 1, []), (3, .ifCond .lt 15, [16]), (1, .iload_n 1, []), (1, .aload_n 0, []), (3, .getfield 71, [5, 4, 0]), (3, .if_icmp .ge 7, [16]), (1, .iconst 1, []), (3, .goto 4, [17])]
def kX5_hasFarm_16 : List sx_I := [(1, .iconst 0, []), (0, .nop, [17])]
def kX5_hasFarm_17 : List sx_I := [(1, .ireturn, [1])]
def kX5_hasFarm : List (Nat × List sx_I) := [(0, kX5_hasFarm_0), (16, kX5_hasFarm_16), (17, kX5_hasFarm_17)]
theorem kX5_hasFarm_c0 : sx_cd kX5_hasFarm 0 = kX5_hasFarm_0 := rfl
theorem kX5_hasFarm_c16 : sx_cd kX5_hasFarm 16 = kX5_hasFarm_16 := rfl
theorem kX5_hasFarm_c17 : sx_cd kX5_hasFarm 17 = kX5_hasFarm_17 := rfl
theorem kX5_hasFarm_ok : sx_okM 5 (sx_M 47) kX5_hasFarm = true := by decide +kernel
def kX5_hasWalker_0 : List sx_I := [(1, .iload_n 1, []), (3, .ifCond .lt 15, [16]), (1, .iload_n 1, []), (1, .aload_n 0, []), (3, .getfield 74, [5, 6, 0]), (3, .if_icmp .ge 7, [16]), (1, .iconst 1, []), (3, .goto 4, [17])]
def kX5_hasWalker_16 : List sx_I := [(1, .iconst 0, []), (0, .nop, [17])]
def kX5_hasWalker_17 : List sx_I := [(1, .ireturn, [1])]
def kX5_hasWalker : List (Nat × List sx_I) := [(0, kX5_hasWalker_0), (16, kX5_hasWalker_16), (17, kX5_hasWalker_17)]
theorem kX5_hasWalker_c0 : sx_cd kX5_hasWalker 0 = kX5_hasWalker_0 := rfl
theorem kX5_hasWalker_c16 : sx_cd kX5_hasWalker 16 = kX5_hasWalker_16 := rfl
theorem kX5_hasWalker_c17 : sx_cd kX5_hasWalker 17 = kX5_hasWalker_17 := rfl
theorem kX5_hasWalker_ok : sx_okM 5 (sx_M 48) kX5_hasWalker = true := by decide +kernel
def kX5_farmBy_0 : List sx_I := [(1, .iconst 0, []), (1, .istore_n 2, []), (0, .nop, [2])]
def kX5_farmBy_2 : List sx_I := [(1, .iload_n 2, []), (1, .aload_n 0, []), (3, .getfield 71, [5, 4, 0]), (3, .if_icmp .ge 21, [28]), (1, .aload_n 0, []), (3, .getfield 18, [5, 5, 2]), (1, .iload_n 2, []), (1, .iaload, []), (1, .iload_n 1, []), (3, .if_icmp .ne 5, [22]), (1, .iload_n 2, []), (1, .ireturn, [0])]
def kX5_farmBy_22 : List sx_I := [(3, .iinc 2 1, []), (3, .goto (-23), [2])]
def kX5_farmBy_28 : List sx_I := [(1, .iconst (-1), []), (1, .ireturn, [0])]
def kX5_farmBy : List (Nat × List sx_I) := [(0, kX5_farmBy_0), (2, kX5_farmBy_2), (22, kX5_farmBy_22), (28, kX5_farmBy_28)]
theorem kX5_farmBy_c0 : sx_cd kX5_farmBy 0 = kX5_farmBy_0 := rfl
theorem kX5_farmBy_c2 : sx_cd kX5_farmBy 2 = kX5_farmBy_2 := rfl
theorem kX5_farmBy_c22 : sx_cd kX5_farmBy 22 = kX5_farmBy_22 := rfl
theorem kX5_farmBy_c28 : sx_cd kX5_farmBy 28 = kX5_farmBy_28 := rfl
theorem kX5_farmBy_ok : sx_okM 5 (sx_M 49) kX5_farmBy = true := by decide +kernel
def kX5_walkerBy_0 : List sx_I := [(1, .iconst 0, []), (1, .istore_n 2, []), (0, .nop, [2])]
def kX5_walkerBy_2 : List sx_I := [(1, .iload_n 2, []), (1, .aload_n 0, []), (3, .getfield 74, [5, 6, 0]), (3, .if_icmp .ge 21, [28]), (1, .aload_n 0, []), (3, .getfield 21, [5, 7, 2]), (1, .iload_n 2, []), (1, .iaload, []), (1, .iload_n 1, []), (3, .if_icmp .ne 5, [22]), (1, .iload_n 2, []), (1, .ireturn, [0])]
def kX5_walkerBy_22 : List sx_I := [(3, .iinc 2 1, []), (3, .goto (-23), [2])]
def kX5_walkerBy_28 : List sx_I := [(1, .iconst (-1), []), (1, .ireturn, [0])]
def kX5_walkerBy : List (Nat × List sx_I) := [(0, kX5_walkerBy_0), (2, kX5_walkerBy_2), (22, kX5_walkerBy_22), (28, kX5_walkerBy_28)]
theorem kX5_walkerBy_c0 : sx_cd kX5_walkerBy 0 = kX5_walkerBy_0 := rfl
theorem kX5_walkerBy_c2 : sx_cd kX5_walkerBy 2 = kX5_walkerBy_2 := rfl
theorem kX5_walkerBy_c22 : sx_cd kX5_walkerBy 22 = kX5_walkerBy_22 := rfl
theorem kX5_walkerBy_c28 : sx_cd kX5_walkerBy 28 = kX5_walkerBy_28 := rfl
theorem kX5_walkerBy_ok : sx_okM 5 (sx_M 50) kX5_walkerBy = true := by decide +kernel
def kX5_column_0 : List sx_I := [(1, .aload_n 0, []), (3, .getfield 58, [5, 0, 0]), (3, .ifCond .le 12, [16]), (1, .iload_n 1, []), (1, .aload_n 0, []), (3, .getfield 58, [5, 0, 0]), (1, .irem, []), (3, .goto 4, [17])]
def kX5_column_16 : List sx_I := [(1, .iconst 0, []), (0, .nop, [17])]
def kX5_column_17 : List sx_I := [(1, .ireturn, [0])]
def kX5_column : List (Nat × List sx_I) := [(0, kX5_column_0), (16, kX5_column_16), (17, kX5_column_17)]
theorem kX5_column_c0 : sx_cd kX5_column 0 = kX5_column_0 := rfl
theorem kX5_column_c16 : sx_cd kX5_column 16 = kX5_column_16 := rfl
theorem kX5_column_c17 : sx_cd kX5_column 17 = kX5_column_17 := rfl
theorem kX5_column_ok : sx_okM 5 (sx_M 51) kX5_column = true := by decide +kernel
def kX5_row_0 : List sx_I := [(1, .aload_n 0, []), (3, .getfield 58, [5, 0, 0]), (3, .ifCond .le 12, [16]), (1, .iload_n 1, []), (1, .aload_n 0, []), (3, .getfield 58, [5, 0, 0]), (1, .idiv, []), (3, .goto 4, [17])]
def kX5_row_16 : List sx_I := [(1, .iconst 0, []), (0, .nop, [17])]
def kX5_row_17 : List sx_I := [(1, .ireturn, [0])]
def kX5_row : List (Nat × List sx_I) := [(0, kX5_row_0), (16, kX5_row_16), (17, kX5_row_17)]
theorem kX5_row_c0 : sx_cd kX5_row 0 = kX5_row_0 := rfl
theorem kX5_row_c16 : sx_cd kX5_row 16 = kX5_row_16 := rfl
theorem kX5_row_c17 : sx_cd kX5_row 17 = kX5_row_17 := rfl
theorem kX5_row_ok : sx_okM 5 (sx_M 52) kX5_row = true := by decide +kernel
def kX5_beside_0 : List sx_I := [(1, .aload_n 0, []), (1, .iload_n 1, []), (3, .invokevirtual 90, [0, 51, 2, 5]), (1, .iload_n 2, []), (1, .iconst 1, []), (3, .if_icmp .ne 7, [14]), (1, .iconst 1, []), (3, .goto 13, [24])]
def kX5_beside_14 : List sx_I := [(1, .iload_n 2, []), (1, .iconst 3, []), (3, .if_icmp .ne 7, [23]), (1, .iconst (-1), []), (3, .goto 4, [24])]
def kX5_beside_23 : List sx_I := [(1, .iconst 0, []), (0, .nop, [24])]
def kX5_beside_24 : List sx_I := [(1, .iadd, []), (1, .istore_n 3, []), (1, .aload_n 0, []), (1, .iload_n 1, []), (3, .invokevirtual 94, [0, 52, 2, 5]), (1, .iload_n 2, []), (1, .iconst 2, []), (3, .if_icmp .ne 7, [40]), (1, .iconst 1, []), (3, .goto 12, [49])]
def kX5_beside_40 : List sx_I := [(1, .iload_n 2, []), (3, .ifCond .ne 7, [48]), (1, .iconst (-1), []), (3, .goto 4, [49])]
def kX5_beside_48 : List sx_I := [(1, .iconst 0, []), (0, .nop, [49])]
def kX5_beside_49 : List sx_I := [(1, .iadd, []), (2, .istore 4, []), (1, .iload_n 3, []), (3, .ifCond .lt 29, [82]), (1, .iload_n 3, []), (1, .aload_n 0, []), (3, .getfield 58, [5, 0, 0]), (3, .if_icmp .ge 21, [82]), (2, .iload 4, []), (3, .ifCond .lt 16, [82]), (2, .iload 4, []), (1, .aload_n 0, []), (3, .getfield 62, [5, 1, 0]), (3, .if_icmp .ge 7, [82]), (1, .iconst 1, []), (3, .goto 4, [83])]
def kX5_beside_82 : List sx_I := [(1, .iconst 0, []), (0, .nop, [83])]
def kX5_beside_83 : List sx_I := [(2, .istore 5, []), (2, .iload 5, []), (3, .ifCond .eq 15, [102]), (2, .iload 4, []), (1, .aload_n 0, []), (3, .getfield 58, [5, 0, 0]), (1, .imul, []), (1, .iload_n 3, []), (1, .iadd, []), (3, .goto 4, [103])]
def kX5_beside_102 : List sx_I := [(1, .iconst (-1), []), (0, .nop, [103])]
def kX5_beside_103 : List sx_I := [(1, .ireturn, [0])]
def kX5_beside : List (Nat × List sx_I) := [(0, kX5_beside_0), (14, kX5_beside_14), (23, kX5_beside_23), (24, kX5_beside_24), (40, kX5_beside_40), (48, kX5_beside_48), (49, kX5_beside_49), (82, kX5_beside_82), (83, kX5_beside_83), (102, kX5_beside_102), (103, kX5_beside_103)]
theorem kX5_beside_c0 : sx_cd kX5_beside 0 = kX5_beside_0 := rfl
theorem kX5_beside_c14 : sx_cd kX5_beside 14 = kX5_beside_14 := rfl
theorem kX5_beside_c23 : sx_cd kX5_beside 23 = kX5_beside_23 := rfl
theorem kX5_beside_c24 : sx_cd kX5_beside 24 = kX5_beside_24 := rfl
theorem kX5_beside_c40 : sx_cd kX5_beside 40 = kX5_beside_40 := rfl
theorem kX5_beside_c48 : sx_cd kX5_beside 48 = kX5_beside_48 := rfl
theorem kX5_beside_c49 : sx_cd kX5_beside 49 = kX5_beside_49 := rfl
theorem kX5_beside_c82 : sx_cd kX5_beside 82 = kX5_beside_82 := rfl
theorem kX5_beside_c83 : sx_cd kX5_beside 83 = kX5_beside_83 := rfl
theorem kX5_beside_c102 : sx_cd kX5_beside 102 = kX5_beside_102 := rfl
theorem kX5_beside_c103 : sx_cd kX5_beside 103 = kX5_beside_103 := rfl
theorem kX5_beside_ok : sx_okM 5 (sx_M 53) kX5_beside = true := by decide +kernel
def kX5_apart_0 : List sx_I := [(1, .aload_n 0, []), (1, .iload_n 1, []), (3, .invokevirtual 90, [0, 51, 2, 5]), (1, .aload_n 0, []), (1, .iload_n 2, []), (3, .invokevirtual 90, [0, 51, 2, 5]), (1, .isub, []), (3, .invokestatic 97, [1, 2]), (1, .aload_n 0, []), (1, .iload_n 1, []), (3, .invokevirtual 94, [0, 52, 2, 5]), (1, .aload_n 0, []), (1, .iload_n 2, []), (3, .invokevirtual 94, [0, 52, 2, 5]), (1, .isub, []), (3, .invokestatic 97, [1, 2]), (1, .iadd, []), (1, .ireturn, [0])]
def kX5_apart : List (Nat × List sx_I) := [(0, kX5_apart_0)]
theorem kX5_apart_c0 : sx_cd kX5_apart 0 = kX5_apart_0 := rfl
theorem kX5_apart_ok : sx_okM 5 (sx_M 54) kX5_apart = true := by decide +kernel
def kX6_setName_0 : List sx_I := [(1, .iload_n 1, []), (2, .bipush 10, []), (3, .if_icmp .lt 19, [22]), (1, .iload_n 1, []), (2, .bipush 16, []), (3, .if_icmp .gt 13, [22]), (1, .aload_n 0, []), (3, .getfield 9, [6, 0, 2]), (1, .iload_n 1, []), (2, .bipush 10, []), (1, .isub, []), (1, .lload_n 2, []), (1, .lastore, []), (0, .nop, [22])]
def kX6_setName_22 : List sx_I := [(1, .return_, [])]
def kX6_setName : List (Nat × List sx_I) := [(0, kX6_setName_0), (22, kX6_setName_22)]
theorem kX6_setName_c0 : sx_cd kX6_setName 0 = kX6_setName_0 := rfl
theorem kX6_setName_c22 : sx_cd kX6_setName 22 = kX6_setName_22 := rfl
theorem kX6_setName_ok : sx_okM 6 (sx_M 56) kX6_setName = true := by decide +kernel
def kX6_work_0 : List sx_I := [(1, .aload_n 0, []), (1, .iconst 0, []), (3, .putfield 18, [6, 2, 3]), (1, .iconst 0, []), (1, .istore_n 3, []), (1, .aload_n 1, []), (3, .getfield 22, [5, 17, 2]), (1, .iload_n 2, []), (1, .iaload, []), (2, .istore 4, []), (0, .nop, [15])]
def kX6_work_15 : List sx_I := [(2, .iload 4, []), (1, .aload_n 1, []), (3, .getfield 28, [5, 18, 2]), (1, .iload_n 2, []), (1, .iaload, []), (3, .if_icmp .ge 186, [209]), (2, .iload 4, []), (2, .bipush 64, []), (3, .if_icmp .ge 179, [209]), (1, .aload_n 1, []), (3, .getfield 31, [5, 15, 2]), (2, .iload 4, []), (1, .iaload, []), (2, .istore 5, []), (2, .iload 5, []), (2, .bipush 21, []), (3, .if_icmp .ne 29, [75]), (1, .iload_n 3, []), (2, .bipush 64, []), (3, .if_icmp .ge 23, [75]), (1, .aload_n 0, []), (3, .getfield 15, [6, 1, 2]), (1, .iload_n 3, []), (1, .aload_n 1, []), (3, .getfield 34, [5, 16, 2]), (2, .iload 4, []), (1, .iaload, []), (1, .i2l, []), (1, .lastore, []), (3, .iinc 3 1, []), (3, .goto 131, [203])]
def kX6_work_75 : List sx_I := [(2, .iload 5, []), (2, .bipush 10, []), (3, .if_icmp .lt 38, [117]), (2, .iload 5, []), (2, .bipush 16, []), (3, .if_icmp .gt 31, [117]), (1, .iload_n 3, []), (2, .bipush 64, []), (3, .if_icmp .ge 25, [117]), (1, .aload_n 0, []), (3, .getfield 15, [6, 1, 2]), (1, .iload_n 3, []), (1, .aload_n 0, []), (3, .getfield 9, [6, 0, 2]), (2, .iload 5, []), (2, .bipush 10, []), (1, .isub, []), (1, .laload, []), (1, .lastore, []), (3, .iinc 3 1, []), (3, .goto 89, [203])]
def kX6_work_117 : List sx_I := [(2, .iload 5, []), (2, .bipush 19, []), (3, .if_icmp .ne 39, [160]), (1, .iload_n 3, []), (3, .ifCond .le 35, [160]), (1, .aload_n 0, []), (3, .getfield 15, [6, 1, 2]), (1, .iload_n 3, []), (1, .iconst 1, []), (1, .isub, []), (1, .aload_n 0, []), (3, .getfield 15, [6, 1, 2]), (1, .iload_n 3, []), (1, .iconst 1, []), (1, .isub, []), (1, .laload, []), (1, .lconst 0, []), (1, .lcmp, []), (3, .ifCond .ne 7, [152]), (1, .iconst 1, []), (3, .goto 4, [153])]
def kX6_work_152 : List sx_I := [(1, .iconst 0, []), (0, .nop, [153])]
def kX6_work_153 : List sx_I := [(3, .invokestatic 37, [4, 58, 1]), (1, .lastore, []), (3, .goto 46, [203])]
def kX6_work_160 : List sx_I := [(1, .iload_n 3, []), (1, .iconst 1, []), (3, .if_icmp .le 37, [199]), (3, .iinc 3 (-1), []), (1, .aload_n 0, []), (3, .getfield 15, [6, 1, 2]), (1, .iload_n 3, []), (1, .iconst 1, []), (1, .isub, []), (1, .aload_n 0, []), (2, .iload 5, []), (1, .aload_n 0, []), (3, .getfield 15, [6, 1, 2]), (1, .iload_n 3, []), (1, .iconst 1, []), (1, .isub, []), (1, .laload, []), (1, .aload_n 0, []), (3, .getfield 15, [6, 1, 2]), (1, .iload_n 3, []), (1, .laload, []), (3, .invokevirtual 41, [0, 59, 4, 6]), (1, .lastore, []), (3, .goto 7, [203])]
def kX6_work_199 : List sx_I := [(3, .ldc2_w 45, [9223372036854775808, 1]), (1, .lreturn, [])]
def kX6_work_203 : List sx_I := [(3, .iinc 4 1, []), (3, .goto (-191), [15])]
def kX6_work_209 : List sx_I := [(1, .aload_n 0, []), (3, .getfield 18, [6, 2, 3]), (3, .ifCond .ne 8, [221]), (1, .iload_n 3, []), (1, .iconst 1, []), (3, .if_icmp .eq 9, [227]), (0, .nop, [221])]
def kX6_work_221 : List sx_I := [(3, .ldc2_w 45, [9223372036854775808, 1]), (3, .goto 9, [233])]
def kX6_work_227 : List sx_I := [(1, .aload_n 0, []), (3, .getfield 15, [6, 1, 2]), (1, .iconst 0, []), (1, .laload, []), (0, .nop, [233])]
def kX6_work_233 : List sx_I := [(1, .lreturn, [])]
def kX6_work : List (Nat × List sx_I) := [(0, kX6_work_0), (15, kX6_work_15), (75, kX6_work_75), (117, kX6_work_117), (152, kX6_work_152), (153, kX6_work_153), (160, kX6_work_160), (199, kX6_work_199), (203, kX6_work_203), (209, kX6_work_209), (221, kX6_work_221), (227, kX6_work_227), (233, kX6_work_233)]
theorem kX6_work_c0 : sx_cd kX6_work 0 = kX6_work_0 := rfl
theorem kX6_work_c15 : sx_cd kX6_work 15 = kX6_work_15 := rfl
theorem kX6_work_c75 : sx_cd kX6_work 75 = kX6_work_75 := rfl
theorem kX6_work_c117 : sx_cd kX6_work 117 = kX6_work_117 := rfl
theorem kX6_work_c152 : sx_cd kX6_work 152 = kX6_work_152 := rfl
theorem kX6_work_c153 : sx_cd kX6_work 153 = kX6_work_153 := rfl
theorem kX6_work_c160 : sx_cd kX6_work 160 = kX6_work_160 := rfl
theorem kX6_work_c199 : sx_cd kX6_work 199 = kX6_work_199 := rfl
theorem kX6_work_c203 : sx_cd kX6_work 203 = kX6_work_203 := rfl
theorem kX6_work_c209 : sx_cd kX6_work 209 = kX6_work_209 := rfl
theorem kX6_work_c221 : sx_cd kX6_work 221 = kX6_work_221 := rfl
theorem kX6_work_c227 : sx_cd kX6_work 227 = kX6_work_227 := rfl
theorem kX6_work_c233 : sx_cd kX6_work 233 = kX6_work_233 := rfl
theorem kX6_work_ok : sx_okM 6 (sx_M 57) kX6_work = true := by decide +kernel
def kX6_truth_0 : List sx_I := [(1, .iload_n 0, []), (3, .ifCond .eq 7, [8]), (1, .lconst 1, []), (3, .goto 4, [9])]
def kX6_truth_8 : List sx_I := [(1, .lconst 0, []), (0, .nop, [9])]
def kX6_truth_9 : List sx_I := [(1, .lreturn, [])]
def kX6_truth : List (Nat × List sx_I) := [(0, kX6_truth_0), (8, kX6_truth_8), (9, kX6_truth_9)]
theorem kX6_truth_c0 : sx_cd kX6_truth 0 = kX6_truth_0 := rfl
theorem kX6_truth_c8 : sx_cd kX6_truth 8 = kX6_truth_8 := rfl
theorem kX6_truth_c9 : sx_cd kX6_truth 9 = kX6_truth_9 := rfl
theorem kX6_truth_ok : sx_okM 6 (sx_M 58) kX6_truth = true := by decide +kernel
def kX6_joined_0 : List sx_I := [(1, .iload_n 1, []), (87, .tableswitch 261 17 34 #[87, 109, 261, 261, 261, 261, 261, 261, 131, 147, 163, 179, 195, 211, 227, 236, 245, 253], [262, 88, 110, 262, 262, 262, 262, 262, 262, 132, 148, 164, 180, 196, 212, 228, 237, 246, 254])]
def kX6_joined_88 : List sx_I := [(1, .lload_n 2, []), (1, .lconst 0, []), (1, .lcmp, []), (3, .ifCond .ne 10, [101]), (2, .lload 4, []), (1, .lconst 0, []), (1, .lcmp, []), (3, .ifCond .eq 7, [105]), (0, .nop, [101])]
def kX6_joined_101 : List sx_I := [(1, .iconst 1, []), (3, .goto 4, [106])]
def kX6_joined_105 : List sx_I := [(1, .iconst 0, []), (0, .nop, [106])]
def kX6_joined_106 : List sx_I := [(3, .invokestatic 37, [4, 58, 1]), (1, .lreturn, [])]
def kX6_joined_110 : List sx_I := [(1, .lload_n 2, []), (1, .lconst 0, []), (1, .lcmp, []), (3, .ifCond .eq 14, [127]), (2, .lload 4, []), (1, .lconst 0, []), (1, .lcmp, []), (3, .ifCond .eq 7, [127]), (1, .iconst 1, []), (3, .goto 4, [128])]
def kX6_joined_127 : List sx_I := [(1, .iconst 0, []), (0, .nop, [128])]
def kX6_joined_128 : List sx_I := [(3, .invokestatic 37, [4, 58, 1]), (1, .lreturn, [])]
def kX6_joined_132 : List sx_I := [(1, .lload_n 2, []), (2, .lload 4, []), (1, .lcmp, []), (3, .ifCond .ge 7, [143]), (1, .iconst 1, []), (3, .goto 4, [144])]
def kX6_joined_143 : List sx_I := [(1, .iconst 0, []), (0, .nop, [144])]
def kX6_joined_144 : List sx_I := [(3, .invokestatic 37, [4, 58, 1]), (1, .lreturn, [])]
def kX6_joined_148 : List sx_I := [(1, .lload_n 2, []), (2, .lload 4, []), (1, .lcmp, []), (3, .ifCond .gt 7, [159]), (1, .iconst 1, []), (3, .goto 4, [160])]
def kX6_joined_159 : List sx_I := [(1, .iconst 0, []), (0, .nop, [160])]
def kX6_joined_160 : List sx_I := [(3, .invokestatic 37, [4, 58, 1]), (1, .lreturn, [])]
def kX6_joined_164 : List sx_I := [(1, .lload_n 2, []), (2, .lload 4, []), (1, .lcmp, []), (3, .ifCond .ne 7, [175]), (1, .iconst 1, []), (3, .goto 4, [176])]
def kX6_joined_175 : List sx_I := [(1, .iconst 0, []), (0, .nop, [176])]
def kX6_joined_176 : List sx_I := [(3, .invokestatic 37, [4, 58, 1]), (1, .lreturn, [])]
def kX6_joined_180 : List sx_I := [(1, .lload_n 2, []), (2, .lload 4, []), (1, .lcmp, []), (3, .ifCond .eq 7, [191]), (1, .iconst 1, []), (3, .goto 4, [192])]
def kX6_joined_191 : List sx_I := [(1, .iconst 0, []), (0, .nop, [192])]
def kX6_joined_192 : List sx_I := [(3, .invokestatic 37, [4, 58, 1]), (1, .lreturn, [])]
def kX6_joined_196 : List sx_I := [(1, .lload_n 2, []), (2, .lload 4, []), (1, .lcmp, []), (3, .ifCond .lt 7, [207]), (1, .iconst 1, []), (3, .goto 4, [208])]
def kX6_joined_207 : List sx_I := [(1, .iconst 0, []), (0, .nop, [208])]
def kX6_joined_208 : List sx_I := [(3, .invokestatic 37, [4, 58, 1]), (1, .lreturn, [])]
def kX6_joined_212 : List sx_I := [(1, .lload_n 2, []), (2, .lload 4, []), (1, .lcmp, []), (3, .ifCond .le 7, [223]), (1, .iconst 1, []), (3, .goto 4, [224])]
def kX6_joined_223 : List sx_I := [(1, .iconst 0, []), (0, .nop, [224])]
def kX6_joined_224 : List sx_I := [(3, .invokestatic 37, [4, 58, 1]), (1, .lreturn, [])]
def kX6_joined_228 : List sx_I := [(1, .aload_n 0, []), (1, .lload_n 2, []), (2, .lload 4, []), (1, .ladd, []), (3, .invokevirtual 47, [0, 61, 2, 6]), (1, .lreturn, [])]
def kX6_joined_237 : List sx_I := [(1, .aload_n 0, []), (1, .lload_n 2, []), (2, .lload 4, []), (1, .lsub, []), (3, .invokevirtual 47, [0, 61, 2, 6]), (1, .lreturn, [])]
def kX6_joined_246 : List sx_I := [(1, .aload_n 0, []), (1, .lload_n 2, []), (2, .lload 4, []), (3, .invokevirtual 51, [0, 62, 3, 6]), (1, .lreturn, [])]
def kX6_joined_254 : List sx_I := [(1, .aload_n 0, []), (1, .lload_n 2, []), (2, .lload 4, []), (3, .invokevirtual 55, [0, 63, 3, 6]), (1, .lreturn, [])]
def kX6_joined_262 : List sx_I := [(1, .aload_n 0, []), (3, .invokevirtual 58, [0, 60, 1, 6]), (1, .lreturn, [])]
def kX6_joined : List (Nat × List sx_I) := [(0, kX6_joined_0), (88, kX6_joined_88), (101, kX6_joined_101), (105, kX6_joined_105), (106, kX6_joined_106), (110, kX6_joined_110), (127, kX6_joined_127), (128, kX6_joined_128), (132, kX6_joined_132), (143, kX6_joined_143), (144, kX6_joined_144), (148, kX6_joined_148), (159, kX6_joined_159), (160, kX6_joined_160), (164, kX6_joined_164), (175, kX6_joined_175), (176, kX6_joined_176), (180, kX6_joined_180), (191, kX6_joined_191), (192, kX6_joined_192), (196, kX6_joined_196), (207, kX6_joined_207), (208, kX6_joined_208), (212, kX6_joined_212), (223, kX6_joined_223), (224, kX6_joined_224), (228, kX6_joined_228), (237, kX6_joined_237), (246, kX6_joined_246), (254, kX6_joined_254), (262, kX6_joined_262)]
theorem kX6_joined_c0 : sx_cd kX6_joined 0 = kX6_joined_0 := rfl
theorem kX6_joined_c88 : sx_cd kX6_joined 88 = kX6_joined_88 := rfl
theorem kX6_joined_c101 : sx_cd kX6_joined 101 = kX6_joined_101 := rfl
theorem kX6_joined_c105 : sx_cd kX6_joined 105 = kX6_joined_105 := rfl
theorem kX6_joined_c106 : sx_cd kX6_joined 106 = kX6_joined_106 := rfl
theorem kX6_joined_c110 : sx_cd kX6_joined 110 = kX6_joined_110 := rfl
theorem kX6_joined_c127 : sx_cd kX6_joined 127 = kX6_joined_127 := rfl
theorem kX6_joined_c128 : sx_cd kX6_joined 128 = kX6_joined_128 := rfl
theorem kX6_joined_c132 : sx_cd kX6_joined 132 = kX6_joined_132 := rfl
theorem kX6_joined_c143 : sx_cd kX6_joined 143 = kX6_joined_143 := rfl
theorem kX6_joined_c144 : sx_cd kX6_joined 144 = kX6_joined_144 := rfl
theorem kX6_joined_c148 : sx_cd kX6_joined 148 = kX6_joined_148 := rfl
theorem kX6_joined_c159 : sx_cd kX6_joined 159 = kX6_joined_159 := rfl
theorem kX6_joined_c160 : sx_cd kX6_joined 160 = kX6_joined_160 := rfl
theorem kX6_joined_c164 : sx_cd kX6_joined 164 = kX6_joined_164 := rfl
theorem kX6_joined_c175 : sx_cd kX6_joined 175 = kX6_joined_175 := rfl
theorem kX6_joined_c176 : sx_cd kX6_joined 176 = kX6_joined_176 := rfl
theorem kX6_joined_c180 : sx_cd kX6_joined 180 = kX6_joined_180 := rfl
theorem kX6_joined_c191 : sx_cd kX6_joined 191 = kX6_joined_191 := rfl
theorem kX6_joined_c192 : sx_cd kX6_joined 192 = kX6_joined_192 := rfl
theorem kX6_joined_c196 : sx_cd kX6_joined 196 = kX6_joined_196 := rfl
theorem kX6_joined_c207 : sx_cd kX6_joined 207 = kX6_joined_207 := rfl
theorem kX6_joined_c208 : sx_cd kX6_joined 208 = kX6_joined_208 := rfl
theorem kX6_joined_c212 : sx_cd kX6_joined 212 = kX6_joined_212 := rfl
theorem kX6_joined_c223 : sx_cd kX6_joined 223 = kX6_joined_223 := rfl
theorem kX6_joined_c224 : sx_cd kX6_joined 224 = kX6_joined_224 := rfl
theorem kX6_joined_c228 : sx_cd kX6_joined 228 = kX6_joined_228 := rfl
theorem kX6_joined_c237 : sx_cd kX6_joined 237 = kX6_joined_237 := rfl
theorem kX6_joined_c246 : sx_cd kX6_joined 246 = kX6_joined_246 := rfl
theorem kX6_joined_c254 : sx_cd kX6_joined 254 = kX6_joined_254 := rfl
theorem kX6_joined_c262 : sx_cd kX6_joined 262 = kX6_joined_262 := rfl
theorem kX6_joined_ok : sx_okM 6 (sx_M 59) kX6_joined = true := by decide +kernel
def kX6_failure_0 : List sx_I := [(1, .aload_n 0, []), (1, .iconst 1, []), (3, .putfield 18, [6, 2, 3]), (1, .lconst 0, []), (1, .lreturn, [])]
def kX6_failure : List (Nat × List sx_I) := [(0, kX6_failure_0)]
theorem kX6_failure_c0 : sx_cd kX6_failure 0 = kX6_failure_0 := rfl
theorem kX6_failure_ok : sx_okM 6 (sx_M 60) kX6_failure = true := by decide +kernel
def kX6_checked_0 : List sx_I := [(1, .lload_n 1, []), (3, .ldc2_w 62, [1000000000000, 0]), (1, .lcmp, []), (3, .ifCond .gt 11, [16]), (1, .lload_n 1, []), (3, .ldc2_w 64, [1000000000000, 1]), (1, .lcmp, []), (3, .ifCond .ge 10, [23]), (0, .nop, [16])]
def kX6_checked_16 : List sx_I := [(1, .aload_n 0, []), (3, .invokevirtual 58, [0, 60, 1, 6]), (3, .goto 4, [24])]
def kX6_checked_23 : List sx_I := [(1, .lload_n 1, []), (0, .nop, [24])]
def kX6_checked_24 : List sx_I := [(1, .lreturn, [])]
def kX6_checked : List (Nat × List sx_I) := [(0, kX6_checked_0), (16, kX6_checked_16), (23, kX6_checked_23), (24, kX6_checked_24)]
theorem kX6_checked_c0 : sx_cd kX6_checked 0 = kX6_checked_0 := rfl
theorem kX6_checked_c16 : sx_cd kX6_checked 16 = kX6_checked_16 := rfl
theorem kX6_checked_c23 : sx_cd kX6_checked 23 = kX6_checked_23 := rfl
theorem kX6_checked_c24 : sx_cd kX6_checked 24 = kX6_checked_24 := rfl
theorem kX6_checked_ok : sx_okM 6 (sx_M 61) kX6_checked = true := by decide +kernel
def kX6_product_0 : List sx_I := [(1, .lload_n 1, []), (1, .lconst 0, []), (1, .lcmp, []), (3, .ifCond .eq 24, [27]), (1, .lload_n 3, []), (3, .invokestatic 66, [1, 5]), (3, .ldc2_w 62, [1000000000000, 0]), (1, .lload_n 1, []), (3, .invokestatic 66, [1, 5]), (1, .ldiv, []), (1, .lcmp, []), (3, .ifCond .le 8, [27]), (1, .aload_n 0, []), (3, .invokevirtual 58, [0, 60, 1, 6]), (1, .lreturn, [])]
def kX6_product_27 : List sx_I := [(1, .lload_n 1, []), (1, .lload_n 3, []), (1, .lmul, []), (1, .lreturn, [])]
def kX6_product : List (Nat × List sx_I) := [(0, kX6_product_0), (27, kX6_product_27)]
theorem kX6_product_c0 : sx_cd kX6_product 0 = kX6_product_0 := rfl
theorem kX6_product_c27 : sx_cd kX6_product 27 = kX6_product_27 := rfl
theorem kX6_product_ok : sx_okM 6 (sx_M 62) kX6_product = true := by decide +kernel
def kX6_quotient_0 : List sx_I := [(1, .lload_n 3, []), (1, .lconst 0, []), (1, .lcmp, []), (3, .ifCond .ne 10, [13]), (1, .aload_n 0, []), (3, .invokevirtual 58, [0, 60, 1, 6]), (3, .goto 6, [16])]
def kX6_quotient_13 : List sx_I := [(1, .lload_n 1, []), (1, .lload_n 3, []), (1, .ldiv, []), (0, .nop, [16])]
def kX6_quotient_16 : List sx_I := [(1, .lreturn, [])]
def kX6_quotient : List (Nat × List sx_I) := [(0, kX6_quotient_0), (13, kX6_quotient_13), (16, kX6_quotient_16)]
theorem kX6_quotient_c0 : sx_cd kX6_quotient 0 = kX6_quotient_0 := rfl
theorem kX6_quotient_c13 : sx_cd kX6_quotient 13 = kX6_quotient_13 := rfl
theorem kX6_quotient_c16 : sx_cd kX6_quotient 16 = kX6_quotient_16 := rfl
theorem kX6_quotient_ok : sx_okM 6 (sx_M 63) kX6_quotient = true := by decide +kernel
def kX7_find_0 : List sx_I := [(1, .aload_n 1, []), (3, .invokevirtual 21, [0, 45, 1, 5]), (2, .istore 5, []), (1, .iconst 0, []), (2, .istore 6, []), (0, .nop, [9])]
def kX7_find_9 : List sx_I := [(2, .iload 6, []), (2, .iload 5, []), (3, .if_icmp .ge 61, [74]), (1, .aload_n 1, []), (3, .getfield 27, [5, 2, 2]), (2, .iload 6, []), (1, .iaload, []), (3, .ifCond .ne 15, [38]), (1, .aload_n 2, []), (2, .iload 6, []), (1, .iaload, []), (1, .iconst (-1), []), (3, .if_icmp .ne 7, [38]), (1, .iconst 1, []), (3, .goto 4, [39])]
def kX7_find_38 : List sx_I := [(1, .iconst 0, []), (0, .nop, [39])]
def kX7_find_39 : List sx_I := [(2, .istore 7, []), (1, .aload_n 0, []), (3, .getfield 15, [7, 3, 2]), (2, .iload 6, []), (2, .iload 7, []), (3, .ifCond .eq 8, [57]), (2, .bipush 101, []), (3, .goto 4, [58])]
def kX7_find_57 : List sx_I := [(1, .iconst 1, []), (0, .nop, [58])]
def kX7_find_58 : List sx_I := [(1, .iastore, []), (1, .aload_n 0, []), (3, .getfield 18, [7, 4, 2]), (2, .iload 6, []), (2, .ldc 30, [1000000, 0]), (1, .iastore, []), (3, .iinc 6 1, []), (3, .goto (-62), [9])]
def kX7_find_74 : List sx_I := [(1, .aload_n 0, []), (3, .getfield 18, [7, 4, 2]), (2, .iload 4, []), (1, .iconst 0, []), (1, .iastore, []), (1, .iconst 1, []), (2, .istore 6, []), (1, .iconst 0, []), (2, .istore 7, []), (0, .nop, [88])]
def kX7_find_88 : List sx_I := [(2, .iload 7, []), (2, .iload 5, []), (3, .if_icmp .ge 45, [137]), (2, .iload 6, []), (3, .ifCond .eq 40, [137]), (1, .iconst 0, []), (2, .istore 6, []), (1, .iconst 0, []), (2, .istore 8, []), (0, .nop, [106])]
def kX7_find_106 : List sx_I := [(2, .iload 8, []), (2, .iload 5, []), (3, .if_icmp .ge 21, [131]), (2, .iload 6, []), (1, .aload_n 0, []), (1, .aload_n 1, []), (2, .iload 8, []), (3, .invokevirtual 31, [0, 66, 3, 7]), (1, .ior, []), (2, .istore 6, []), (3, .iinc 8 1, []), (3, .goto (-22), [106])]
def kX7_find_131 : List sx_I := [(3, .iinc 7 1, []), (3, .goto (-46), [88])]
def kX7_find_137 : List sx_I := [(1, .aload_n 0, []), (1, .aload_n 0, []), (3, .getfield 18, [7, 4, 2]), (1, .iload_n 3, []), (1, .iaload, []), (2, .bipush 100, []), (1, .idiv, []), (3, .putfield 35, [7, 0, 0]), (1, .aload_n 0, []), (1, .aload_n 1, []), (1, .iload_n 3, []), (2, .iload 4, []), (3, .invokevirtual 39, [0, 67, 4, 7]), (1, .return_, [])]
def kX7_find : List (Nat × List sx_I) := [(0, kX7_find_0), (9, kX7_find_9), (38, kX7_find_38), (39, kX7_find_39), (57, kX7_find_57), (58, kX7_find_58), (74, kX7_find_74), (88, kX7_find_88), (106, kX7_find_106), (131, kX7_find_131), (137, kX7_find_137)]
theorem kX7_find_c0 : sx_cd kX7_find 0 = kX7_find_0 := rfl
theorem kX7_find_c9 : sx_cd kX7_find 9 = kX7_find_9 := rfl
theorem kX7_find_c38 : sx_cd kX7_find 38 = kX7_find_38 := rfl
theorem kX7_find_c39 : sx_cd kX7_find 39 = kX7_find_39 := rfl
theorem kX7_find_c57 : sx_cd kX7_find 57 = kX7_find_57 := rfl
theorem kX7_find_c58 : sx_cd kX7_find 58 = kX7_find_58 := rfl
theorem kX7_find_c74 : sx_cd kX7_find 74 = kX7_find_74 := rfl
theorem kX7_find_c88 : sx_cd kX7_find 88 = kX7_find_88 := rfl
theorem kX7_find_c106 : sx_cd kX7_find 106 = kX7_find_106 := rfl
theorem kX7_find_c131 : sx_cd kX7_find 131 = kX7_find_131 := rfl
theorem kX7_find_c137 : sx_cd kX7_find 137 = kX7_find_137 := rfl
theorem kX7_find_ok : sx_okM 7 (sx_M 65) kX7_find = true := by decide +kernel
def kX7_lower_0 : List sx_I := [(1, .iconst 0, []), (1, .istore_n 3, []), (1, .iconst 0, []), (2, .istore 4, []), (0, .nop, [5])]
def kX7_lower_5 : List sx_I := [(2, .iload 4, []), (1, .iconst 4, []), (3, .if_icmp .ge 71, [79]), (1, .aload_n 1, []), (1, .iload_n 2, []), (2, .iload 4, []), (3, .invokevirtual 43, [0, 53, 3, 5]), (2, .istore 5, []), (2, .iload 5, []), (1, .iconst (-1), []), (3, .if_icmp .eq 50, [73]), (1, .aload_n 0, []), (3, .getfield 18, [7, 4, 2]), (2, .iload 5, []), (1, .iaload, []), (1, .aload_n 0, []), (3, .getfield 15, [7, 3, 2]), (2, .iload 5, []), (1, .iaload, []), (1, .iadd, []), (1, .aload_n 0, []), (3, .getfield 18, [7, 4, 2]), (1, .iload_n 2, []), (1, .iaload, []), (3, .if_icmp .ge 26, [73]), (1, .aload_n 0, []), (3, .getfield 18, [7, 4, 2]), (1, .iload_n 2, []), (1, .aload_n 0, []), (3, .getfield 18, [7, 4, 2]), (2, .iload 5, []), (1, .iaload, []), (1, .aload_n 0, []), (3, .getfield 15, [7, 3, 2]), (2, .iload 5, []), (1, .iaload, []), (1, .iadd, []), (1, .iastore, []), (1, .iconst 1, []), (1, .istore_n 3, []), (0, .nop, [73])]
def kX7_lower_73 : List sx_I := [(3, .iinc 4 1, []), (3, .goto (-71), [5])]
def kX7_lower_79 : List sx_I := [(1, .iload_n 3, []), (1, .ireturn, [1])]
def kX7_lower : List (Nat × List sx_I) := [(0, kX7_lower_0), (5, kX7_lower_5), (73, kX7_lower_73), (79, kX7_lower_79)]
theorem kX7_lower_c0 : sx_cd kX7_lower 0 = kX7_lower_0 := rfl
theorem kX7_lower_c5 : sx_cd kX7_lower 5 = kX7_lower_5 := rfl
theorem kX7_lower_c73 : sx_cd kX7_lower 73 = kX7_lower_73 := rfl
theorem kX7_lower_c79 : sx_cd kX7_lower 79 = kX7_lower_79 := rfl
theorem kX7_lower_ok : sx_okM 7 (sx_M 66) kX7_lower = true := by decide +kernel
def kX7_follow_0 : List sx_I := [(1, .iload_n 2, []), (2, .istore 4, []), (1, .aload_n 0, []), (3, .getfield 9, [7, 2, 2]), (1, .iconst 0, []), (1, .iload_n 2, []), (1, .iastore, []), (1, .aload_n 0, []), (1, .iconst 0, []), (3, .putfield 47, [7, 1, 0]), (1, .iconst 1, []), (2, .istore 5, []), (0, .nop, [18])]
def kX7_follow_18 : List sx_I := [(2, .iload 5, []), (2, .bipush 48, []), (3, .if_icmp .ge 39, [61]), (2, .iload 4, []), (1, .iload_n 3, []), (3, .if_icmp .eq 33, [61]), (1, .aload_n 0, []), (1, .aload_n 1, []), (2, .iload 4, []), (3, .invokevirtual 50, [0, 68, 3, 7]), (2, .istore 4, []), (1, .aload_n 0, []), (3, .getfield 9, [7, 2, 2]), (2, .iload 5, []), (2, .iload 4, []), (1, .iastore, []), (1, .aload_n 0, []), (2, .iload 5, []), (3, .putfield 47, [7, 1, 0]), (3, .iinc 5 1, []), (3, .goto (-40), [18])]
def kX7_follow_61 : List sx_I := [(1, .return_, [])]
def kX7_follow : List (Nat × List sx_I) := [(0, kX7_follow_0), (18, kX7_follow_18), (61, kX7_follow_61)]
theorem kX7_follow_c0 : sx_cd kX7_follow 0 = kX7_follow_0 := rfl
theorem kX7_follow_c18 : sx_cd kX7_follow 18 = kX7_follow_18 := rfl
theorem kX7_follow_c61 : sx_cd kX7_follow 61 = kX7_follow_61 := rfl
theorem kX7_follow_ok : sx_okM 7 (sx_M 67) kX7_follow = true := by decide +kernel
def kX7_nextCell_0 : List sx_I := [(1, .iconst 0, []), (1, .istore_n 3, []), (0, .nop, [2])]
def kX7_nextCell_2 : List sx_I := [(1, .iload_n 3, []), (1, .iconst 4, []), (3, .if_icmp .ge 50, [54]), (1, .aload_n 1, []), (1, .iload_n 2, []), (1, .iload_n 3, []), (3, .invokevirtual 43, [0, 53, 3, 5]), (2, .istore 4, []), (2, .iload 4, []), (1, .iconst (-1), []), (3, .if_icmp .eq 30, [48]), (1, .aload_n 0, []), (3, .getfield 18, [7, 4, 2]), (2, .iload 4, []), (1, .iaload, []), (1, .aload_n 0, []), (3, .getfield 15, [7, 3, 2]), (2, .iload 4, []), (1, .iaload, []), (1, .iadd, []), (1, .aload_n 0, []), (3, .getfield 18, [7, 4, 2]), (1, .iload_n 2, []), (1, .iaload, []), (3, .if_icmp .ne 6, [48]), (2, .iload 4, []), (1, .ireturn, [0])]
def kX7_nextCell_48 : List sx_I := [(3, .iinc 3 1, []), (3, .goto (-49), [2])]
def kX7_nextCell_54 : List sx_I := [(1, .iload_n 2, []), (1, .ireturn, [0])]
def kX7_nextCell : List (Nat × List sx_I) := [(0, kX7_nextCell_0), (2, kX7_nextCell_2), (48, kX7_nextCell_48), (54, kX7_nextCell_54)]
theorem kX7_nextCell_c0 : sx_cd kX7_nextCell 0 = kX7_nextCell_0 := rfl
theorem kX7_nextCell_c2 : sx_cd kX7_nextCell 2 = kX7_nextCell_2 := rfl
theorem kX7_nextCell_c48 : sx_cd kX7_nextCell 48 = kX7_nextCell_48 := rfl
theorem kX7_nextCell_c54 : sx_cd kX7_nextCell 54 = kX7_nextCell_54 := rfl
theorem kX7_nextCell_ok : sx_okM 7 (sx_M 68) kX7_nextCell = true := by decide +kernel
def kX8_from_0 : List sx_I := [(1, .lconst 1, []), (1, .iload_n 2, []), (1, .lshl, []), (1, .lstore_n 3, []), (1, .iconst 0, []), (2, .istore 5, []), (0, .nop, [7])]
def kX8_from_7 : List sx_I := [(2, .iload 5, []), (1, .iconst 4, []), (3, .if_icmp .ge 68, [78]), (1, .aload_n 1, []), (1, .iload_n 2, []), (2, .iload 5, []), (3, .invokevirtual 19, [0, 53, 3, 5]), (2, .istore 6, []), (1, .iconst 0, []), (2, .istore 7, []), (0, .nop, [25])]
def kX8_from_25 : List sx_I := [(2, .iload 7, []), (2, .bipush 48, []), (3, .if_icmp .ge 43, [72]), (2, .iload 6, []), (1, .iconst (-1), []), (3, .if_icmp .eq 37, [72]), (1, .aload_n 1, []), (3, .getfield 25, [5, 2, 2]), (2, .iload 6, []), (1, .iaload, []), (1, .iconst 1, []), (3, .if_icmp .eq 26, [72]), (1, .lload_n 3, []), (1, .lconst 1, []), (2, .iload 6, []), (1, .lshl, []), (1, .lor, []), (1, .lstore_n 3, []), (1, .aload_n 1, []), (2, .iload 6, []), (2, .iload 5, []), (3, .invokevirtual 19, [0, 53, 3, 5]), (2, .istore 6, []), (3, .iinc 7 1, []), (3, .goto (-44), [25])]
def kX8_from_72 : List sx_I := [(3, .iinc 5 1, []), (3, .goto (-68), [7])]
def kX8_from_78 : List sx_I := [(1, .lload_n 3, []), (1, .lreturn, [])]
def kX8_from : List (Nat × List sx_I) := [(0, kX8_from_0), (7, kX8_from_7), (25, kX8_from_25), (72, kX8_from_72), (78, kX8_from_78)]
theorem kX8_from_c0 : sx_cd kX8_from 0 = kX8_from_0 := rfl
theorem kX8_from_c7 : sx_cd kX8_from 7 = kX8_from_7 := rfl
theorem kX8_from_c25 : sx_cd kX8_from 25 = kX8_from_25 := rfl
theorem kX8_from_c72 : sx_cd kX8_from 72 = kX8_from_72 := rfl
theorem kX8_from_c78 : sx_cd kX8_from 78 = kX8_from_78 := rfl
theorem kX8_from_ok : sx_okM 8 (sx_M 70) kX8_from = true := by decide +kernel
def kX8_isGround_0 : List sx_I := [(1, .lload_n 2, []), (1, .lconst 0, []), (1, .lcmp, []), (3, .ifCond .lt 14, [17]), (1, .lload_n 2, []), (1, .aload_n 1, []), (3, .invokevirtual 28, [0, 45, 1, 5]), (1, .lushr, []), (1, .lconst 0, []), (1, .lcmp, []), (3, .ifCond .eq 5, [19]), (0, .nop, [17])]
def kX8_isGround_17 : List sx_I := [(1, .iconst 0, []), (1, .ireturn, [1])]
def kX8_isGround_19 : List sx_I := [(1, .iconst 0, []), (2, .istore 4, []), (0, .nop, [22])]
def kX8_isGround_22 : List sx_I := [(2, .iload 4, []), (1, .aload_n 1, []), (3, .invokevirtual 28, [0, 45, 1, 5]), (3, .if_icmp .ge 33, [61]), (1, .lload_n 2, []), (2, .iload 4, []), (1, .lushr, []), (1, .lconst 1, []), (1, .land, []), (1, .lconst 1, []), (1, .lcmp, []), (3, .ifCond .ne 16, [55]), (1, .aload_n 1, []), (3, .getfield 25, [5, 2, 2]), (2, .iload 4, []), (1, .iaload, []), (1, .iconst 1, []), (3, .if_icmp .ne 5, [55]), (1, .iconst 0, []), (1, .ireturn, [1])]
def kX8_isGround_55 : List sx_I := [(3, .iinc 4 1, []), (3, .goto (-36), [22])]
def kX8_isGround_61 : List sx_I := [(1, .iconst 1, []), (1, .ireturn, [1])]
def kX8_isGround : List (Nat × List sx_I) := [(0, kX8_isGround_0), (17, kX8_isGround_17), (19, kX8_isGround_19), (22, kX8_isGround_22), (55, kX8_isGround_55), (61, kX8_isGround_61)]
theorem kX8_isGround_c0 : sx_cd kX8_isGround 0 = kX8_isGround_0 := rfl
theorem kX8_isGround_c17 : sx_cd kX8_isGround 17 = kX8_isGround_17 := rfl
theorem kX8_isGround_c19 : sx_cd kX8_isGround 19 = kX8_isGround_19 := rfl
theorem kX8_isGround_c22 : sx_cd kX8_isGround 22 = kX8_isGround_22 := rfl
theorem kX8_isGround_c55 : sx_cd kX8_isGround 55 = kX8_isGround_55 := rfl
theorem kX8_isGround_c61 : sx_cd kX8_isGround 61 = kX8_isGround_61 := rfl
theorem kX8_isGround_ok : sx_okM 8 (sx_M 71) kX8_isGround = true := by decide +kernel
def kX8_fewest_0 : List sx_I := [(1, .aload_n 1, []), (3, .invokevirtual 28, [0, 45, 1, 5]), (2, .istore 4, []), (1, .iconst 0, []), (2, .istore 5, []), (0, .nop, [9])]
def kX8_fewest_9 : List sx_I := [(2, .iload 5, []), (2, .iload 4, []), (3, .if_icmp .ge 38, [51]), (1, .aload_n 0, []), (3, .getfield 15, [8, 1, 2]), (2, .iload 5, []), (1, .aload_n 1, []), (3, .getfield 25, [5, 2, 2]), (2, .iload 5, []), (1, .iaload, []), (1, .iconst 1, []), (3, .if_icmp .ne 7, [37]), (1, .lconst 0, []), (3, .goto 10, [44])]
def kX8_fewest_37 : List sx_I := [(1, .aload_n 0, []), (1, .aload_n 1, []), (2, .iload 5, []), (3, .invokevirtual 32, [0, 70, 3, 8]), (0, .nop, [44])]
def kX8_fewest_44 : List sx_I := [(1, .lastore, []), (3, .iinc 5 1, []), (3, .goto (-39), [9])]
def kX8_fewest_51 : List sx_I := [(1, .lload_n 2, []), (1, .lconst 0, []), (1, .lcmp, []), (3, .ifCond .ne 5, [59]), (1, .iconst 0, []), (1, .ireturn, [0])]
def kX8_fewest_59 : List sx_I := [(1, .aload_n 0, []), (1, .lload_n 2, []), (1, .iconst 0, []), (1, .iconst 0, []), (2, .iload 4, []), (3, .invokevirtual 36, [0, 74, 5, 8]), (3, .ifCond .eq 5, [73]), (1, .iconst 1, []), (1, .ireturn, [0])]
def kX8_fewest_73 : List sx_I := [(1, .aload_n 0, []), (1, .lload_n 2, []), (1, .iconst 0, []), (1, .iconst 0, []), (2, .iload 4, []), (3, .invokevirtual 40, [0, 73, 5, 8]), (3, .ifCond .eq 5, [87]), (1, .iconst 2, []), (1, .ireturn, [0])]
def kX8_fewest_87 : List sx_I := [(1, .iconst 0, []), (2, .istore 5, []), (0, .nop, [90])]
def kX8_fewest_90 : List sx_I := [(2, .iload 5, []), (2, .iload 4, []), (3, .if_icmp .ge 46, [140]), (1, .aload_n 0, []), (3, .getfield 9, [8, 0, 2]), (1, .iconst 0, []), (2, .iload 5, []), (1, .iastore, []), (1, .aload_n 0, []), (1, .lload_n 2, []), (1, .aload_n 0, []), (3, .getfield 15, [8, 1, 2]), (2, .iload 5, []), (1, .laload, []), (3, .ldc2_w 43, [1, 1]), (1, .lxor, []), (1, .land, []), (1, .iconst 1, []), (2, .iload 5, []), (1, .iconst 1, []), (1, .iadd, []), (2, .iload 4, []), (3, .invokevirtual 40, [0, 73, 5, 8]), (3, .ifCond .eq 5, [134]), (1, .iconst 3, []), (1, .ireturn, [0])]
def kX8_fewest_134 : List sx_I := [(3, .iinc 5 1, []), (3, .goto (-47), [90])]
def kX8_fewest_140 : List sx_I := [(2, .bipush (-2), []), (1, .ireturn, [0])]
def kX8_fewest : List (Nat × List sx_I) := [(0, kX8_fewest_0), (9, kX8_fewest_9), (37, kX8_fewest_37), (44, kX8_fewest_44), (51, kX8_fewest_51), (59, kX8_fewest_59), (73, kX8_fewest_73), (87, kX8_fewest_87), (90, kX8_fewest_90), (134, kX8_fewest_134), (140, kX8_fewest_140)]
theorem kX8_fewest_c0 : sx_cd kX8_fewest 0 = kX8_fewest_0 := rfl
theorem kX8_fewest_c9 : sx_cd kX8_fewest 9 = kX8_fewest_9 := rfl
theorem kX8_fewest_c37 : sx_cd kX8_fewest 37 = kX8_fewest_37 := rfl
theorem kX8_fewest_c44 : sx_cd kX8_fewest 44 = kX8_fewest_44 := rfl
theorem kX8_fewest_c51 : sx_cd kX8_fewest 51 = kX8_fewest_51 := rfl
theorem kX8_fewest_c59 : sx_cd kX8_fewest 59 = kX8_fewest_59 := rfl
theorem kX8_fewest_c73 : sx_cd kX8_fewest 73 = kX8_fewest_73 := rfl
theorem kX8_fewest_c87 : sx_cd kX8_fewest 87 = kX8_fewest_87 := rfl
theorem kX8_fewest_c90 : sx_cd kX8_fewest 90 = kX8_fewest_90 := rfl
theorem kX8_fewest_c134 : sx_cd kX8_fewest 134 = kX8_fewest_134 := rfl
theorem kX8_fewest_c140 : sx_cd kX8_fewest 140 = kX8_fewest_140 := rfl
theorem kX8_fewest_ok : sx_okM 8 (sx_M 72) kX8_fewest = true := by decide +kernel
def kX8_chooseTwo_0 : List sx_I := [(2, .iload 4, []), (2, .istore 6, []), (0, .nop, [4])]
def kX8_chooseTwo_4 : List sx_I := [(2, .iload 6, []), (2, .iload 5, []), (3, .if_icmp .ge 48, [56]), (1, .aload_n 0, []), (3, .getfield 9, [8, 0, 2]), (1, .iload_n 3, []), (2, .iload 6, []), (1, .iastore, []), (1, .aload_n 0, []), (1, .lload_n 1, []), (1, .aload_n 0, []), (3, .getfield 15, [8, 1, 2]), (2, .iload 6, []), (1, .laload, []), (3, .ldc2_w 43, [1, 1]), (1, .lxor, []), (1, .land, []), (1, .iload_n 3, []), (1, .iconst 1, []), (1, .iadd, []), (2, .iload 6, []), (1, .iconst 1, []), (1, .iadd, []), (2, .iload 5, []), (3, .invokevirtual 36, [0, 74, 5, 8]), (3, .ifCond .eq 5, [50]), (1, .iconst 1, []), (1, .ireturn, [1])]
def kX8_chooseTwo_50 : List sx_I := [(3, .iinc 6 1, []), (3, .goto (-49), [4])]
def kX8_chooseTwo_56 : List sx_I := [(1, .iconst 0, []), (1, .ireturn, [1])]
def kX8_chooseTwo : List (Nat × List sx_I) := [(0, kX8_chooseTwo_0), (4, kX8_chooseTwo_4), (50, kX8_chooseTwo_50), (56, kX8_chooseTwo_56)]
theorem kX8_chooseTwo_c0 : sx_cd kX8_chooseTwo 0 = kX8_chooseTwo_0 := rfl
theorem kX8_chooseTwo_c4 : sx_cd kX8_chooseTwo 4 = kX8_chooseTwo_4 := rfl
theorem kX8_chooseTwo_c50 : sx_cd kX8_chooseTwo 50 = kX8_chooseTwo_50 := rfl
theorem kX8_chooseTwo_c56 : sx_cd kX8_chooseTwo 56 = kX8_chooseTwo_56 := rfl
theorem kX8_chooseTwo_ok : sx_okM 8 (sx_M 73) kX8_chooseTwo = true := by decide +kernel
def kX8_chooseOne_0 : List sx_I := [(2, .iload 4, []), (2, .istore 6, []), (0, .nop, [4])]
def kX8_chooseOne_4 : List sx_I := [(2, .iload 6, []), (2, .iload 5, []), (3, .if_icmp .ge 37, [45]), (1, .lload_n 1, []), (1, .aload_n 0, []), (3, .getfield 15, [8, 1, 2]), (2, .iload 6, []), (1, .laload, []), (3, .ldc2_w 43, [1, 1]), (1, .lxor, []), (1, .land, []), (1, .lconst 0, []), (1, .lcmp, []), (3, .ifCond .ne 13, [39]), (1, .aload_n 0, []), (3, .getfield 9, [8, 0, 2]), (1, .iload_n 3, []), (2, .iload 6, []), (1, .iastore, []), (1, .iconst 1, []), (1, .ireturn, [1])]
def kX8_chooseOne_39 : List sx_I := [(3, .iinc 6 1, []), (3, .goto (-38), [4])]
def kX8_chooseOne_45 : List sx_I := [(1, .iconst 0, []), (1, .ireturn, [1])]
def kX8_chooseOne : List (Nat × List sx_I) := [(0, kX8_chooseOne_0), (4, kX8_chooseOne_4), (39, kX8_chooseOne_39), (45, kX8_chooseOne_45)]
theorem kX8_chooseOne_c0 : sx_cd kX8_chooseOne 0 = kX8_chooseOne_0 := rfl
theorem kX8_chooseOne_c4 : sx_cd kX8_chooseOne 4 = kX8_chooseOne_4 := rfl
theorem kX8_chooseOne_c39 : sx_cd kX8_chooseOne 39 = kX8_chooseOne_39 := rfl
theorem kX8_chooseOne_c45 : sx_cd kX8_chooseOne 45 = kX8_chooseOne_45 := rfl
theorem kX8_chooseOne_ok : sx_okM 8 (sx_M 74) kX8_chooseOne = true := by decide +kernel
def kX9_begin_0 : List sx_I := [(1, .aload_n 0, []), (1, .aload_n 1, []), (3, .putfield 48, [9, 1, 2]), (1, .aload_n 0, []), (1, .iconst 0, []), (3, .putfield 31, [9, 7, 0]), (1, .aload_n 0, []), (1, .iconst 0, []), (3, .putfield 38, [9, 9, 0]), (1, .aload_n 0, []), (1, .aload_n 1, []), (3, .getfield 56, [5, 13, 0]), (1, .i2l, []), (3, .putfield 41, [9, 10, 1]), (1, .aload_n 0, []), (3, .getfield 28, [9, 6, 2]), (1, .iconst 0, []), (3, .invokestatic 61, [4, 308, 2]), (1, .aload_n 0, []), (3, .invokevirtual 67, [0, 77, 1, 9]), (1, .return_, [])]
def kX9_begin : List (Nat × List sx_I) := [(0, kX9_begin_0)]
theorem kX9_begin_c0 : sx_cd kX9_begin 0 = kX9_begin_0 := rfl
theorem kX9_begin_ok : sx_okM 9 (sx_M 76) kX9_begin = true := by decide +kernel
def kX9_clearField_0 : List sx_I := [(1, .aload_n 0, []), (3, .getfield 24, [9, 5, 2]), (1, .iconst 0, []), (3, .putfield 70, [4, 0, 0]), (1, .aload_n 0, []), (1, .iconst 0, []), (3, .putfield 35, [9, 8, 0]), (1, .iconst 0, []), (1, .istore_n 1, []), (0, .nop, [15])]
def kX9_clearField_15 : List sx_I := [(1, .iload_n 1, []), (1, .iconst 5, []), (3, .if_icmp .ge 53, [70]), (1, .aload_n 0, []), (3, .getfield 9, [9, 2, 2]), (1, .iload_n 1, []), (1, .iload_n 1, []), (1, .aload_n 0, []), (3, .getfield 48, [9, 1, 2]), (3, .getfield 73, [5, 6, 0]), (3, .if_icmp .ge 15, [48]), (1, .aload_n 0, []), (3, .getfield 48, [9, 1, 2]), (3, .getfield 76, [5, 11, 2]), (1, .iload_n 1, []), (1, .iaload, []), (3, .goto 4, [49])]
def kX9_clearField_48 : List sx_I := [(1, .iconst 0, []), (0, .nop, [49])]
def kX9_clearField_49 : List sx_I := [(1, .iastore, []), (1, .aload_n 0, []), (3, .getfield 15, [9, 3, 2]), (1, .iload_n 1, []), (1, .iconst 0, []), (1, .iastore, []), (1, .aload_n 0, []), (3, .getfield 18, [9, 4, 2]), (1, .iload_n 1, []), (1, .iload_n 1, []), (1, .iastore, []), (3, .iinc 1 1, []), (3, .goto (-52), [15])]
def kX9_clearField_70 : List sx_I := [(1, .return_, [])]
def kX9_clearField : List (Nat × List sx_I) := [(0, kX9_clearField_0), (15, kX9_clearField_15), (48, kX9_clearField_48), (49, kX9_clearField_49), (70, kX9_clearField_70)]
theorem kX9_clearField_c0 : sx_cd kX9_clearField 0 = kX9_clearField_0 := rfl
theorem kX9_clearField_c15 : sx_cd kX9_clearField 15 = kX9_clearField_15 := rfl
theorem kX9_clearField_c48 : sx_cd kX9_clearField 48 = kX9_clearField_48 := rfl
theorem kX9_clearField_c49 : sx_cd kX9_clearField 49 = kX9_clearField_49 := rfl
theorem kX9_clearField_c70 : sx_cd kX9_clearField 70 = kX9_clearField_70 := rfl
theorem kX9_clearField_ok : sx_okM 9 (sx_M 77) kX9_clearField = true := by decide +kernel
def kX9_takeFrom_0 : List sx_I := [(1, .aload_n 0, []), (1, .aload_n 1, []), (3, .getfield 48, [9, 1, 2]), (3, .putfield 48, [9, 1, 2]), (1, .aload_n 1, []), (3, .getfield 9, [9, 2, 2]), (1, .iconst 0, []), (1, .aload_n 0, []), (3, .getfield 9, [9, 2, 2]), (1, .iconst 0, []), (1, .iconst 5, []), (3, .invokestatic 79, [2]), (1, .aload_n 1, []), (3, .getfield 15, [9, 3, 2]), (1, .iconst 0, []), (1, .aload_n 0, []), (3, .getfield 15, [9, 3, 2]), (1, .iconst 0, []), (1, .iconst 5, []), (3, .invokestatic 79, [2]), (1, .aload_n 1, []), (3, .getfield 18, [9, 4, 2]), (1, .iconst 0, []), (1, .aload_n 0, []), (3, .getfield 18, [9, 4, 2]), (1, .iconst 0, []), (1, .iconst 5, []), (3, .invokestatic 79, [2]), (1, .aload_n 0, []), (3, .getfield 24, [9, 5, 2]), (1, .aload_n 1, []), (3, .getfield 24, [9, 5, 2]), (3, .invokevirtual 85, [0, 32, 2, 4]), (1, .aload_n 1, []), (3, .getfield 28, [9, 6, 2]), (1, .iconst 0, []), (1, .aload_n 0, []), (3, .getfield 28, [9, 6, 2]), (1, .iconst 0, []), (1, .iconst 3, []), (3, .invokestatic 79, [2]), (1, .aload_n 0, []), (1, .aload_n 1, []), (3, .getfield 31, [9, 7, 0]), (3, .putfield 31, [9, 7, 0]), (1, .aload_n 0, []), (1, .aload_n 1, []), (3, .getfield 35, [9, 8, 0]), (3, .putfield 35, [9, 8, 0]), (1, .aload_n 0, []), (1, .aload_n 1, []), (3, .getfield 38, [9, 9, 0]), (3, .putfield 38, [9, 9, 0]), (1, .aload_n 0, []), (1, .aload_n 1, []), (3, .getfield 41, [9, 10, 1]), (3, .putfield 41, [9, 10, 1]), (1, .return_, [])]
def kX9_takeFrom : List (Nat × List sx_I) := [(0, kX9_takeFrom_0)]
theorem kX9_takeFrom_c0 : sx_cd kX9_takeFrom 0 = kX9_takeFrom_0 := rfl
theorem kX9_takeFrom_ok : sx_okM 9 (sx_M 78) kX9_takeFrom = true := by decide +kernel
def kX9_setNames_0 : List sx_I := [(1, .aload_n 0, []), (3, .getfield 52, [9, 0, 2]), (2, .bipush 10, []), (1, .iload_n 3, []), (1, .i2l, []), (3, .invokevirtual 89, [0, 56, 3, 6]), (1, .aload_n 0, []), (3, .getfield 52, [9, 0, 2]), (2, .bipush 11, []), (1, .aload_n 0, []), (3, .getfield 48, [9, 1, 2]), (3, .getfield 95, [5, 9, 2]), (1, .iload_n 1, []), (1, .iaload, []), (1, .i2l, []), (3, .invokevirtual 89, [0, 56, 3, 6]), (1, .aload_n 0, []), (3, .getfield 52, [9, 0, 2]), (2, .bipush 12, []), (1, .aload_n 0, []), (3, .getfield 48, [9, 1, 2]), (3, .getfield 98, [5, 10, 2]), (1, .iload_n 1, []), (1, .iaload, []), (1, .i2l, []), (3, .invokevirtual 89, [0, 56, 3, 6]), (1, .aload_n 0, []), (3, .getfield 52, [9, 0, 2]), (2, .bipush 13, []), (1, .aload_n 0, []), (3, .getfield 48, [9, 1, 2]), (1, .iload_n 2, []), (1, .aload_n 0, []), (3, .getfield 48, [9, 1, 2]), (3, .getfield 76, [5, 11, 2]), (1, .iload_n 1, []), (1, .iaload, []), (3, .invokevirtual 101, [0, 54, 3, 5]), (1, .i2l, []), (3, .invokevirtual 89, [0, 56, 3, 6]), (1, .aload_n 0, []), (3, .getfield 52, [9, 0, 2]), (2, .bipush 14, []), (2, .iload 4, []), (1, .i2l, []), (3, .invokevirtual 89, [0, 56, 3, 6]), (1, .aload_n 0, []), (3, .getfield 52, [9, 0, 2]), (2, .bipush 15, []), (1, .aload_n 0, []), (3, .getfield 35, [9, 8, 0]), (1, .i2l, []), (3, .invokevirtual 89, [0, 56, 3, 6]), (1, .aload_n 0, []), (3, .getfield 52, [9, 0, 2]), (2, .bipush 16, []), (1, .aload_n 0, []), (3, .getfield 48, [9, 1, 2]), (3, .getfield 105, [5, 3, 2]), (1, .iload_n 2, []), (1, .iaload, []), (1, .aload_n 0, []), (3, .getfield 48, [9, 1, 2]), (3, .getfield 108, [5, 8, 2]), (1, .iload_n 1, []), (1, .iaload, []), (3, .if_icmp .ne 7, [133]), (1, .lconst 1, []), (3, .goto 4, [134])]
def kX9_setNames_133 : List sx_I := [(1, .lconst 0, []), (0, .nop, [134])]
def kX9_setNames_134 : List sx_I := [(3, .invokevirtual 89, [0, 56, 3, 6]), (1, .return_, [])]
def kX9_setNames : List (Nat × List sx_I) := [(0, kX9_setNames_0), (133, kX9_setNames_133), (134, kX9_setNames_134)]
theorem kX9_setNames_c0 : sx_cd kX9_setNames 0 = kX9_setNames_0 := rfl
theorem kX9_setNames_c133 : sx_cd kX9_setNames 133 = kX9_setNames_133 := rfl
theorem kX9_setNames_c134 : sx_cd kX9_setNames 134 = kX9_setNames_134 := rfl
theorem kX9_setNames_ok : sx_okM 9 (sx_M 79) kX9_setNames = true := by decide +kernel
def kX9_lawOfMark_0 : List sx_I := [(1, .aload_n 0, []), (1, .aload_n 0, []), (3, .getfield 24, [9, 5, 2]), (3, .getfield 111, [4, 1, 2]), (1, .iload_n 2, []), (1, .iaload, []), (1, .aload_n 0, []), (3, .getfield 24, [9, 5, 2]), (3, .getfield 114, [4, 2, 2]), (1, .iload_n 2, []), (1, .iaload, []), (1, .aload_n 0, []), (3, .getfield 24, [9, 5, 2]), (3, .getfield 117, [4, 5, 2]), (1, .iload_n 2, []), (1, .iaload, []), (1, .aload_n 0, []), (3, .getfield 31, [9, 7, 0]), (1, .aload_n 0, []), (3, .getfield 24, [9, 5, 2]), (3, .getfield 120, [4, 4, 2]), (1, .iload_n 2, []), (1, .iaload, []), (1, .isub, []), (3, .invokevirtual 123, [0, 79, 5, 9]), (1, .aload_n 0, []), (3, .getfield 52, [9, 0, 2]), (1, .aload_n 0, []), (3, .getfield 48, [9, 1, 2]), (1, .iload_n 1, []), (3, .invokevirtual 127, [0, 57, 3, 6]), (1, .lreturn, [])]
def kX9_lawOfMark : List (Nat × List sx_I) := [(0, kX9_lawOfMark_0)]
theorem kX9_lawOfMark_c0 : sx_cd kX9_lawOfMark 0 = kX9_lawOfMark_0 := rfl
theorem kX9_lawOfMark_ok : sx_okM 9 (sx_M 80) kX9_lawOfMark = true := by decide +kernel
def kX9_deepLaw_0 : List sx_I := [(1, .aload_n 0, []), (1, .iload_n 1, []), (1, .iload_n 2, []), (1, .iconst 0, []), (1, .iconst 0, []), (3, .invokevirtual 123, [0, 79, 5, 9]), (1, .aload_n 0, []), (3, .getfield 52, [9, 0, 2]), (1, .aload_n 0, []), (3, .getfield 48, [9, 1, 2]), (1, .iconst 2, []), (3, .invokevirtual 127, [0, 57, 3, 6]), (1, .lreturn, [])]
def kX9_deepLaw : List (Nat × List sx_I) := [(0, kX9_deepLaw_0)]
theorem kX9_deepLaw_c0 : sx_cd kX9_deepLaw 0 = kX9_deepLaw_0 := rfl
theorem kX9_deepLaw_ok : sx_okM 9 (sx_M 81) kX9_deepLaw = true := by decide +kernel
def kX9_bounded_0 : List sx_I := [(1, .lload_n 0, []), (3, .ldc2_w 131, [9223372036854775808, 1]), (1, .lcmp, []), (3, .ifCond .ne 5, [10]), (1, .iload_n 3, []), (1, .ireturn, [0])]
def kX9_bounded_10 : List sx_I := [(1, .iload_n 2, []), (1, .i2l, []), (3, .ldc2_w 133, [99, 0]), (1, .lload_n 0, []), (3, .invokestatic 135, [1, 4]), (3, .invokestatic 141, [1, 3]), (1, .l2i, []), (1, .ireturn, [0])]
def kX9_bounded : List (Nat × List sx_I) := [(0, kX9_bounded_0), (10, kX9_bounded_10)]
theorem kX9_bounded_c0 : sx_cd kX9_bounded 0 = kX9_bounded_0 := rfl
theorem kX9_bounded_c10 : sx_cd kX9_bounded 10 = kX9_bounded_10 := rfl
theorem kX9_bounded_ok : sx_okM 9 (sx_M 82) kX9_bounded = true := by decide +kernel
def kX9_wouldMark_0 : List sx_I := [(1, .aload_n 0, []), (3, .getfield 48, [9, 1, 2]), (3, .getfield 98, [5, 10, 2]), (1, .iload_n 1, []), (1, .iaload, []), (1, .istore_n 3, []), (1, .iload_n 3, []), (3, .ifCond .le 32, [43]), (1, .aload_n 0, []), (3, .getfield 15, [9, 3, 2]), (1, .iload_n 1, []), (1, .iaload, []), (1, .iconst 1, []), (1, .iadd, []), (1, .iload_n 3, []), (1, .irem, []), (3, .ifCond .ne 19, [43]), (1, .aload_n 0, []), (3, .getfield 48, [9, 1, 2]), (3, .getfield 144, [5, 2, 2]), (1, .iload_n 2, []), (1, .iaload, []), (3, .ifCond .ne 7, [43]), (1, .iconst 1, []), (3, .goto 4, [44])]
def kX9_wouldMark_43 : List sx_I := [(1, .iconst 0, []), (0, .nop, [44])]
def kX9_wouldMark_44 : List sx_I := [(1, .ireturn, [1])]
def kX9_wouldMark : List (Nat × List sx_I) := [(0, kX9_wouldMark_0), (43, kX9_wouldMark_43), (44, kX9_wouldMark_44)]
theorem kX9_wouldMark_c0 : sx_cd kX9_wouldMark 0 = kX9_wouldMark_0 := rfl
theorem kX9_wouldMark_c43 : sx_cd kX9_wouldMark 43 = kX9_wouldMark_43 := rfl
theorem kX9_wouldMark_c44 : sx_cd kX9_wouldMark 44 = kX9_wouldMark_44 := rfl
theorem kX9_wouldMark_ok : sx_okM 9 (sx_M 83) kX9_wouldMark = true := by decide +kernel
def kX9_walk_0 : List sx_I := [(1, .aload_n 0, []), (1, .iload_n 1, []), (1, .iload_n 2, []), (3, .invokevirtual 147, [0, 83, 3, 9]), (2, .istore 4, []), (1, .aload_n 0, []), (3, .getfield 9, [9, 2, 2]), (1, .iload_n 1, []), (1, .iload_n 2, []), (1, .iastore, []), (1, .aload_n 0, []), (3, .getfield 15, [9, 3, 2]), (1, .iload_n 1, []), (1, .dup2, []), (1, .iaload, []), (1, .iconst 1, []), (1, .iadd, []), (1, .iastore, []), (2, .iload 4, []), (3, .ifCond .eq 46, [73]), (1, .aload_n 0, []), (1, .iload_n 1, []), (1, .iload_n 2, []), (3, .invokevirtual 151, [0, 81, 3, 9]), (1, .iconst 1, []), (1, .aload_n 0, []), (3, .getfield 48, [9, 1, 2]), (3, .getfield 95, [5, 9, 2]), (1, .iload_n 1, []), (1, .iaload, []), (3, .invokestatic 155, [4, 82, 3]), (2, .istore 5, []), (1, .aload_n 0, []), (3, .getfield 24, [9, 5, 2]), (1, .iload_n 1, []), (1, .aload_n 0, []), (3, .getfield 18, [9, 4, 2]), (1, .iload_n 1, []), (1, .iaload, []), (1, .iload_n 2, []), (1, .iload_n 3, []), (1, .aload_n 0, []), (3, .getfield 31, [9, 7, 0]), (2, .iload 5, []), (3, .invokevirtual 159, [0, 33, 7, 4]), (0, .nop, [73])]
def kX9_walk_73 : List sx_I := [(2, .iload 4, []), (1, .ireturn, [1])]
def kX9_walk : List (Nat × List sx_I) := [(0, kX9_walk_0), (73, kX9_walk_73)]
theorem kX9_walk_c0 : sx_cd kX9_walk 0 = kX9_walk_0 := rfl
theorem kX9_walk_c73 : sx_cd kX9_walk 73 = kX9_walk_73 := rfl
theorem kX9_walk_ok : sx_okM 9 (sx_M 84) kX9_walk = true := by decide +kernel
def kX9_hasHoursLeft_0 : List sx_I := [(1, .iload_n 1, []), (3, .sipush 9999, []), (1, .aload_n 0, []), (3, .getfield 31, [9, 7, 0]), (1, .isub, []), (3, .if_icmp .gt 7, [16]), (1, .iconst 1, []), (3, .goto 4, [17])]
def kX9_hasHoursLeft_16 : List sx_I := [(1, .iconst 0, []), (0, .nop, [17])]
def kX9_hasHoursLeft_17 : List sx_I := [(1, .ireturn, [1])]
def kX9_hasHoursLeft : List (Nat × List sx_I) := [(0, kX9_hasHoursLeft_0), (16, kX9_hasHoursLeft_16), (17, kX9_hasHoursLeft_17)]
theorem kX9_hasHoursLeft_c0 : sx_cd kX9_hasHoursLeft 0 = kX9_hasHoursLeft_0 := rfl
theorem kX9_hasHoursLeft_c16 : sx_cd kX9_hasHoursLeft 16 = kX9_hasHoursLeft_16 := rfl
theorem kX9_hasHoursLeft_c17 : sx_cd kX9_hasHoursLeft 17 = kX9_hasHoursLeft_17 := rfl
theorem kX9_hasHoursLeft_ok : sx_okM 9 (sx_M 85) kX9_hasHoursLeft = true := by decide +kernel
def kX9_passHour_0 : List sx_I := [(1, .iconst 0, []), (1, .istore_n 1, []), (0, .nop, [2])]
def kX9_passHour_2 : List sx_I := [(1, .iload_n 1, []), (1, .aload_n 0, []), (3, .getfield 24, [9, 5, 2]), (3, .getfield 70, [4, 0, 0]), (3, .if_icmp .ge 39, [49]), (1, .aload_n 0, []), (3, .getfield 24, [9, 5, 2]), (1, .iload_n 1, []), (3, .invokevirtual 163, [0, 36, 2, 4]), (3, .ifCond .eq 22, [43]), (1, .aload_n 0, []), (3, .getfield 24, [9, 5, 2]), (1, .iload_n 1, []), (1, .aload_n 0, []), (1, .iconst 0, []), (1, .iload_n 1, []), (3, .invokevirtual 167, [0, 80, 3, 9]), (1, .iconst 0, []), (1, .iconst 0, []), (3, .invokestatic 155, [4, 82, 3]), (3, .invokevirtual 170, [0, 40, 3, 4]), (0, .nop, [43])]
def kX9_passHour_43 : List sx_I := [(3, .iinc 1 1, []), (3, .goto (-44), [2])]
def kX9_passHour_49 : List sx_I := [(1, .aload_n 0, []), (1, .dup, []), (3, .getfield 31, [9, 7, 0]), (1, .iconst 1, []), (1, .iadd, []), (3, .putfield 31, [9, 7, 0]), (1, .return_, [])]
def kX9_passHour : List (Nat × List sx_I) := [(0, kX9_passHour_0), (2, kX9_passHour_2), (43, kX9_passHour_43), (49, kX9_passHour_49)]
theorem kX9_passHour_c0 : sx_cd kX9_passHour 0 = kX9_passHour_0 := rfl
theorem kX9_passHour_c2 : sx_cd kX9_passHour 2 = kX9_passHour_2 := rfl
theorem kX9_passHour_c43 : sx_cd kX9_passHour 43 = kX9_passHour_43 := rfl
theorem kX9_passHour_c49 : sx_cd kX9_passHour 49 = kX9_passHour_49 := rfl
theorem kX9_passHour_ok : sx_okM 9 (sx_M 86) kX9_passHour = true := by decide +kernel
def kX9_coverBy_0 : List sx_I := [(1, .iconst 0, []), (1, .istore_n 2, []), (0, .nop, [2])]
def kX9_coverBy_2 : List sx_I := [(1, .iload_n 2, []), (1, .aload_n 0, []), (3, .getfield 24, [9, 5, 2]), (3, .getfield 70, [4, 0, 0]), (3, .if_icmp .ge 22, [32]), (1, .aload_n 0, []), (3, .getfield 24, [9, 5, 2]), (3, .getfield 174, [4, 6, 2]), (1, .iload_n 2, []), (1, .dup2, []), (1, .iaload, []), (1, .iload_n 1, []), (1, .iadd, []), (1, .iastore, []), (3, .iinc 2 1, []), (3, .goto (-27), [2])]
def kX9_coverBy_32 : List sx_I := [(1, .aload_n 0, []), (3, .sipush 9999, []), (1, .aload_n 0, []), (3, .getfield 35, [9, 8, 0]), (1, .iload_n 1, []), (1, .iadd, []), (3, .invokestatic 177, [1, 1]), (3, .putfield 35, [9, 8, 0]), (1, .return_, [])]
def kX9_coverBy : List (Nat × List sx_I) := [(0, kX9_coverBy_0), (2, kX9_coverBy_2), (32, kX9_coverBy_32)]
theorem kX9_coverBy_c0 : sx_cd kX9_coverBy 0 = kX9_coverBy_0 := rfl
theorem kX9_coverBy_c2 : sx_cd kX9_coverBy 2 = kX9_coverBy_2 := rfl
theorem kX9_coverBy_c32 : sx_cd kX9_coverBy 32 = kX9_coverBy_32 := rfl
theorem kX9_coverBy_ok : sx_okM 9 (sx_M 87) kX9_coverBy = true := by decide +kernel
def kX9_meltBy_0 : List sx_I := [(1, .iconst 0, []), (1, .istore_n 2, []), (1, .iconst 0, []), (1, .istore_n 3, []), (0, .nop, [4])]
def kX9_meltBy_4 : List sx_I := [(1, .iload_n 3, []), (1, .aload_n 0, []), (3, .getfield 24, [9, 5, 2]), (3, .getfield 70, [4, 0, 0]), (3, .if_icmp .ge 83, [95]), (1, .aload_n 0, []), (3, .getfield 24, [9, 5, 2]), (1, .iload_n 3, []), (3, .invokevirtual 179, [0, 35, 2, 4]), (3, .ifCond .eq 66, [89]), (1, .aload_n 0, []), (3, .getfield 24, [9, 5, 2]), (3, .getfield 174, [4, 6, 2]), (1, .iload_n 3, []), (1, .iaload, []), (2, .istore 4, []), (1, .aload_n 0, []), (3, .getfield 24, [9, 5, 2]), (3, .getfield 174, [4, 6, 2]), (1, .iload_n 3, []), (1, .iconst 0, []), (2, .iload 4, []), (1, .iload_n 1, []), (1, .isub, []), (3, .invokestatic 182, [1, 0]), (1, .iastore, []), (1, .aload_n 0, []), (3, .getfield 24, [9, 5, 2]), (1, .iload_n 3, []), (1, .iconst 0, []), (1, .iload_n 1, []), (2, .iload 4, []), (1, .isub, []), (3, .invokestatic 182, [1, 0]), (3, .invokevirtual 170, [0, 40, 3, 4]), (1, .iload_n 2, []), (1, .aload_n 0, []), (3, .getfield 24, [9, 5, 2]), (1, .iload_n 3, []), (3, .invokevirtual 179, [0, 35, 2, 4]), (3, .ifCond .eq 7, [86]), (1, .iconst 0, []), (3, .goto 4, [87])]
def kX9_meltBy_86 : List sx_I := [(1, .iconst 1, []), (0, .nop, [87])]
def kX9_meltBy_87 : List sx_I := [(1, .iadd, []), (1, .istore_n 2, []), (0, .nop, [89])]
def kX9_meltBy_89 : List sx_I := [(3, .iinc 3 1, []), (3, .goto (-88), [4])]
def kX9_meltBy_95 : List sx_I := [(1, .aload_n 0, []), (1, .iconst 0, []), (1, .aload_n 0, []), (3, .getfield 35, [9, 8, 0]), (1, .iload_n 1, []), (1, .isub, []), (3, .invokestatic 182, [1, 0]), (3, .putfield 35, [9, 8, 0]), (1, .iload_n 2, []), (1, .ireturn, [0])]
def kX9_meltBy : List (Nat × List sx_I) := [(0, kX9_meltBy_0), (4, kX9_meltBy_4), (86, kX9_meltBy_86), (87, kX9_meltBy_87), (89, kX9_meltBy_89), (95, kX9_meltBy_95)]
theorem kX9_meltBy_c0 : sx_cd kX9_meltBy 0 = kX9_meltBy_0 := rfl
theorem kX9_meltBy_c4 : sx_cd kX9_meltBy 4 = kX9_meltBy_4 := rfl
theorem kX9_meltBy_c86 : sx_cd kX9_meltBy 86 = kX9_meltBy_86 := rfl
theorem kX9_meltBy_c87 : sx_cd kX9_meltBy 87 = kX9_meltBy_87 := rfl
theorem kX9_meltBy_c89 : sx_cd kX9_meltBy 89 = kX9_meltBy_89 := rfl
theorem kX9_meltBy_c95 : sx_cd kX9_meltBy 95 = kX9_meltBy_95 := rfl
theorem kX9_meltBy_ok : sx_okM 9 (sx_M 88) kX9_meltBy = true := by decide +kernel
def kX9_drawNumber_0 : List sx_I := [(1, .aload_n 0, []), (1, .aload_n 0, []), (3, .getfield 41, [9, 10, 1]), (3, .ldc2_w 184, [1103515245, 0]), (1, .lmul, []), (3, .ldc2_w 186, [12345, 0]), (1, .ladd, []), (3, .ldc2_w 188, [2147483647, 0]), (1, .land, []), (3, .putfield 41, [9, 10, 1]), (1, .aload_n 0, []), (3, .getfield 41, [9, 10, 1]), (3, .ldc2_w 190, [65536, 0]), (1, .ldiv, []), (1, .l2i, []), (1, .ireturn, [0])]
def kX9_drawNumber : List (Nat × List sx_I) := [(0, kX9_drawNumber_0)]
theorem kX9_drawNumber_c0 : sx_cd kX9_drawNumber 0 = kX9_drawNumber_0 := rfl
theorem kX9_drawNumber_ok : sx_okM 9 (sx_M 89) kX9_drawNumber = true := by decide +kernel
def kX9_passNight_0 : List sx_I := [(1, .iconst 0, []), (1, .istore_n 1, []), (1, .aload_n 0, []), (3, .invokevirtual 192, [0, 89, 1, 9]), (1, .iconst 3, []), (1, .irem, []), (1, .istore_n 2, []), (1, .iload_n 2, []), (3, .ifCond .ne 21, [31]), (1, .iconst 1, []), (1, .aload_n 0, []), (3, .invokevirtual 192, [0, 89, 1, 9]), (2, .bipush 9, []), (1, .irem, []), (1, .iadd, []), (1, .istore_n 1, []), (1, .aload_n 0, []), (1, .iload_n 1, []), (3, .invokevirtual 196, [0, 87, 2, 9]), (3, .goto 26, [54])]
def kX9_passNight_31 : List sx_I := [(1, .iload_n 2, []), (1, .iconst 1, []), (3, .if_icmp .ne 21, [54]), (1, .iconst 1, []), (1, .aload_n 0, []), (3, .invokevirtual 192, [0, 89, 1, 9]), (1, .iconst 5, []), (1, .irem, []), (1, .iadd, []), (1, .istore_n 3, []), (1, .aload_n 0, []), (1, .iload_n 3, []), (3, .invokevirtual 200, [0, 88, 2, 9]), (1, .pop, []), (1, .iload_n 3, []), (1, .ineg, []), (1, .istore_n 1, []), (0, .nop, [54])]
def kX9_passNight_54 : List sx_I := [(1, .aload_n 0, []), (3, .invokevirtual 204, [0, 86, 1, 9]), (1, .iload_n 1, []), (1, .ireturn, [0])]
def kX9_passNight : List (Nat × List sx_I) := [(0, kX9_passNight_0), (31, kX9_passNight_31), (54, kX9_passNight_54)]
theorem kX9_passNight_c0 : sx_cd kX9_passNight 0 = kX9_passNight_0 := rfl
theorem kX9_passNight_c31 : sx_cd kX9_passNight 31 = kX9_passNight_31 := rfl
theorem kX9_passNight_c54 : sx_cd kX9_passNight 54 = kX9_passNight_54 := rfl
theorem kX9_passNight_ok : sx_okM 9 (sx_M 90) kX9_passNight = true := by decide +kernel
def kX9_endWinter_0 : List sx_I := [(1, .iconst 0, []), (1, .istore_n 1, []), (0, .nop, [2])]
def kX9_endWinter_2 : List sx_I := [(1, .iload_n 1, []), (1, .aload_n 0, []), (3, .getfield 48, [9, 1, 2]), (3, .getfield 207, [5, 4, 0]), (3, .if_icmp .ge 23, [33]), (1, .aload_n 0, []), (3, .getfield 28, [9, 6, 2]), (1, .iload_n 1, []), (1, .dup2, []), (1, .iaload, []), (1, .aload_n 0, []), (1, .iload_n 1, []), (3, .invokevirtual 210, [0, 93, 2, 9]), (1, .iadd, []), (1, .iastore, []), (3, .iinc 1 1, []), (3, .goto (-28), [2])]
def kX9_endWinter_33 : List sx_I := [(1, .aload_n 0, []), (1, .dup, []), (3, .getfield 38, [9, 9, 0]), (1, .iconst 1, []), (1, .iadd, []), (3, .putfield 38, [9, 9, 0]), (1, .aload_n 0, []), (3, .invokevirtual 67, [0, 77, 1, 9]), (1, .return_, [])]
def kX9_endWinter : List (Nat × List sx_I) := [(0, kX9_endWinter_0), (2, kX9_endWinter_2), (33, kX9_endWinter_33)]
theorem kX9_endWinter_c0 : sx_cd kX9_endWinter 0 = kX9_endWinter_0 := rfl
theorem kX9_endWinter_c2 : sx_cd kX9_endWinter 2 = kX9_endWinter_2 := rfl
theorem kX9_endWinter_c33 : sx_cd kX9_endWinter 33 = kX9_endWinter_33 := rfl
theorem kX9_endWinter_ok : sx_okM 9 (sx_M 91) kX9_endWinter = true := by decide +kernel
def kX9_readAll_0 : List sx_I := [(1, .aload_n 0, []), (3, .getfield 45, [9, 11, 2]), (1, .iconst (-1), []), (3, .invokestatic 61, [4, 308, 2]), (1, .iconst 0, []), (1, .istore_n 1, []), (1, .aload_n 0, []), (3, .getfield 24, [9, 5, 2]), (3, .getfield 70, [4, 0, 0]), (1, .iconst 1, []), (1, .isub, []), (1, .istore_n 2, []), (0, .nop, [20])]
def kX9_readAll_20 : List sx_I := [(1, .iload_n 2, []), (3, .ifCond .lt 56, [77]), (1, .aload_n 0, []), (3, .getfield 24, [9, 5, 2]), (1, .iload_n 2, []), (3, .invokevirtual 163, [0, 36, 2, 4]), (3, .ifCond .eq 39, [71]), (1, .aload_n 0, []), (3, .getfield 45, [9, 11, 2]), (1, .aload_n 0, []), (3, .getfield 24, [9, 5, 2]), (3, .getfield 114, [4, 2, 2]), (1, .iload_n 2, []), (1, .iaload, []), (1, .iaload, []), (1, .iconst (-1), []), (3, .if_icmp .ne 21, [71]), (1, .aload_n 0, []), (3, .getfield 45, [9, 11, 2]), (1, .aload_n 0, []), (3, .getfield 24, [9, 5, 2]), (3, .getfield 114, [4, 2, 2]), (1, .iload_n 2, []), (1, .iaload, []), (1, .iload_n 2, []), (1, .iastore, []), (3, .iinc 1 1, []), (0, .nop, [71])]
def kX9_readAll_71 : List sx_I := [(3, .iinc 2 (-1), []), (3, .goto (-54), [20])]
def kX9_readAll_77 : List sx_I := [(1, .iload_n 1, []), (1, .ireturn, [0])]
def kX9_readAll : List (Nat × List sx_I) := [(0, kX9_readAll_0), (20, kX9_readAll_20), (71, kX9_readAll_71), (77, kX9_readAll_77)]
theorem kX9_readAll_c0 : sx_cd kX9_readAll 0 = kX9_readAll_0 := rfl
theorem kX9_readAll_c20 : sx_cd kX9_readAll 20 = kX9_readAll_20 := rfl
theorem kX9_readAll_c71 : sx_cd kX9_readAll 71 = kX9_readAll_71 := rfl
theorem kX9_readAll_c77 : sx_cd kX9_readAll 77 = kX9_readAll_77 := rfl
theorem kX9_readAll_ok : sx_okM 9 (sx_M 92) kX9_readAll = true := by decide +kernel
def kX9_scoreOf_0 : List sx_I := [(1, .aload_n 0, []), (3, .invokevirtual 213, [0, 92, 1, 9]), (1, .pop, []), (1, .iconst 0, []), (1, .istore_n 2, []), (1, .iconst 0, []), (1, .istore_n 3, []), (0, .nop, [9])]
def kX9_scoreOf_9 : List sx_I := [(1, .iload_n 3, []), (1, .aload_n 0, []), (3, .getfield 48, [9, 1, 2]), (3, .invokevirtual 216, [0, 45, 1, 5]), (3, .if_icmp .ge 86, [103]), (1, .aload_n 0, []), (3, .getfield 45, [9, 11, 2]), (1, .iload_n 3, []), (1, .iaload, []), (2, .istore 4, []), (1, .aload_n 0, []), (3, .getfield 48, [9, 1, 2]), (3, .getfield 105, [5, 3, 2]), (1, .iload_n 3, []), (1, .iaload, []), (1, .iload_n 1, []), (3, .if_icmp .ne 59, [97]), (2, .iload 4, []), (1, .iconst (-1), []), (3, .if_icmp .eq 53, [97]), (1, .aload_n 0, []), (3, .getfield 24, [9, 5, 2]), (3, .getfield 219, [4, 8, 2]), (2, .iload 4, []), (1, .iaload, []), (3, .ifCond .ne 40, [97]), (1, .aload_n 0, []), (3, .getfield 48, [9, 1, 2]), (3, .getfield 108, [5, 8, 2]), (1, .aload_n 0, []), (3, .getfield 24, [9, 5, 2]), (3, .getfield 111, [4, 1, 2]), (2, .iload 4, []), (1, .iaload, []), (1, .iaload, []), (1, .iload_n 1, []), (3, .if_icmp .eq 18, [97]), (1, .iload_n 2, []), (1, .aload_n 0, []), (1, .iconst 1, []), (2, .iload 4, []), (3, .invokevirtual 167, [0, 80, 3, 9]), (1, .iconst 0, []), (1, .iconst 1, []), (3, .invokestatic 155, [4, 82, 3]), (1, .iadd, []), (1, .istore_n 2, []), (0, .nop, [97])]
def kX9_scoreOf_97 : List sx_I := [(3, .iinc 3 1, []), (3, .goto (-91), [9])]
def kX9_scoreOf_103 : List sx_I := [(1, .iload_n 2, []), (1, .ireturn, [0])]
def kX9_scoreOf : List (Nat × List sx_I) := [(0, kX9_scoreOf_0), (9, kX9_scoreOf_9), (97, kX9_scoreOf_97), (103, kX9_scoreOf_103)]
theorem kX9_scoreOf_c0 : sx_cd kX9_scoreOf 0 = kX9_scoreOf_0 := rfl
theorem kX9_scoreOf_c9 : sx_cd kX9_scoreOf 9 = kX9_scoreOf_9 := rfl
theorem kX9_scoreOf_c97 : sx_cd kX9_scoreOf 97 = kX9_scoreOf_97 := rfl
theorem kX9_scoreOf_c103 : sx_cd kX9_scoreOf 103 = kX9_scoreOf_103 := rfl
theorem kX9_scoreOf_ok : sx_okM 9 (sx_M 93) kX9_scoreOf = true := by decide +kernel
def kX9_markBefore_0 : List sx_I := [(1, .aload_n 0, []), (3, .getfield 24, [9, 5, 2]), (3, .getfield 111, [4, 1, 2]), (1, .iload_n 1, []), (1, .iaload, []), (1, .istore_n 2, []), (1, .iload_n 1, []), (1, .iconst 1, []), (1, .isub, []), (1, .istore_n 3, []), (0, .nop, [14])]
def kX9_markBefore_14 : List sx_I := [(1, .iload_n 3, []), (3, .ifCond .lt 52, [67]), (1, .aload_n 0, []), (3, .getfield 24, [9, 5, 2]), (1, .iload_n 3, []), (3, .invokevirtual 179, [0, 35, 2, 4]), (3, .ifCond .eq 35, [61]), (1, .aload_n 0, []), (3, .getfield 24, [9, 5, 2]), (3, .getfield 111, [4, 1, 2]), (1, .iload_n 3, []), (1, .iaload, []), (1, .iload_n 2, []), (3, .if_icmp .ne 22, [61]), (1, .aload_n 0, []), (1, .iload_n 1, []), (1, .aload_n 0, []), (3, .getfield 24, [9, 5, 2]), (3, .getfield 114, [4, 2, 2]), (1, .iload_n 3, []), (1, .iaload, []), (3, .invokevirtual 222, [0, 95, 3, 9]), (3, .ifCond .eq 5, [61]), (1, .iload_n 3, []), (1, .ireturn, [0])]
def kX9_markBefore_61 : List sx_I := [(3, .iinc 3 (-1), []), (3, .goto (-50), [14])]
def kX9_markBefore_67 : List sx_I := [(1, .iconst (-1), []), (1, .ireturn, [0])]
def kX9_markBefore : List (Nat × List sx_I) := [(0, kX9_markBefore_0), (14, kX9_markBefore_14), (61, kX9_markBefore_61), (67, kX9_markBefore_67)]
theorem kX9_markBefore_c0 : sx_cd kX9_markBefore 0 = kX9_markBefore_0 := rfl
theorem kX9_markBefore_c14 : sx_cd kX9_markBefore 14 = kX9_markBefore_14 := rfl
theorem kX9_markBefore_c61 : sx_cd kX9_markBefore 61 = kX9_markBefore_61 := rfl
theorem kX9_markBefore_c67 : sx_cd kX9_markBefore 67 = kX9_markBefore_67 := rfl
theorem kX9_markBefore_ok : sx_okM 9 (sx_M 94) kX9_markBefore = true := by decide +kernel
def kX9_isNear_0 : List sx_I := [(1, .aload_n 0, []), (3, .getfield 48, [9, 1, 2]), (1, .aload_n 0, []), (3, .getfield 24, [9, 5, 2]), (3, .getfield 114, [4, 2, 2]), (1, .iload_n 1, []), (1, .iaload, []), (1, .iload_n 2, []), (3, .invokevirtual 101, [0, 54, 3, 5]), (1, .aload_n 0, []), (3, .getfield 48, [9, 1, 2]), (3, .getfield 98, [5, 10, 2]), (1, .aload_n 0, []), (3, .getfield 24, [9, 5, 2]), (3, .getfield 111, [4, 1, 2]), (1, .iload_n 1, []), (1, .iaload, []), (1, .iaload, []), (3, .if_icmp .gt 7, [41]), (1, .iconst 1, []), (3, .goto 4, [42])]
def kX9_isNear_41 : List sx_I := [(1, .iconst 0, []), (0, .nop, [42])]
def kX9_isNear_42 : List sx_I := [(1, .ireturn, [1])]
def kX9_isNear : List (Nat × List sx_I) := [(0, kX9_isNear_0), (41, kX9_isNear_41), (42, kX9_isNear_42)]
theorem kX9_isNear_c0 : sx_cd kX9_isNear 0 = kX9_isNear_0 := rfl
theorem kX9_isNear_c41 : sx_cd kX9_isNear 41 = kX9_isNear_41 := rfl
theorem kX9_isNear_c42 : sx_cd kX9_isNear 42 = kX9_isNear_42 := rfl
theorem kX9_isNear_ok : sx_okM 9 (sx_M 95) kX9_isNear = true := by decide +kernel
def kX9_closes_0 : List sx_I := [(1, .aload_n 0, []), (1, .iload_n 1, []), (1, .aload_n 0, []), (3, .getfield 48, [9, 1, 2]), (3, .getfield 76, [5, 11, 2]), (1, .aload_n 0, []), (3, .getfield 24, [9, 5, 2]), (3, .getfield 111, [4, 1, 2]), (1, .iload_n 1, []), (1, .iaload, []), (1, .iaload, []), (3, .invokevirtual 222, [0, 95, 3, 9]), (3, .ifCond .ne 12, [34]), (1, .aload_n 0, []), (1, .iload_n 1, []), (3, .invokevirtual 225, [0, 94, 2, 9]), (1, .iconst (-1), []), (3, .if_icmp .eq 5, [36]), (0, .nop, [34])]
def kX9_closes_34 : List sx_I := [(1, .iconst 1, []), (1, .ireturn, [1])]
def kX9_closes_36 : List sx_I := [(1, .iconst 0, []), (1, .istore_n 2, []), (0, .nop, [38])]
def kX9_closes_38 : List sx_I := [(1, .iload_n 2, []), (1, .aload_n 0, []), (3, .getfield 48, [9, 1, 2]), (3, .invokevirtual 216, [0, 45, 1, 5]), (3, .if_icmp .ge 32, [78]), (1, .aload_n 0, []), (3, .getfield 48, [9, 1, 2]), (3, .getfield 144, [5, 2, 2]), (1, .iload_n 2, []), (1, .iaload, []), (3, .ifCond .eq 14, [72]), (1, .aload_n 0, []), (1, .iload_n 1, []), (1, .iload_n 2, []), (3, .invokevirtual 222, [0, 95, 3, 9]), (3, .ifCond .eq 5, [72]), (1, .iconst 1, []), (1, .ireturn, [1])]
def kX9_closes_72 : List sx_I := [(3, .iinc 2 1, []), (3, .goto (-37), [38])]
def kX9_closes_78 : List sx_I := [(1, .iconst 0, []), (1, .ireturn, [1])]
def kX9_closes : List (Nat × List sx_I) := [(0, kX9_closes_0), (34, kX9_closes_34), (36, kX9_closes_36), (38, kX9_closes_38), (72, kX9_closes_72), (78, kX9_closes_78)]
theorem kX9_closes_c0 : sx_cd kX9_closes 0 = kX9_closes_0 := rfl
theorem kX9_closes_c34 : sx_cd kX9_closes 34 = kX9_closes_34 := rfl
theorem kX9_closes_c36 : sx_cd kX9_closes 36 = kX9_closes_36 := rfl
theorem kX9_closes_c38 : sx_cd kX9_closes 38 = kX9_closes_38 := rfl
theorem kX9_closes_c72 : sx_cd kX9_closes 72 = kX9_closes_72 := rfl
theorem kX9_closes_c78 : sx_cd kX9_closes 78 = kX9_closes_78 := rfl
theorem kX9_closes_ok : sx_okM 9 (sx_M 96) kX9_closes = true := by decide +kernel
def kX9_isForged_0 : List sx_I := [(1, .aload_n 0, []), (3, .getfield 45, [9, 11, 2]), (1, .aload_n 0, []), (3, .getfield 24, [9, 5, 2]), (3, .getfield 114, [4, 2, 2]), (1, .iload_n 1, []), (1, .iaload, []), (1, .iaload, []), (1, .iload_n 1, []), (3, .if_icmp .ne 27, [42]), (1, .aload_n 0, []), (3, .getfield 24, [9, 5, 2]), (3, .getfield 219, [4, 8, 2]), (1, .iload_n 1, []), (1, .iaload, []), (3, .ifCond .ne 15, [42]), (1, .aload_n 0, []), (1, .iload_n 1, []), (3, .invokevirtual 228, [0, 96, 2, 9]), (3, .ifCond .ne 7, [42]), (1, .iconst 1, []), (3, .goto 4, [43])]
def kX9_isForged_42 : List sx_I := [(1, .iconst 0, []), (0, .nop, [43])]
def kX9_isForged_43 : List sx_I := [(1, .ireturn, [1])]
def kX9_isForged : List (Nat × List sx_I) := [(0, kX9_isForged_0), (42, kX9_isForged_42), (43, kX9_isForged_43)]
theorem kX9_isForged_c0 : sx_cd kX9_isForged 0 = kX9_isForged_0 := rfl
theorem kX9_isForged_c42 : sx_cd kX9_isForged 42 = kX9_isForged_42 := rfl
theorem kX9_isForged_c43 : sx_cd kX9_isForged 43 = kX9_isForged_43 := rfl
theorem kX9_isForged_ok : sx_okM 9 (sx_M 97) kX9_isForged = true := by decide +kernel
def kJ7_fill_53178_0 : List sx_I := [(1, .iconst 0, []), (1, .istore_n 2, []), (1, .aload_n 0, []), (1, .arraylength, []), (1, .istore_n 3, []), (0, .nop, [5])]
def kJ7_fill_53178_5 : List sx_I := [(1, .iload_n 2, []), (1, .iload_n 3, []), (3, .if_icmp .ge 13, [20]), (1, .aload_n 0, []), (1, .iload_n 2, []), (1, .iload_n 1, []), (1, .iastore, []), (3, .iinc 2 1, []), (3, .goto (-12), [5])]
def kJ7_fill_53178_20 : List sx_I := [(1, .return_, [])]
def kJ7_fill_53178 : List (Nat × List sx_I) := [(0, kJ7_fill_53178_0), (5, kJ7_fill_53178_5), (20, kJ7_fill_53178_20)]
theorem kJ7_fill_53178_c0 : sx_cd kJ7_fill_53178 0 = kJ7_fill_53178_0 := rfl
theorem kJ7_fill_53178_c5 : sx_cd kJ7_fill_53178 5 = kJ7_fill_53178_5 := rfl
theorem kJ7_fill_53178_c20 : sx_cd kJ7_fill_53178 20 = kJ7_fill_53178_20 := rfl
theorem kJ7_fill_53178_ok : sx_okM 13 (sx_M 308) kJ7_fill_53178 = true := by decide +kernel
