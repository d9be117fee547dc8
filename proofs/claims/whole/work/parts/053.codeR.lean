def kX12_thrown_0 : List sx_I := [(1, .aload_n 0, []), (3, .getfield 163, [12, 2, 0]), (1, .ireturn, [0])]
def kX12_thrown : List (Nat × List sx_I) := [(0, kX12_thrown_0)]
theorem kX12_thrown_c0 : sx_cd kX12_thrown 0 = kX12_thrown_0 := rfl
theorem kX12_thrown_ok : sx_okM 12 (sx_M 176) kX12_thrown = true := by decide +kernel
def kX12_feed_0 : List sx_I := [(1, .aload_n 0, []), (1, .iconst 0, []), (3, .putfield 163, [12, 2, 0]), (1, .aload_n 0, []), (3, .getfield 166, [12, 1, 0]), (2, .bipush 20, []), (1, .iadd, []), (3, .sipush 700, []), (3, .if_icmp .le 5, [20]), (1, .iconst (-1), []), (1, .ireturn, [0])]
def kX12_feed_20 : List sx_I := [(1, .iconst 0, []), (2, .istore 6, []), (0, .nop, [23])]
def kX12_feed_23 : List sx_I := [(2, .iload 6, []), (2, .bipush 20, []), (3, .if_icmp .ge 86, [113]), (2, .iload 6, []), (1, .iconst 4, []), (3, .if_icmp .ge 7, [40]), (1, .iload_n 1, []), (3, .goto 39, [76])]
def kX12_feed_40 : List sx_I := [(2, .iload 6, []), (2, .bipush 8, []), (3, .if_icmp .ge 7, [51]), (1, .iload_n 2, []), (3, .goto 28, [76])]
def kX12_feed_51 : List sx_I := [(2, .iload 6, []), (2, .bipush 12, []), (3, .if_icmp .ge 7, [62]), (1, .iload_n 3, []), (3, .goto 17, [76])]
def kX12_feed_62 : List sx_I := [(2, .iload 6, []), (2, .bipush 16, []), (3, .if_icmp .ge 8, [74]), (2, .iload 4, []), (3, .goto 5, [76])]
def kX12_feed_74 : List sx_I := [(2, .iload 5, []), (0, .nop, [76])]
def kX12_feed_76 : List sx_I := [(2, .istore 7, []), (1, .aload_n 0, []), (3, .getfield 7, [12, 0, 2]), (1, .aload_n 0, []), (3, .getfield 166, [12, 1, 0]), (2, .iload 6, []), (1, .iadd, []), (2, .iload 7, []), (2, .bipush 24, []), (2, .bipush 8, []), (2, .iload 6, []), (1, .iconst 4, []), (1, .irem, []), (1, .imul, []), (1, .isub, []), (1, .ishr, []), (3, .sipush 255, []), (1, .iand, []), (1, .iastore, []), (3, .iinc 6 1, []), (3, .goto (-87), [23])]
def kX12_feed_113 : List sx_I := [(1, .aload_n 0, []), (1, .dup, []), (3, .getfield 166, [12, 1, 0]), (2, .bipush 20, []), (1, .iadd, []), (3, .putfield 166, [12, 1, 0]), (1, .aload_n 0, []), (3, .getfield 166, [12, 1, 0]), (1, .ireturn, [0])]
def kX12_feed : List (Nat × List sx_I) := [(0, kX12_feed_0), (20, kX12_feed_20), (23, kX12_feed_23), (40, kX12_feed_40), (51, kX12_feed_51), (62, kX12_feed_62), (74, kX12_feed_74), (76, kX12_feed_76), (113, kX12_feed_113)]
theorem kX12_feed_c0 : sx_cd kX12_feed 0 = kX12_feed_0 := rfl
theorem kX12_feed_c20 : sx_cd kX12_feed 20 = kX12_feed_20 := rfl
theorem kX12_feed_c23 : sx_cd kX12_feed 23 = kX12_feed_23 := rfl
theorem kX12_feed_c40 : sx_cd kX12_feed 40 = kX12_feed_40 := rfl
theorem kX12_feed_c51 : sx_cd kX12_feed 51 = kX12_feed_51 := rfl
theorem kX12_feed_c62 : sx_cd kX12_feed 62 = kX12_feed_62 := rfl
theorem kX12_feed_c74 : sx_cd kX12_feed 74 = kX12_feed_74 := rfl
theorem kX12_feed_c76 : sx_cd kX12_feed 76 = kX12_feed_76 := rfl
theorem kX12_feed_c113 : sx_cd kX12_feed 113 = kX12_feed_113 := rfl
theorem kX12_feed_ok : sx_okM 12 (sx_M 177) kX12_feed = true := by decide +kernel
def kX12_isIn_0 : List sx_I := [(1, .iload_n 0, []), (1, .iload_n 1, []), (3, .if_icmp .lt 12, [14]), (1, .iload_n 0, []), (1, .iload_n 2, []), (3, .if_icmp .gt 7, [14]), (1, .iconst 1, []), (3, .goto 4, [15])]
def kX12_isIn_14 : List sx_I := [(1, .iconst 0, []), (0, .nop, [15])]
def kX12_isIn_15 : List sx_I := [(1, .ireturn, [1])]
def kX12_isIn : List (Nat × List sx_I) := [(0, kX12_isIn_0), (14, kX12_isIn_14), (15, kX12_isIn_15)]
theorem kX12_isIn_c0 : sx_cd kX12_isIn 0 = kX12_isIn_0 := rfl
theorem kX12_isIn_c14 : sx_cd kX12_isIn 14 = kX12_isIn_14 := rfl
theorem kX12_isIn_c15 : sx_cd kX12_isIn 15 = kX12_isIn_15 := rfl
theorem kX12_isIn_ok : sx_okM 12 (sx_M 178) kX12_isIn = true := by decide +kernel
def kX12_wrong_0 : List sx_I := [(1, .aload_n 0, []), (1, .iload_n 1, []), (3, .putfield 169, [12, 4, 0]), (1, .aload_n 0, []), (1, .aload_n 0, []), (3, .getfield 172, [12, 10, 0]), (3, .putfield 16, [12, 5, 0]), (1, .iconst 0, []), (1, .ireturn, [1])]
def kX12_wrong : List (Nat × List sx_I) := [(0, kX12_wrong_0)]
theorem kX12_wrong_c0 : sx_cd kX12_wrong 0 = kX12_wrong_0 := rfl
theorem kX12_wrong_ok : sx_okM 12 (sx_M 179) kX12_wrong = true := by decide +kernel
def kX12_wordAt_0 : List sx_I := [(1, .iconst 0, []), (1, .istore_n 3, []), (1, .iconst 0, []), (2, .istore 4, []), (0, .nop, [5])]
def kX12_wordAt_5 : List sx_I := [(2, .iload 4, []), (1, .aload_n 0, []), (3, .getfield 13, [12, 3, 2]), (1, .arraylength, []), (3, .if_icmp .ge 114, [126]), (1, .iconst 0, []), (2, .istore 5, []), (0, .nop, [18])]
def kX12_wordAt_18 : List sx_I := [(1, .aload_n 0, []), (3, .getfield 13, [12, 3, 2]), (2, .iload 4, []), (2, .iload 5, []), (1, .iadd, []), (1, .iaload, []), (2, .bipush 32, []), (3, .if_icmp .eq 9, [39]), (3, .iinc 5 1, []), (3, .goto (-18), [18])]
def kX12_wordAt_39 : List sx_I := [(2, .iload 5, []), (1, .iload_n 2, []), (1, .iload_n 1, []), (1, .isub, []), (3, .if_icmp .ne 7, [51]), (1, .iconst 1, []), (3, .goto 4, [52])]
def kX12_wordAt_51 : List sx_I := [(1, .iconst 0, []), (0, .nop, [52])]
def kX12_wordAt_52 : List sx_I := [(2, .istore 6, []), (1, .iconst 0, []), (2, .istore 7, []), (0, .nop, [57])]
def kX12_wordAt_57 : List sx_I := [(2, .iload 7, []), (2, .iload 5, []), (3, .if_icmp .ge 43, [104]), (2, .iload 6, []), (3, .ifCond .eq 38, [104]), (1, .aload_n 0, []), (3, .getfield 13, [12, 3, 2]), (2, .iload 4, []), (2, .iload 7, []), (1, .iadd, []), (1, .iaload, []), (1, .aload_n 0, []), (3, .getfield 7, [12, 0, 2]), (1, .iload_n 1, []), (2, .iload 7, []), (1, .iadd, []), (1, .iaload, []), (3, .if_icmp .ne 7, [95]), (1, .iconst 1, []), (3, .goto 4, [96])]
def kX12_wordAt_95 : List sx_I := [(1, .iconst 0, []), (0, .nop, [96])]
def kX12_wordAt_96 : List sx_I := [(2, .istore 6, []), (3, .iinc 7 1, []), (3, .goto (-44), [57])]
def kX12_wordAt_104 : List sx_I := [(2, .iload 6, []), (3, .ifCond .eq 5, [111]), (1, .iload_n 3, []), (1, .ireturn, [0])]
def kX12_wordAt_111 : List sx_I := [(2, .iload 4, []), (2, .iload 5, []), (1, .iconst 1, []), (1, .iadd, []), (1, .iadd, []), (2, .istore 4, []), (3, .iinc 3 1, []), (3, .goto (-118), [5])]
def kX12_wordAt_126 : List sx_I := [(1, .iconst (-1), []), (1, .ireturn, [0])]
def kX12_wordAt : List (Nat × List sx_I) := [(0, kX12_wordAt_0), (5, kX12_wordAt_5), (18, kX12_wordAt_18), (39, kX12_wordAt_39), (51, kX12_wordAt_51), (52, kX12_wordAt_52), (57, kX12_wordAt_57), (95, kX12_wordAt_95), (96, kX12_wordAt_96), (104, kX12_wordAt_104), (111, kX12_wordAt_111), (126, kX12_wordAt_126)]
theorem kX12_wordAt_c0 : sx_cd kX12_wordAt 0 = kX12_wordAt_0 := rfl
theorem kX12_wordAt_c5 : sx_cd kX12_wordAt 5 = kX12_wordAt_5 := rfl
theorem kX12_wordAt_c18 : sx_cd kX12_wordAt 18 = kX12_wordAt_18 := rfl
theorem kX12_wordAt_c39 : sx_cd kX12_wordAt 39 = kX12_wordAt_39 := rfl
theorem kX12_wordAt_c51 : sx_cd kX12_wordAt 51 = kX12_wordAt_51 := rfl
theorem kX12_wordAt_c52 : sx_cd kX12_wordAt 52 = kX12_wordAt_52 := rfl
theorem kX12_wordAt_c57 : sx_cd kX12_wordAt 57 = kX12_wordAt_57 := rfl
theorem kX12_wordAt_c95 : sx_cd kX12_wordAt 95 = kX12_wordAt_95 := rfl
theorem kX12_wordAt_c96 : sx_cd kX12_wordAt 96 = kX12_wordAt_96 := rfl
theorem kX12_wordAt_c104 : sx_cd kX12_wordAt 104 = kX12_wordAt_104 := rfl
theorem kX12_wordAt_c111 : sx_cd kX12_wordAt 111 = kX12_wordAt_111 := rfl
theorem kX12_wordAt_c126 : sx_cd kX12_wordAt 126 = kX12_wordAt_126 := rfl
theorem kX12_wordAt_ok : sx_okM 12 (sx_M 180) kX12_wordAt = true := by decide +kernel
def kX12_isSmall_0 : List sx_I := [(1, .iload_n 1, []), (1, .aload_n 0, []), (3, .getfield 175, [12, 6, 0]), (3, .if_icmp .ge 29, [34]), (1, .aload_n 0, []), (3, .getfield 7, [12, 0, 2]), (1, .iload_n 1, []), (1, .iaload, []), (2, .bipush 97, []), (3, .if_icmp .lt 18, [34]), (1, .aload_n 0, []), (3, .getfield 7, [12, 0, 2]), (1, .iload_n 1, []), (1, .iaload, []), (2, .bipush 122, []), (3, .if_icmp .gt 7, [34]), (1, .iconst 1, []), (3, .goto 4, [35])]
def kX12_isSmall_34 : List sx_I := [(1, .iconst 0, []), (0, .nop, [35])]
def kX12_isSmall_35 : List sx_I := [(1, .ireturn, [1])]
def kX12_isSmall : List (Nat × List sx_I) := [(0, kX12_isSmall_0), (34, kX12_isSmall_34), (35, kX12_isSmall_35)]
theorem kX12_isSmall_c0 : sx_cd kX12_isSmall 0 = kX12_isSmall_0 := rfl
theorem kX12_isSmall_c34 : sx_cd kX12_isSmall 34 = kX12_isSmall_34 := rfl
theorem kX12_isSmall_c35 : sx_cd kX12_isSmall 35 = kX12_isSmall_35 := rfl
theorem kX12_isSmall_ok : sx_okM 12 (sx_M 181) kX12_isSmall = true := by decide +kernel
def kX12_isDigit_0 : List sx_I := [(1, .iload_n 1, []), (1, .aload_n 0, []), (3, .getfield 175, [12, 6, 0]), (3, .if_icmp .ge 29, [34]), (1, .aload_n 0, []), (3, .getfield 7, [12, 0, 2]), (1, .iload_n 1, []), (1, .iaload, []), (2, .bipush 48, []), (3, .if_icmp .lt 18, [34]), (1, .aload_n 0, []), (3, .getfield 7, [12, 0, 2]), (1, .iload_n 1, []), (1, .iaload, []), (2, .bipush 57, []), (3, .if_icmp .gt 7, [34]), (1, .iconst 1, []), (3, .goto 4, [35])]
def kX12_isDigit_34 : List sx_I := [(1, .iconst 0, []), (0, .nop, [35])]
def kX12_isDigit_35 : List sx_I := [(1, .ireturn, [1])]
def kX12_isDigit : List (Nat × List sx_I) := [(0, kX12_isDigit_0), (34, kX12_isDigit_34), (35, kX12_isDigit_35)]
theorem kX12_isDigit_c0 : sx_cd kX12_isDigit 0 = kX12_isDigit_0 := rfl
theorem kX12_isDigit_c34 : sx_cd kX12_isDigit 34 = kX12_isDigit_34 := rfl
theorem kX12_isDigit_c35 : sx_cd kX12_isDigit 35 = kX12_isDigit_35 := rfl
theorem kX12_isDigit_ok : sx_okM 12 (sx_M 182) kX12_isDigit = true := by decide +kernel
def kX12_token_0 : List sx_I := [(1, .aload_n 0, []), (3, .getfield 178, [12, 7, 0]), (1, .aload_n 0, []), (3, .getfield 175, [12, 6, 0]), (3, .if_icmp .ge 44, [52]), (1, .aload_n 0, []), (3, .getfield 7, [12, 0, 2]), (1, .aload_n 0, []), (3, .getfield 178, [12, 7, 0]), (1, .iaload, []), (2, .bipush 10, []), (3, .if_icmp .eq 17, [39]), (1, .aload_n 0, []), (3, .getfield 7, [12, 0, 2]), (1, .aload_n 0, []), (3, .getfield 178, [12, 7, 0]), (1, .iaload, []), (2, .bipush 32, []), (3, .if_icmp .ne 16, [52]), (0, .nop, [39])]
def kX12_token_39 : List sx_I := [(1, .aload_n 0, []), (1, .dup, []), (3, .getfield 178, [12, 7, 0]), (1, .iconst 1, []), (1, .iadd, []), (3, .putfield 178, [12, 7, 0]), (3, .goto (-49), [0])]
def kX12_token_52 : List sx_I := [(1, .aload_n 0, []), (1, .aload_n 0, []), (3, .getfield 178, [12, 7, 0]), (3, .putfield 172, [12, 10, 0]), (1, .aload_n 0, []), (3, .getfield 178, [12, 7, 0]), (1, .aload_n 0, []), (3, .getfield 175, [12, 6, 0]), (3, .if_icmp .ne 11, [79]), (1, .aload_n 0, []), (1, .iconst 0, []), (3, .putfield 181, [12, 8, 0]), (3, .goto 205, [281])]
def kX12_token_79 : List sx_I := [(1, .aload_n 0, []), (1, .aload_n 0, []), (3, .getfield 178, [12, 7, 0]), (3, .invokevirtual 184, [0, 181, 2, 12]), (3, .ifCond .eq 105, [192]), (0, .nop, [90])]
def kX12_token_90 : List sx_I := [(1, .aload_n 0, []), (1, .aload_n 0, []), (3, .getfield 178, [12, 7, 0]), (3, .invokevirtual 184, [0, 181, 2, 12]), (3, .ifCond .eq 16, [114]), (1, .aload_n 0, []), (1, .dup, []), (3, .getfield 178, [12, 7, 0]), (1, .iconst 1, []), (1, .iadd, []), (3, .putfield 178, [12, 7, 0]), (3, .goto (-21), [90])]
def kX12_token_114 : List sx_I := [(1, .aload_n 0, []), (1, .aload_n 0, []), (1, .aload_n 0, []), (3, .getfield 172, [12, 10, 0]), (1, .aload_n 0, []), (3, .getfield 178, [12, 7, 0]), (3, .invokevirtual 188, [0, 180, 3, 12]), (3, .putfield 192, [12, 9, 0]), (1, .aload_n 0, []), (1, .aload_n 0, []), (3, .getfield 192, [12, 9, 0]), (3, .ifCond .lt 7, [142]), (1, .iconst 1, []), (3, .goto 23, [162])]
def kX12_token_142 : List sx_I := [(1, .aload_n 0, []), (3, .getfield 178, [12, 7, 0]), (1, .aload_n 0, []), (3, .getfield 172, [12, 10, 0]), (1, .isub, []), (2, .bipush 6, []), (3, .if_icmp .le 8, [161]), (2, .bipush 6, []), (3, .goto 4, [162])]
def kX12_token_161 : List sx_I := [(1, .iconst 2, []), (0, .nop, [162])]
def kX12_token_162 : List sx_I := [(3, .putfield 181, [12, 8, 0]), (1, .aload_n 0, []), (3, .getfield 181, [12, 8, 0]), (1, .iconst 2, []), (3, .if_icmp .ne 111, [281]), (1, .aload_n 0, []), (1, .aload_n 0, []), (1, .aload_n 0, []), (3, .getfield 172, [12, 10, 0]), (1, .aload_n 0, []), (3, .getfield 178, [12, 7, 0]), (3, .invokevirtual 195, [0, 185, 3, 12]), (3, .putfield 192, [12, 9, 0]), (3, .goto 92, [281])]
def kX12_token_192 : List sx_I := [(1, .aload_n 0, []), (1, .aload_n 0, []), (3, .getfield 178, [12, 7, 0]), (3, .invokevirtual 198, [0, 182, 2, 12]), (3, .ifCond .eq 77, [277]), (1, .aload_n 0, []), (1, .iconst 3, []), (3, .putfield 181, [12, 8, 0]), (1, .aload_n 0, []), (1, .iconst 0, []), (3, .putfield 192, [12, 9, 0]), (0, .nop, [213])]
def kX12_token_213 : List sx_I := [(1, .aload_n 0, []), (1, .aload_n 0, []), (3, .getfield 178, [12, 7, 0]), (3, .invokevirtual 198, [0, 182, 2, 12]), (3, .ifCond .eq 60, [281]), (1, .aload_n 0, []), (1, .aload_n 0, []), (3, .getfield 192, [12, 9, 0]), (2, .ldc 201, [99999, 0]), (3, .if_icmp .le 10, [241]), (1, .aload_n 0, []), (3, .getfield 192, [12, 9, 0]), (3, .goto 23, [261])]
def kX12_token_241 : List sx_I := [(2, .bipush 10, []), (1, .aload_n 0, []), (3, .getfield 192, [12, 9, 0]), (1, .imul, []), (1, .aload_n 0, []), (3, .getfield 7, [12, 0, 2]), (1, .aload_n 0, []), (3, .getfield 178, [12, 7, 0]), (1, .iaload, []), (1, .iadd, []), (2, .bipush 48, []), (1, .isub, []), (0, .nop, [261])]
def kX12_token_261 : List sx_I := [(3, .putfield 192, [12, 9, 0]), (1, .aload_n 0, []), (1, .dup, []), (3, .getfield 178, [12, 7, 0]), (1, .iconst 1, []), (1, .iadd, []), (3, .putfield 178, [12, 7, 0]), (3, .goto (-61), [213])]
def kX12_token_277 : List sx_I := [(1, .aload_n 0, []), (3, .invokevirtual 202, [0, 184, 1, 12]), (0, .nop, [281])]
def kX12_token_281 : List sx_I := [(1, .return_, [])]
def kX12_token : List (Nat × List sx_I) := [(0, kX12_token_0), (39, kX12_token_39), (52, kX12_token_52), (79, kX12_token_79), (90, kX12_token_90), (114, kX12_token_114), (142, kX12_token_142), (161, kX12_token_161), (162, kX12_token_162), (192, kX12_token_192), (213, kX12_token_213), (241, kX12_token_241), (261, kX12_token_261), (277, kX12_token_277), (281, kX12_token_281)]
theorem kX12_token_c0 : sx_cd kX12_token 0 = kX12_token_0 := rfl
theorem kX12_token_c39 : sx_cd kX12_token 39 = kX12_token_39 := rfl
theorem kX12_token_c52 : sx_cd kX12_token 52 = kX12_token_52 := rfl
theorem kX12_token_c79 : sx_cd kX12_token 79 = kX12_token_79 := rfl
theorem kX12_token_c90 : sx_cd kX12_token 90 = kX12_token_90 := rfl
theorem kX12_token_c114 : sx_cd kX12_token 114 = kX12_token_114 := rfl
theorem kX12_token_c142 : sx_cd kX12_token 142 = kX12_token_142 := rfl
theorem kX12_token_c161 : sx_cd kX12_token 161 = kX12_token_161 := rfl
theorem kX12_token_c162 : sx_cd kX12_token 162 = kX12_token_162 := rfl
theorem kX12_token_c192 : sx_cd kX12_token 192 = kX12_token_192 := rfl
theorem kX12_token_c213 : sx_cd kX12_token 213 = kX12_token_213 := rfl
theorem kX12_token_c241 : sx_cd kX12_token 241 = kX12_token_241 := rfl
theorem kX12_token_c261 : sx_cd kX12_token 261 = kX12_token_261 := rfl
theorem kX12_token_c277 : sx_cd kX12_token 277 = kX12_token_277 := rfl
theorem kX12_token_c281 : sx_cd kX12_token 281 = kX12_token_281 := rfl
theorem kX12_token_ok : sx_okM 12 (sx_M 183) kX12_token = true := by decide +kernel
def kX12_signToken_0 : List sx_I := [(1, .aload_n 0, []), (1, .aload_n 0, []), (3, .getfield 7, [12, 0, 2]), (1, .aload_n 0, []), (3, .getfield 178, [12, 7, 0]), (1, .iaload, []), (3, .putfield 192, [12, 9, 0]), (1, .aload_n 0, []), (1, .dup, []), (3, .getfield 178, [12, 7, 0]), (1, .iconst 1, []), (1, .iadd, []), (3, .putfield 178, [12, 7, 0]), (1, .aload_n 0, []), (3, .getfield 192, [12, 9, 0]), (2, .bipush 60, []), (3, .if_icmp .eq 21, [50]), (1, .aload_n 0, []), (3, .getfield 192, [12, 9, 0]), (2, .bipush 62, []), (3, .if_icmp .eq 12, [50]), (1, .aload_n 0, []), (3, .getfield 192, [12, 9, 0]), (2, .bipush 61, []), (3, .if_icmp .ne 151, [198]), (0, .nop, [50])]
def kX12_signToken_50 : List sx_I := [(1, .aload_n 0, []), (3, .getfield 178, [12, 7, 0]), (1, .aload_n 0, []), (3, .getfield 175, [12, 6, 0]), (3, .if_icmp .ge 15, [73]), (1, .aload_n 0, []), (3, .getfield 7, [12, 0, 2]), (1, .aload_n 0, []), (3, .getfield 178, [12, 7, 0]), (1, .iaload, []), (3, .goto 4, [74])]
def kX12_signToken_73 : List sx_I := [(1, .iconst 0, []), (0, .nop, [74])]
def kX12_signToken_74 : List sx_I := [(1, .istore_n 1, []), (1, .aload_n 0, []), (3, .getfield 192, [12, 9, 0]), (2, .bipush 61, []), (3, .if_icmp .eq 13, [94]), (1, .iload_n 1, []), (2, .bipush 61, []), (3, .if_icmp .ne 7, [94]), (1, .iconst 1, []), (3, .goto 4, [95])]
def kX12_signToken_94 : List sx_I := [(1, .iconst 0, []), (0, .nop, [95])]
def kX12_signToken_95 : List sx_I := [(1, .istore_n 2, []), (1, .aload_n 0, []), (3, .getfield 192, [12, 9, 0]), (2, .bipush 60, []), (3, .if_icmp .ne 13, [115]), (1, .iload_n 1, []), (2, .bipush 62, []), (3, .if_icmp .ne 7, [115]), (1, .iconst 1, []), (3, .goto 4, [116])]
def kX12_signToken_115 : List sx_I := [(1, .iconst 0, []), (0, .nop, [116])]
def kX12_signToken_116 : List sx_I := [(1, .istore_n 3, []), (1, .iload_n 2, []), (3, .ifCond .ne 7, [125]), (1, .iload_n 3, []), (3, .ifCond .eq 13, [135]), (0, .nop, [125])]
def kX12_signToken_125 : List sx_I := [(1, .aload_n 0, []), (1, .dup, []), (3, .getfield 178, [12, 7, 0]), (1, .iconst 1, []), (1, .iadd, []), (3, .putfield 178, [12, 7, 0]), (0, .nop, [135])]
def kX12_signToken_135 : List sx_I := [(1, .aload_n 0, []), (1, .iconst 5, []), (3, .putfield 181, [12, 8, 0]), (1, .aload_n 0, []), (1, .aload_n 0, []), (3, .getfield 192, [12, 9, 0]), (2, .bipush 61, []), (3, .if_icmp .ne 7, [154]), (1, .iconst 2, []), (3, .goto 41, [192])]
def kX12_signToken_154 : List sx_I := [(1, .aload_n 0, []), (3, .getfield 192, [12, 9, 0]), (2, .bipush 60, []), (3, .if_icmp .ne 23, [183]), (1, .iload_n 2, []), (3, .ifCond .eq 7, [171]), (1, .iconst 1, []), (3, .goto 24, [192])]
def kX12_signToken_171 : List sx_I := [(1, .iload_n 3, []), (3, .ifCond .eq 7, [179]), (1, .iconst 3, []), (3, .goto 16, [192])]
def kX12_signToken_179 : List sx_I := [(1, .iconst 0, []), (3, .goto 12, [192])]
def kX12_signToken_183 : List sx_I := [(1, .iload_n 2, []), (3, .ifCond .eq 7, [191]), (1, .iconst 4, []), (3, .goto 4, [192])]
def kX12_signToken_191 : List sx_I := [(1, .iconst 5, []), (0, .nop, [192])]
def kX12_signToken_192 : List sx_I := [(3, .putfield 192, [12, 9, 0]), (3, .goto 95, [290])]
def kX12_signToken_198 : List sx_I := [(1, .aload_n 0, []), (3, .getfield 192, [12, 9, 0]), (2, .bipush 59, []), (3, .if_icmp .eq 66, [270]), (1, .aload_n 0, []), (3, .getfield 192, [12, 9, 0]), (2, .bipush 40, []), (3, .if_icmp .eq 57, [270]), (1, .aload_n 0, []), (3, .getfield 192, [12, 9, 0]), (2, .bipush 41, []), (3, .if_icmp .eq 48, [270]), (1, .aload_n 0, []), (3, .getfield 192, [12, 9, 0]), (2, .bipush 43, []), (3, .if_icmp .eq 39, [270]), (1, .aload_n 0, []), (3, .getfield 192, [12, 9, 0]), (2, .bipush 45, []), (3, .if_icmp .eq 30, [270]), (1, .aload_n 0, []), (3, .getfield 192, [12, 9, 0]), (2, .bipush 42, []), (3, .if_icmp .eq 21, [270]), (1, .aload_n 0, []), (3, .getfield 192, [12, 9, 0]), (2, .bipush 47, []), (3, .if_icmp .eq 12, [270]), (1, .aload_n 0, []), (3, .getfield 192, [12, 9, 0]), (2, .bipush 37, []), (3, .if_icmp .ne 7, [274]), (0, .nop, [270])]
def kX12_signToken_270 : List sx_I := [(1, .iconst 1, []), (3, .goto 4, [275])]
def kX12_signToken_274 : List sx_I := [(1, .iconst 0, []), (0, .nop, [275])]
def kX12_signToken_275 : List sx_I := [(1, .istore_n 1, []), (1, .aload_n 0, []), (1, .iload_n 1, []), (3, .ifCond .eq 7, [285]), (1, .iconst 4, []), (3, .goto 5, [287])]
def kX12_signToken_285 : List sx_I := [(2, .bipush 6, []), (0, .nop, [287])]
def kX12_signToken_287 : List sx_I := [(3, .putfield 181, [12, 8, 0]), (0, .nop, [290])]
def kX12_signToken_290 : List sx_I := [(1, .return_, [])]
def kX12_signToken : List (Nat × List sx_I) := [(0, kX12_signToken_0), (50, kX12_signToken_50), (73, kX12_signToken_73), (74, kX12_signToken_74), (94, kX12_signToken_94), (95, kX12_signToken_95), (115, kX12_signToken_115), (116, kX12_signToken_116), (125, kX12_signToken_125), (135, kX12_signToken_135), (154, kX12_signToken_154), (171, kX12_signToken_171), (179, kX12_signToken_179), (183, kX12_signToken_183), (191, kX12_signToken_191), (192, kX12_signToken_192), (198, kX12_signToken_198), (270, kX12_signToken_270), (274, kX12_signToken_274), (275, kX12_signToken_275), (285, kX12_signToken_285), (287, kX12_signToken_287), (290, kX12_signToken_290)]
theorem kX12_signToken_c0 : sx_cd kX12_signToken 0 = kX12_signToken_0 := rfl
theorem kX12_signToken_c50 : sx_cd kX12_signToken 50 = kX12_signToken_50 := rfl
theorem kX12_signToken_c73 : sx_cd kX12_signToken 73 = kX12_signToken_73 := rfl
theorem kX12_signToken_c74 : sx_cd kX12_signToken 74 = kX12_signToken_74 := rfl
theorem kX12_signToken_c94 : sx_cd kX12_signToken 94 = kX12_signToken_94 := rfl
theorem kX12_signToken_c95 : sx_cd kX12_signToken 95 = kX12_signToken_95 := rfl
theorem kX12_signToken_c115 : sx_cd kX12_signToken 115 = kX12_signToken_115 := rfl
theorem kX12_signToken_c116 : sx_cd kX12_signToken 116 = kX12_signToken_116 := rfl
theorem kX12_signToken_c125 : sx_cd kX12_signToken 125 = kX12_signToken_125 := rfl
theorem kX12_signToken_c135 : sx_cd kX12_signToken 135 = kX12_signToken_135 := rfl
theorem kX12_signToken_c154 : sx_cd kX12_signToken 154 = kX12_signToken_154 := rfl
theorem kX12_signToken_c171 : sx_cd kX12_signToken 171 = kX12_signToken_171 := rfl
theorem kX12_signToken_c179 : sx_cd kX12_signToken 179 = kX12_signToken_179 := rfl
theorem kX12_signToken_c183 : sx_cd kX12_signToken 183 = kX12_signToken_183 := rfl
theorem kX12_signToken_c191 : sx_cd kX12_signToken 191 = kX12_signToken_191 := rfl
theorem kX12_signToken_c192 : sx_cd kX12_signToken 192 = kX12_signToken_192 := rfl
theorem kX12_signToken_c198 : sx_cd kX12_signToken 198 = kX12_signToken_198 := rfl
theorem kX12_signToken_c270 : sx_cd kX12_signToken 270 = kX12_signToken_270 := rfl
theorem kX12_signToken_c274 : sx_cd kX12_signToken 274 = kX12_signToken_274 := rfl
theorem kX12_signToken_c275 : sx_cd kX12_signToken 275 = kX12_signToken_275 := rfl
theorem kX12_signToken_c285 : sx_cd kX12_signToken 285 = kX12_signToken_285 := rfl
theorem kX12_signToken_c287 : sx_cd kX12_signToken 287 = kX12_signToken_287 := rfl
theorem kX12_signToken_c290 : sx_cd kX12_signToken 290 = kX12_signToken_290 := rfl
theorem kX12_signToken_ok : sx_okM 12 (sx_M 184) kX12_signToken = true := by decide +kernel
def kX12_packed_0 : List sx_I := [(1, .iconst 0, []), (1, .istore_n 3, []), (1, .iload_n 1, []), (2, .istore 4, []), (0, .nop, [5])]
def kX12_packed_5 : List sx_I := [(2, .iload 4, []), (1, .iload_n 1, []), (2, .bipush 6, []), (1, .iadd, []), (3, .if_icmp .ge 34, [45]), (1, .iload_n 3, []), (1, .iconst 5, []), (1, .ishl, []), (2, .iload 4, []), (1, .iload_n 2, []), (3, .if_icmp .ge 16, [36]), (1, .aload_n 0, []), (3, .getfield 7, [12, 0, 2]), (2, .iload 4, []), (1, .iaload, []), (2, .bipush 96, []), (1, .isub, []), (3, .goto 4, [37])]
def kX12_packed_36 : List sx_I := [(1, .iconst 0, []), (0, .nop, [37])]
def kX12_packed_37 : List sx_I := [(1, .ior, []), (1, .istore_n 3, []), (3, .iinc 4 1, []), (3, .goto (-37), [5])]
def kX12_packed_45 : List sx_I := [(1, .iload_n 3, []), (1, .ireturn, [0])]
def kX12_packed : List (Nat × List sx_I) := [(0, kX12_packed_0), (5, kX12_packed_5), (36, kX12_packed_36), (37, kX12_packed_37), (45, kX12_packed_45)]
theorem kX12_packed_c0 : sx_cd kX12_packed 0 = kX12_packed_0 := rfl
theorem kX12_packed_c5 : sx_cd kX12_packed 5 = kX12_packed_5 := rfl
theorem kX12_packed_c36 : sx_cd kX12_packed 36 = kX12_packed_36 := rfl
theorem kX12_packed_c37 : sx_cd kX12_packed 37 = kX12_packed_37 := rfl
theorem kX12_packed_c45 : sx_cd kX12_packed 45 = kX12_packed_45 := rfl
theorem kX12_packed_ok : sx_okM 12 (sx_M 185) kX12_packed = true := by decide +kernel
def kX12_isKey_0 : List sx_I := [(1, .aload_n 0, []), (3, .getfield 181, [12, 8, 0]), (1, .iconst 1, []), (3, .if_icmp .ne 15, [20]), (1, .aload_n 0, []), (3, .getfield 192, [12, 9, 0]), (1, .iload_n 1, []), (3, .if_icmp .ne 7, [20]), (1, .iconst 1, []), (3, .goto 4, [21])]
def kX12_isKey_20 : List sx_I := [(1, .iconst 0, []), (0, .nop, [21])]
def kX12_isKey_21 : List sx_I := [(1, .ireturn, [1])]
def kX12_isKey : List (Nat × List sx_I) := [(0, kX12_isKey_0), (20, kX12_isKey_20), (21, kX12_isKey_21)]
theorem kX12_isKey_c0 : sx_cd kX12_isKey 0 = kX12_isKey_0 := rfl
theorem kX12_isKey_c20 : sx_cd kX12_isKey 20 = kX12_isKey_20 := rfl
theorem kX12_isKey_c21 : sx_cd kX12_isKey 21 = kX12_isKey_21 := rfl
theorem kX12_isKey_ok : sx_okM 12 (sx_M 186) kX12_isKey = true := by decide +kernel
def kX12_isSign_0 : List sx_I := [(1, .aload_n 0, []), (3, .getfield 181, [12, 8, 0]), (1, .iconst 4, []), (3, .if_icmp .ne 15, [20]), (1, .aload_n 0, []), (3, .getfield 192, [12, 9, 0]), (1, .iload_n 1, []), (3, .if_icmp .ne 7, [20]), (1, .iconst 1, []), (3, .goto 4, [21])]
def kX12_isSign_20 : List sx_I := [(1, .iconst 0, []), (0, .nop, [21])]
def kX12_isSign_21 : List sx_I := [(1, .ireturn, [1])]
def kX12_isSign : List (Nat × List sx_I) := [(0, kX12_isSign_0), (20, kX12_isSign_20), (21, kX12_isSign_21)]
theorem kX12_isSign_c0 : sx_cd kX12_isSign 0 = kX12_isSign_0 := rfl
theorem kX12_isSign_c20 : sx_cd kX12_isSign 20 = kX12_isSign_20 := rfl
theorem kX12_isSign_c21 : sx_cd kX12_isSign 21 = kX12_isSign_21 := rfl
theorem kX12_isSign_ok : sx_okM 12 (sx_M 187) kX12_isSign = true := by decide +kernel
def kX12_number_0 : List sx_I := [(1, .aload_n 0, []), (3, .getfield 181, [12, 8, 0]), (1, .iconst 3, []), (3, .if_icmp .eq 9, [14]), (1, .aload_n 0, []), (1, .iconst 1, []), (3, .invokevirtual 205, [0, 179, 2, 12]), (1, .ireturn, [1])]
def kX12_number_14 : List sx_I := [(1, .aload_n 0, []), (3, .getfield 192, [12, 9, 0]), (1, .iload_n 1, []), (1, .iload_n 2, []), (3, .invokestatic 208, [4, 178, 3]), (3, .ifCond .ne 9, [32]), (1, .aload_n 0, []), (1, .iconst 2, []), (3, .invokevirtual 205, [0, 179, 2, 12]), (1, .ireturn, [1])]
def kX12_number_32 : List sx_I := [(1, .aload_n 0, []), (1, .aload_n 0, []), (3, .getfield 192, [12, 9, 0]), (3, .putfield 212, [12, 11, 0]), (1, .aload_n 0, []), (3, .invokevirtual 215, [0, 183, 1, 12]), (1, .iconst 1, []), (1, .ireturn, [1])]
def kX12_number : List (Nat × List sx_I) := [(0, kX12_number_0), (14, kX12_number_14), (32, kX12_number_32)]
theorem kX12_number_c0 : sx_cd kX12_number 0 = kX12_number_0 := rfl
theorem kX12_number_c14 : sx_cd kX12_number 14 = kX12_number_14 := rfl
theorem kX12_number_c32 : sx_cd kX12_number 32 = kX12_number_32 := rfl
theorem kX12_number_ok : sx_okM 12 (sx_M 188) kX12_number = true := by decide +kernel
def kX12_plain_0 : List sx_I := [(1, .aload_n 0, []), (2, .bipush 6, []), (3, .putfield 225, [12, 18, 0]), (1, .aload_n 0, []), (1, .iconst 5, []), (3, .putfield 228, [12, 19, 0]), (1, .aload_n 0, []), (1, .iconst 0, []), (3, .putfield 231, [12, 20, 0]), (1, .aload_n 0, []), (1, .iconst 0, []), (3, .putfield 234, [12, 21, 0]), (1, .aload_n 0, []), (1, .iconst 0, []), (3, .putfield 237, [12, 22, 0]), (1, .aload_n 0, []), (1, .iconst 0, []), (3, .putfield 240, [12, 51, 0]), (1, .aload_n 0, []), (1, .iconst 0, []), (3, .putfield 243, [12, 23, 0]), (1, .aload_n 0, []), (1, .iconst 0, []), (3, .putfield 246, [12, 24, 0]), (1, .aload_n 0, []), (1, .iconst 0, []), (3, .putfield 249, [12, 25, 0]), (1, .aload_n 0, []), (1, .iconst 0, []), (3, .putfield 252, [12, 26, 3]), (1, .aload_n 0, []), (1, .iconst 0, []), (3, .putfield 256, [12, 27, 3]), (1, .aload_n 0, []), (1, .iconst 0, []), (3, .putfield 259, [12, 28, 3]), (1, .aload_n 0, []), (1, .iconst 0, []), (3, .putfield 262, [12, 29, 3]), (2, .bipush 48, []), (1, .istore_n 1, []), (0, .nop, [69])]
def kX12_plain_69 : List sx_I := [(1, .iload_n 1, []), (2, .bipush 96, []), (3, .if_icmp .ge 23, [95]), (1, .aload_n 0, []), (3, .getfield 20, [12, 30, 2]), (1, .iload_n 1, []), (1, .iconst 0, []), (1, .iastore, []), (1, .aload_n 0, []), (3, .getfield 23, [12, 31, 2]), (1, .iload_n 1, []), (1, .iconst (-1), []), (1, .iastore, []), (3, .iinc 1 1, []), (3, .goto (-23), [69])]
def kX12_plain_95 : List sx_I := [(2, .bipush 24, []), (1, .istore_n 1, []), (0, .nop, [98])]
def kX12_plain_98 : List sx_I := [(1, .iload_n 1, []), (2, .bipush 48, []), (3, .if_icmp .ge 16, [117]), (1, .aload_n 0, []), (3, .getfield 44, [12, 38, 2]), (1, .iload_n 1, []), (1, .iconst 0, []), (1, .iastore, []), (3, .iinc 1 1, []), (3, .goto (-16), [98])]
def kX12_plain_117 : List sx_I := [(1, .iconst 3, []), (1, .istore_n 1, []), (0, .nop, [119])]
def kX12_plain_119 : List sx_I := [(1, .iload_n 1, []), (2, .bipush 6, []), (3, .if_icmp .ge 16, [138]), (1, .aload_n 0, []), (3, .getfield 47, [12, 39, 2]), (1, .iload_n 1, []), (1, .iconst 0, []), (1, .bastore, [4]), (3, .iinc 1 1, []), (3, .goto (-16), [119])]
def kX12_plain_138 : List sx_I := [(1, .return_, [])]
def kX12_plain : List (Nat × List sx_I) := [(0, kX12_plain_0), (69, kX12_plain_69), (95, kX12_plain_95), (98, kX12_plain_98), (117, kX12_plain_117), (119, kX12_plain_119), (138, kX12_plain_138)]
theorem kX12_plain_c0 : sx_cd kX12_plain 0 = kX12_plain_0 := rfl
theorem kX12_plain_c69 : sx_cd kX12_plain 69 = kX12_plain_69 := rfl
theorem kX12_plain_c95 : sx_cd kX12_plain 95 = kX12_plain_95 := rfl
theorem kX12_plain_c98 : sx_cd kX12_plain 98 = kX12_plain_98 := rfl
theorem kX12_plain_c117 : sx_cd kX12_plain 117 = kX12_plain_117 := rfl
theorem kX12_plain_c119 : sx_cd kX12_plain 119 = kX12_plain_119 := rfl
theorem kX12_plain_c138 : sx_cd kX12_plain 138 = kX12_plain_138 := rfl
theorem kX12_plain_ok : sx_okM 12 (sx_M 189) kX12_plain = true := by decide +kernel
def kX12_copies_0 : List sx_I := [(1, .iconst 0, []), (1, .istore_n 2, []), (0, .nop, [2])]
def kX12_copies_2 : List sx_I := [(1, .iload_n 2, []), (1, .iload_n 1, []), (3, .if_icmp .ge 17, [21]), (1, .aload_n 0, []), (1, .iload_n 2, []), (1, .aload_n 0, []), (1, .iload_n 1, []), (1, .iload_n 2, []), (1, .iadd, []), (1, .iaload, []), (1, .iastore, []), (3, .iinc 2 1, []), (3, .goto (-16), [2])]
def kX12_copies_21 : List sx_I := [(1, .return_, [])]
def kX12_copies : List (Nat × List sx_I) := [(0, kX12_copies_0), (2, kX12_copies_2), (21, kX12_copies_21)]
theorem kX12_copies_c0 : sx_cd kX12_copies 0 = kX12_copies_0 := rfl
theorem kX12_copies_c2 : sx_cd kX12_copies 2 = kX12_copies_2 := rfl
theorem kX12_copies_c21 : sx_cd kX12_copies 21 = kX12_copies_21 := rfl
theorem kX12_copies_ok : sx_okM 12 (sx_M 190) kX12_copies = true := by decide +kernel
def kX12_keepText_0 : List sx_I := [(1, .aload_n 0, []), (1, .aload_n 0, []), (3, .getfield 225, [12, 18, 0]), (3, .putfield 265, [12, 12, 0]), (1, .aload_n 0, []), (1, .aload_n 0, []), (3, .getfield 228, [12, 19, 0]), (3, .putfield 268, [12, 13, 0]), (1, .aload_n 0, []), (1, .aload_n 0, []), (3, .getfield 231, [12, 20, 0]), (3, .putfield 271, [12, 14, 0]), (1, .aload_n 0, []), (1, .aload_n 0, []), (3, .getfield 234, [12, 21, 0]), (3, .putfield 274, [12, 15, 0]), (1, .aload_n 0, []), (1, .aload_n 0, []), (3, .getfield 237, [12, 22, 0]), (3, .putfield 277, [12, 16, 0]), (1, .aload_n 0, []), (1, .aload_n 0, []), (3, .getfield 243, [12, 23, 0]), (3, .putfield 280, [12, 17, 0]), (1, .aload_n 0, []), (3, .getfield 20, [12, 30, 2]), (2, .bipush 48, []), (3, .invokestatic 283, [4, 190, 2]), (1, .aload_n 0, []), (3, .getfield 23, [12, 31, 2]), (2, .bipush 48, []), (3, .invokestatic 283, [4, 190, 2]), (1, .aload_n 0, []), (3, .getfield 26, [12, 32, 2]), (1, .iconst 3, []), (3, .invokestatic 283, [4, 190, 2]), (1, .aload_n 0, []), (3, .getfield 29, [12, 33, 2]), (1, .iconst 5, []), (3, .invokestatic 283, [4, 190, 2]), (1, .aload_n 0, []), (3, .getfield 32, [12, 34, 2]), (1, .iconst 5, []), (3, .invokestatic 283, [4, 190, 2]), (1, .aload_n 0, []), (3, .getfield 35, [12, 35, 2]), (1, .iconst 5, []), (3, .invokestatic 283, [4, 190, 2]), (1, .aload_n 0, []), (3, .getfield 38, [12, 36, 2]), (1, .iconst 5, []), (3, .invokestatic 283, [4, 190, 2]), (1, .aload_n 0, []), (3, .getfield 41, [12, 37, 2]), (1, .iconst 5, []), (3, .invokestatic 283, [4, 190, 2]), (1, .aload_n 0, []), (3, .getfield 44, [12, 38, 2]), (2, .bipush 24, []), (3, .invokestatic 283, [4, 190, 2]), (1, .iconst 0, []), (1, .istore_n 1, []), (0, .nop, [125])]
def kX12_keepText_125 : List sx_I := [(1, .iload_n 1, []), (1, .iconst 3, []), (3, .if_icmp .ge 23, [150]), (1, .aload_n 0, []), (3, .getfield 47, [12, 39, 2]), (1, .iload_n 1, []), (1, .aload_n 0, []), (3, .getfield 47, [12, 39, 2]), (1, .iconst 3, []), (1, .iload_n 1, []), (1, .iadd, []), (1, .baload, [4]), (1, .bastore, [4]), (3, .iinc 1 1, []), (3, .goto (-22), [125])]
def kX12_keepText_150 : List sx_I := [(1, .aload_n 0, []), (3, .getfield 51, [12, 40, 2]), (1, .iconst 3, []), (3, .invokestatic 283, [4, 190, 2]), (1, .aload_n 0, []), (3, .getfield 54, [12, 41, 2]), (1, .iconst 3, []), (3, .invokestatic 283, [4, 190, 2]), (1, .aload_n 0, []), (3, .getfield 57, [12, 42, 2]), (2, .bipush 64, []), (3, .invokestatic 283, [4, 190, 2]), (1, .aload_n 0, []), (3, .getfield 60, [12, 43, 2]), (2, .bipush 64, []), (3, .invokestatic 283, [4, 190, 2]), (1, .aload_n 0, []), (3, .getfield 63, [12, 44, 2]), (2, .bipush 64, []), (3, .invokestatic 283, [4, 190, 2]), (1, .aload_n 0, []), (3, .invokevirtual 287, [0, 224, 1, 12]), (1, .return_, [])]
def kX12_keepText : List (Nat × List sx_I) := [(0, kX12_keepText_0), (125, kX12_keepText_125), (150, kX12_keepText_150)]
theorem kX12_keepText_c0 : sx_cd kX12_keepText 0 = kX12_keepText_0 := rfl
theorem kX12_keepText_c125 : sx_cd kX12_keepText 125 = kX12_keepText_125 := rfl
theorem kX12_keepText_c150 : sx_cd kX12_keepText 150 = kX12_keepText_150 := rfl
theorem kX12_keepText_ok : sx_okM 12 (sx_M 191) kX12_keepText = true := by decide +kernel
def kX12_find_0 : List sx_I := [(1, .iconst 0, []), (2, .istore 4, []), (0, .nop, [3])]
def kX12_find_3 : List sx_I := [(2, .iload 4, []), (1, .iload_n 2, []), (3, .if_icmp .ge 22, [28]), (1, .aload_n 0, []), (1, .iload_n 1, []), (2, .iload 4, []), (1, .iadd, []), (1, .iaload, []), (1, .iload_n 3, []), (3, .if_icmp .ne 6, [22]), (2, .iload 4, []), (1, .ireturn, [0])]
def kX12_find_22 : List sx_I := [(3, .iinc 4 1, []), (3, .goto (-22), [3])]
def kX12_find_28 : List sx_I := [(1, .iconst (-1), []), (1, .ireturn, [0])]
def kX12_find : List (Nat × List sx_I) := [(0, kX12_find_0), (3, kX12_find_3), (22, kX12_find_22), (28, kX12_find_28)]
theorem kX12_find_c0 : sx_cd kX12_find 0 = kX12_find_0 := rfl
theorem kX12_find_c3 : sx_cd kX12_find 3 = kX12_find_3 := rfl
theorem kX12_find_c22 : sx_cd kX12_find 22 = kX12_find_22 := rfl
theorem kX12_find_c28 : sx_cd kX12_find 28 = kX12_find_28 := rfl
theorem kX12_find_ok : sx_okM 12 (sx_M 192) kX12_find = true := by decide +kernel
def kX12_newName_0 : List sx_I := [(1, .aload_n 0, []), (3, .getfield 181, [12, 8, 0]), (1, .iconst 2, []), (3, .if_icmp .eq 9, [14]), (1, .aload_n 0, []), (1, .iconst 1, []), (3, .invokevirtual 205, [0, 179, 2, 12]), (1, .ireturn, [1])]
def kX12_newName_14 : List sx_I := [(1, .aload_n 1, []), (1, .iload_n 2, []), (1, .iload_n 3, []), (1, .aload_n 0, []), (3, .getfield 192, [12, 9, 0]), (3, .invokestatic 290, [4, 192, 4]), (3, .ifCond .lt 9, [33]), (1, .aload_n 0, []), (1, .iconst 3, []), (3, .invokevirtual 205, [0, 179, 2, 12]), (1, .ireturn, [1])]
def kX12_newName_33 : List sx_I := [(1, .aload_n 1, []), (1, .iload_n 2, []), (1, .iload_n 3, []), (1, .iadd, []), (1, .aload_n 0, []), (3, .getfield 192, [12, 9, 0]), (1, .iastore, []), (1, .aload_n 0, []), (3, .invokevirtual 215, [0, 183, 1, 12]), (1, .iconst 1, []), (1, .ireturn, [1])]
def kX12_newName : List (Nat × List sx_I) := [(0, kX12_newName_0), (14, kX12_newName_14), (33, kX12_newName_33)]
theorem kX12_newName_c0 : sx_cd kX12_newName 0 = kX12_newName_0 := rfl
theorem kX12_newName_c14 : sx_cd kX12_newName 14 = kX12_newName_14 := rfl
theorem kX12_newName_c33 : sx_cd kX12_newName 33 = kX12_newName_33 := rfl
theorem kX12_newName_ok : sx_okM 12 (sx_M 193) kX12_newName = true := by decide +kernel
def kX12_cellRead_0 : List sx_I := [(1, .aload_n 0, []), (1, .iconst 1, []), (3, .putfield 262, [12, 29, 3]), (1, .aload_n 0, []), (1, .iconst 0, []), (1, .aload_n 0, []), (3, .getfield 225, [12, 18, 0]), (1, .iconst 1, []), (1, .isub, []), (3, .invokevirtual 221, [0, 188, 3, 12]), (3, .ifCond .ne 5, [21]), (1, .iconst 0, []), (1, .ireturn, [1])]
def kX12_cellRead_21 : List sx_I := [(1, .aload_n 0, []), (3, .getfield 212, [12, 11, 0]), (1, .istore_n 1, []), (1, .aload_n 0, []), (1, .aload_n 0, []), (3, .getfield 172, [12, 10, 0]), (3, .putfield 294, [12, 45, 0]), (1, .aload_n 0, []), (1, .iconst 0, []), (1, .aload_n 0, []), (3, .getfield 228, [12, 19, 0]), (1, .iconst 1, []), (1, .isub, []), (3, .invokevirtual 221, [0, 188, 3, 12]), (3, .ifCond .ne 5, [50]), (1, .iconst 0, []), (1, .ireturn, [1])]
def kX12_cellRead_50 : List sx_I := [(1, .aload_n 0, []), (1, .aload_n 0, []), (3, .getfield 225, [12, 18, 0]), (1, .aload_n 0, []), (3, .getfield 212, [12, 11, 0]), (1, .imul, []), (1, .iload_n 1, []), (1, .iadd, []), (3, .putfield 212, [12, 11, 0]), (1, .iconst 1, []), (1, .ireturn, [1])]
def kX12_cellRead : List (Nat × List sx_I) := [(0, kX12_cellRead_0), (21, kX12_cellRead_21), (50, kX12_cellRead_50)]
theorem kX12_cellRead_c0 : sx_cd kX12_cellRead 0 = kX12_cellRead_0 := rfl
theorem kX12_cellRead_c21 : sx_cd kX12_cellRead 21 = kX12_cellRead_21 := rfl
theorem kX12_cellRead_c50 : sx_cd kX12_cellRead 50 = kX12_cellRead_50 := rfl
theorem kX12_cellRead_ok : sx_okM 12 (sx_M 194) kX12_cellRead = true := by decide +kernel
def kX12_fieldLine_0 : List sx_I := [(1, .aload_n 0, []), (3, .getfield 252, [12, 26, 3]), (3, .ifCond .eq 9, [13]), (1, .aload_n 0, []), (1, .iconst 3, []), (3, .invokevirtual 205, [0, 179, 2, 12]), (1, .ireturn, [1])]
def kX12_fieldLine_13 : List sx_I := [(1, .aload_n 0, []), (3, .getfield 262, [12, 29, 3]), (3, .ifCond .eq 9, [26]), (1, .aload_n 0, []), (1, .iconst 4, []), (3, .invokevirtual 205, [0, 179, 2, 12]), (1, .ireturn, [1])]
def kX12_fieldLine_26 : List sx_I := [(1, .aload_n 0, []), (1, .iconst 1, []), (3, .putfield 252, [12, 26, 3]), (1, .aload_n 0, []), (3, .invokevirtual 215, [0, 183, 1, 12]), (1, .aload_n 0, []), (1, .iconst 1, []), (2, .bipush 8, []), (3, .invokevirtual 221, [0, 188, 3, 12]), (3, .ifCond .ne 5, [47]), (1, .iconst 0, []), (1, .ireturn, [1])]
def kX12_fieldLine_47 : List sx_I := [(1, .aload_n 0, []), (1, .aload_n 0, []), (3, .getfield 212, [12, 11, 0]), (3, .putfield 225, [12, 18, 0]), (1, .aload_n 0, []), (1, .iconst 1, []), (2, .bipush 6, []), (3, .invokevirtual 221, [0, 188, 3, 12]), (3, .ifCond .ne 5, [67]), (1, .iconst 0, []), (1, .ireturn, [1])]
def kX12_fieldLine_67 : List sx_I := [(1, .aload_n 0, []), (1, .aload_n 0, []), (3, .getfield 212, [12, 11, 0]), (3, .putfield 228, [12, 19, 0]), (1, .iconst 1, []), (1, .ireturn, [1])]
def kX12_fieldLine : List (Nat × List sx_I) := [(0, kX12_fieldLine_0), (13, kX12_fieldLine_13), (26, kX12_fieldLine_26), (47, kX12_fieldLine_47), (67, kX12_fieldLine_67)]
theorem kX12_fieldLine_c0 : sx_cd kX12_fieldLine 0 = kX12_fieldLine_0 := rfl
theorem kX12_fieldLine_c13 : sx_cd kX12_fieldLine 13 = kX12_fieldLine_13 := rfl
theorem kX12_fieldLine_c26 : sx_cd kX12_fieldLine 26 = kX12_fieldLine_26 := rfl
theorem kX12_fieldLine_c47 : sx_cd kX12_fieldLine 47 = kX12_fieldLine_47 := rfl
theorem kX12_fieldLine_c67 : sx_cd kX12_fieldLine 67 = kX12_fieldLine_67 := rfl
theorem kX12_fieldLine_ok : sx_okM 12 (sx_M 195) kX12_fieldLine = true := by decide +kernel
def kX12_treeLine_0 : List sx_I := [(1, .iload_n 1, []), (3, .ifCond .eq 10, [11]), (1, .aload_n 0, []), (3, .getfield 249, [12, 25, 0]), (3, .goto 7, [15])]
def kX12_treeLine_11 : List sx_I := [(1, .aload_n 0, []), (3, .getfield 246, [12, 24, 0]), (0, .nop, [15])]
def kX12_treeLine_15 : List sx_I := [(2, .bipush 12, []), (3, .if_icmp .ne 9, [26]), (1, .aload_n 0, []), (1, .iconst 2, []), (3, .invokevirtual 205, [0, 179, 2, 12]), (1, .ireturn, [1])]
def kX12_treeLine_26 : List sx_I := [(1, .aload_n 0, []), (3, .invokevirtual 215, [0, 183, 1, 12]), (1, .aload_n 0, []), (3, .invokevirtual 297, [0, 194, 1, 12]), (3, .ifCond .ne 5, [39]), (1, .iconst 0, []), (1, .ireturn, [1])]
def kX12_treeLine_39 : List sx_I := [(1, .aload_n 0, []), (3, .getfield 20, [12, 30, 2]), (2, .bipush 48, []), (1, .aload_n 0, []), (3, .getfield 212, [12, 11, 0]), (1, .iadd, []), (1, .iaload, []), (3, .ifCond .eq 17, [68]), (1, .aload_n 0, []), (1, .aload_n 0, []), (3, .getfield 294, [12, 45, 0]), (3, .putfield 172, [12, 10, 0]), (1, .aload_n 0, []), (1, .iconst 3, []), (3, .invokevirtual 205, [0, 179, 2, 12]), (1, .ireturn, [1])]
def kX12_treeLine_68 : List sx_I := [(1, .aload_n 0, []), (3, .getfield 20, [12, 30, 2]), (2, .bipush 48, []), (1, .aload_n 0, []), (3, .getfield 212, [12, 11, 0]), (1, .iadd, []), (1, .iload_n 1, []), (3, .ifCond .eq 7, [87]), (1, .iconst 2, []), (3, .goto 4, [88])]
def kX12_treeLine_87 : List sx_I := [(1, .iconst 1, []), (0, .nop, [88])]
def kX12_treeLine_88 : List sx_I := [(1, .iastore, []), (1, .aload_n 0, []), (1, .dup, []), (3, .getfield 246, [12, 24, 0]), (1, .iload_n 1, []), (3, .ifCond .eq 7, [102]), (1, .iconst 0, []), (3, .goto 4, [103])]
def kX12_treeLine_102 : List sx_I := [(1, .iconst 1, []), (0, .nop, [103])]
def kX12_treeLine_103 : List sx_I := [(1, .iadd, []), (3, .putfield 246, [12, 24, 0]), (1, .aload_n 0, []), (1, .dup, []), (3, .getfield 249, [12, 25, 0]), (1, .iload_n 1, []), (3, .ifCond .eq 7, [120]), (1, .iconst 1, []), (3, .goto 4, [121])]
def kX12_treeLine_120 : List sx_I := [(1, .iconst 0, []), (0, .nop, [121])]
def kX12_treeLine_121 : List sx_I := [(1, .iadd, []), (3, .putfield 249, [12, 25, 0]), (1, .iconst 1, []), (1, .ireturn, [1])]
def kX12_treeLine : List (Nat × List sx_I) := [(0, kX12_treeLine_0), (11, kX12_treeLine_11), (15, kX12_treeLine_15), (26, kX12_treeLine_26), (39, kX12_treeLine_39), (68, kX12_treeLine_68), (87, kX12_treeLine_87), (88, kX12_treeLine_88), (102, kX12_treeLine_102), (103, kX12_treeLine_103), (120, kX12_treeLine_120), (121, kX12_treeLine_121)]
theorem kX12_treeLine_c0 : sx_cd kX12_treeLine 0 = kX12_treeLine_0 := rfl
theorem kX12_treeLine_c11 : sx_cd kX12_treeLine 11 = kX12_treeLine_11 := rfl
theorem kX12_treeLine_c15 : sx_cd kX12_treeLine 15 = kX12_treeLine_15 := rfl
theorem kX12_treeLine_c26 : sx_cd kX12_treeLine 26 = kX12_treeLine_26 := rfl
theorem kX12_treeLine_c39 : sx_cd kX12_treeLine 39 = kX12_treeLine_39 := rfl
theorem kX12_treeLine_c68 : sx_cd kX12_treeLine 68 = kX12_treeLine_68 := rfl
theorem kX12_treeLine_c87 : sx_cd kX12_treeLine 87 = kX12_treeLine_87 := rfl
theorem kX12_treeLine_c88 : sx_cd kX12_treeLine 88 = kX12_treeLine_88 := rfl
theorem kX12_treeLine_c102 : sx_cd kX12_treeLine 102 = kX12_treeLine_102 := rfl
theorem kX12_treeLine_c103 : sx_cd kX12_treeLine 103 = kX12_treeLine_103 := rfl
theorem kX12_treeLine_c120 : sx_cd kX12_treeLine 120 = kX12_treeLine_120 := rfl
theorem kX12_treeLine_c121 : sx_cd kX12_treeLine 121 = kX12_treeLine_121 := rfl
theorem kX12_treeLine_ok : sx_okM 12 (sx_M 196) kX12_treeLine = true := by decide +kernel
def kX12_farmLine_0 : List sx_I := [(1, .aload_n 0, []), (3, .getfield 231, [12, 20, 0]), (1, .iconst 3, []), (3, .if_icmp .ne 9, [14]), (1, .aload_n 0, []), (1, .iconst 2, []), (3, .invokevirtual 205, [0, 179, 2, 12]), (1, .ireturn, [1])]
def kX12_farmLine_14 : List sx_I := [(1, .aload_n 0, []), (3, .invokevirtual 215, [0, 183, 1, 12]), (1, .aload_n 0, []), (1, .aload_n 0, []), (3, .getfield 26, [12, 32, 2]), (1, .iconst 3, []), (1, .aload_n 0, []), (3, .getfield 231, [12, 20, 0]), (3, .invokevirtual 301, [0, 193, 4, 12]), (3, .ifCond .ne 5, [36]), (1, .iconst 0, []), (1, .ireturn, [1])]
def kX12_farmLine_36 : List sx_I := [(1, .aload_n 0, []), (1, .iconst 1, []), (3, .putfield 262, [12, 29, 3]), (1, .aload_n 0, []), (1, .iconst 0, []), (1, .aload_n 0, []), (3, .getfield 225, [12, 18, 0]), (1, .iconst 1, []), (1, .isub, []), (3, .invokevirtual 221, [0, 188, 3, 12]), (3, .ifCond .ne 5, [57]), (1, .iconst 0, []), (1, .ireturn, [1])]
def kX12_farmLine_57 : List sx_I := [(1, .aload_n 0, []), (3, .getfield 212, [12, 11, 0]), (1, .istore_n 1, []), (1, .aload_n 0, []), (1, .iconst 0, []), (1, .aload_n 0, []), (3, .getfield 228, [12, 19, 0]), (1, .iconst 1, []), (1, .isub, []), (3, .invokevirtual 221, [0, 188, 3, 12]), (3, .ifCond .ne 5, [78]), (1, .iconst 0, []), (1, .ireturn, [1])]
def kX12_farmLine_78 : List sx_I := [(1, .aload_n 0, []), (3, .getfield 212, [12, 11, 0]), (1, .istore_n 2, []), (1, .aload_n 0, []), (1, .iload_n 1, []), (1, .aload_n 0, []), (3, .getfield 225, [12, 18, 0]), (1, .iconst 1, []), (1, .isub, []), (3, .invokevirtual 221, [0, 188, 3, 12]), (3, .ifCond .ne 5, [99]), (1, .iconst 0, []), (1, .ireturn, [1])]
def kX12_farmLine_99 : List sx_I := [(1, .aload_n 0, []), (3, .getfield 212, [12, 11, 0]), (1, .istore_n 3, []), (1, .aload_n 0, []), (1, .iload_n 2, []), (1, .aload_n 0, []), (3, .getfield 228, [12, 19, 0]), (1, .iconst 1, []), (1, .isub, []), (3, .invokevirtual 221, [0, 188, 3, 12]), (3, .ifCond .ne 5, [120]), (1, .iconst 0, []), (1, .ireturn, [1])]
def kX12_farmLine_120 : List sx_I := [(1, .iload_n 2, []), (2, .istore 4, []), (0, .nop, [123])]
def kX12_farmLine_123 : List sx_I := [(2, .iload 4, []), (1, .aload_n 0, []), (3, .getfield 212, [12, 11, 0]), (3, .if_icmp .gt 46, [175]), (1, .iload_n 1, []), (2, .istore 5, []), (0, .nop, [135])]
def kX12_farmLine_135 : List sx_I := [(2, .iload 5, []), (1, .iload_n 3, []), (3, .if_icmp .gt 31, [169]), (1, .aload_n 0, []), (3, .getfield 23, [12, 31, 2]), (2, .bipush 48, []), (1, .aload_n 0, []), (3, .getfield 225, [12, 18, 0]), (2, .iload 4, []), (1, .imul, []), (1, .iadd, []), (2, .iload 5, []), (1, .iadd, []), (1, .aload_n 0, []), (3, .getfield 231, [12, 20, 0]), (1, .iastore, []), (3, .iinc 5 1, []), (3, .goto (-31), [135])]
def kX12_farmLine_169 : List sx_I := [(3, .iinc 4 1, []), (3, .goto (-49), [123])]
def kX12_farmLine_175 : List sx_I := [(1, .aload_n 0, []), (1, .dup, []), (3, .getfield 231, [12, 20, 0]), (1, .iconst 1, []), (1, .iadd, []), (3, .putfield 231, [12, 20, 0]), (1, .iconst 1, []), (1, .ireturn, [1])]
def kX12_farmLine : List (Nat × List sx_I) := [(0, kX12_farmLine_0), (14, kX12_farmLine_14), (36, kX12_farmLine_36), (57, kX12_farmLine_57), (78, kX12_farmLine_78), (99, kX12_farmLine_99), (120, kX12_farmLine_120), (123, kX12_farmLine_123), (135, kX12_farmLine_135), (169, kX12_farmLine_169), (175, kX12_farmLine_175)]
theorem kX12_farmLine_c0 : sx_cd kX12_farmLine 0 = kX12_farmLine_0 := rfl
theorem kX12_farmLine_c14 : sx_cd kX12_farmLine 14 = kX12_farmLine_14 := rfl
theorem kX12_farmLine_c36 : sx_cd kX12_farmLine 36 = kX12_farmLine_36 := rfl
theorem kX12_farmLine_c57 : sx_cd kX12_farmLine 57 = kX12_farmLine_57 := rfl
theorem kX12_farmLine_c78 : sx_cd kX12_farmLine 78 = kX12_farmLine_78 := rfl
theorem kX12_farmLine_c99 : sx_cd kX12_farmLine 99 = kX12_farmLine_99 := rfl
theorem kX12_farmLine_c120 : sx_cd kX12_farmLine 120 = kX12_farmLine_120 := rfl
theorem kX12_farmLine_c123 : sx_cd kX12_farmLine 123 = kX12_farmLine_123 := rfl
theorem kX12_farmLine_c135 : sx_cd kX12_farmLine 135 = kX12_farmLine_135 := rfl
theorem kX12_farmLine_c169 : sx_cd kX12_farmLine 169 = kX12_farmLine_169 := rfl
theorem kX12_farmLine_c175 : sx_cd kX12_farmLine 175 = kX12_farmLine_175 := rfl
theorem kX12_farmLine_ok : sx_okM 12 (sx_M 197) kX12_farmLine = true := by decide +kernel
def kX12_walkerLine_0 : List sx_I := [(1, .aload_n 0, []), (3, .getfield 234, [12, 21, 0]), (1, .iconst 5, []), (3, .if_icmp .ne 9, [14]), (1, .aload_n 0, []), (1, .iconst 2, []), (3, .invokevirtual 205, [0, 179, 2, 12]), (1, .ireturn, [1])]
def kX12_walkerLine_14 : List sx_I := [(1, .aload_n 0, []), (3, .invokevirtual 215, [0, 183, 1, 12]), (1, .iconst 5, []), (1, .aload_n 0, []), (3, .getfield 234, [12, 21, 0]), (1, .iadd, []), (1, .istore_n 1, []), (1, .aload_n 0, []), (1, .aload_n 0, []), (3, .getfield 29, [12, 33, 2]), (1, .iconst 5, []), (1, .aload_n 0, []), (3, .getfield 234, [12, 21, 0]), (3, .invokevirtual 301, [0, 193, 4, 12]), (3, .ifCond .ne 5, [43]), (1, .iconst 0, []), (1, .ireturn, [1])]
def kX12_walkerLine_43 : List sx_I := [(1, .aload_n 0, []), (3, .getfield 181, [12, 8, 0]), (1, .iconst 2, []), (3, .if_icmp .eq 9, [57]), (1, .aload_n 0, []), (1, .iconst 1, []), (3, .invokevirtual 205, [0, 179, 2, 12]), (1, .ireturn, [1])]
def kX12_walkerLine_57 : List sx_I := [(1, .aload_n 0, []), (3, .getfield 26, [12, 32, 2]), (1, .iconst 3, []), (1, .aload_n 0, []), (3, .getfield 231, [12, 20, 0]), (1, .aload_n 0, []), (3, .getfield 192, [12, 9, 0]), (3, .invokestatic 290, [4, 192, 4]), (1, .istore_n 2, []), (1, .iload_n 2, []), (3, .ifCond .ge 9, [84]), (1, .aload_n 0, []), (1, .iconst 4, []), (3, .invokevirtual 205, [0, 179, 2, 12]), (1, .ireturn, [1])]
def kX12_walkerLine_84 : List sx_I := [(1, .aload_n 0, []), (3, .getfield 32, [12, 34, 2]), (1, .iload_n 1, []), (1, .iload_n 2, []), (1, .iastore, []), (1, .aload_n 0, []), (3, .invokevirtual 215, [0, 183, 1, 12]), (1, .aload_n 0, []), (1, .iconst 1, []), (2, .bipush 60, []), (3, .invokevirtual 221, [0, 188, 3, 12]), (3, .ifCond .ne 5, [107]), (1, .iconst 0, []), (1, .ireturn, [1])]
def kX12_walkerLine_107 : List sx_I := [(1, .aload_n 0, []), (3, .getfield 35, [12, 35, 2]), (1, .iload_n 1, []), (1, .aload_n 0, []), (3, .getfield 212, [12, 11, 0]), (1, .iastore, []), (1, .aload_n 0, []), (1, .iconst 1, []), (1, .iconst 3, []), (3, .invokevirtual 221, [0, 188, 3, 12]), (3, .ifCond .ne 5, [128]), (1, .iconst 0, []), (1, .ireturn, [1])]
def kX12_walkerLine_128 : List sx_I := [(1, .aload_n 0, []), (3, .getfield 38, [12, 36, 2]), (1, .iload_n 1, []), (1, .aload_n 0, []), (3, .getfield 212, [12, 11, 0]), (1, .iastore, []), (1, .aload_n 0, []), (3, .invokevirtual 297, [0, 194, 1, 12]), (3, .ifCond .ne 5, [147]), (1, .iconst 0, []), (1, .ireturn, [1])]
def kX12_walkerLine_147 : List sx_I := [(1, .aload_n 0, []), (3, .getfield 41, [12, 37, 2]), (1, .iload_n 1, []), (1, .aload_n 0, []), (3, .getfield 212, [12, 11, 0]), (1, .iastore, []), (1, .aload_n 0, []), (1, .dup, []), (3, .getfield 234, [12, 21, 0]), (1, .iconst 1, []), (1, .iadd, []), (3, .putfield 234, [12, 21, 0]), (1, .iconst 1, []), (1, .ireturn, [1])]
def kX12_walkerLine : List (Nat × List sx_I) := [(0, kX12_walkerLine_0), (14, kX12_walkerLine_14), (43, kX12_walkerLine_43), (57, kX12_walkerLine_57), (84, kX12_walkerLine_84), (107, kX12_walkerLine_107), (128, kX12_walkerLine_128), (147, kX12_walkerLine_147)]
theorem kX12_walkerLine_c0 : sx_cd kX12_walkerLine 0 = kX12_walkerLine_0 := rfl
theorem kX12_walkerLine_c14 : sx_cd kX12_walkerLine 14 = kX12_walkerLine_14 := rfl
theorem kX12_walkerLine_c43 : sx_cd kX12_walkerLine 43 = kX12_walkerLine_43 := rfl
theorem kX12_walkerLine_c57 : sx_cd kX12_walkerLine 57 = kX12_walkerLine_57 := rfl
theorem kX12_walkerLine_c84 : sx_cd kX12_walkerLine 84 = kX12_walkerLine_84 := rfl
theorem kX12_walkerLine_c107 : sx_cd kX12_walkerLine 107 = kX12_walkerLine_107 := rfl
theorem kX12_walkerLine_c128 : sx_cd kX12_walkerLine 128 = kX12_walkerLine_128 := rfl
theorem kX12_walkerLine_c147 : sx_cd kX12_walkerLine 147 = kX12_walkerLine_147 := rfl
theorem kX12_walkerLine_ok : sx_okM 12 (sx_M 198) kX12_walkerLine = true := by decide +kernel
def kX12_castLine_0 : List sx_I := [(1, .aload_n 0, []), (3, .getfield 256, [12, 27, 3]), (3, .ifCond .eq 9, [13]), (1, .aload_n 0, []), (1, .iconst 3, []), (3, .invokevirtual 205, [0, 179, 2, 12]), (1, .ireturn, [1])]
def kX12_castLine_13 : List sx_I := [(1, .aload_n 0, []), (1, .iconst 1, []), (3, .putfield 256, [12, 27, 3]), (1, .aload_n 0, []), (3, .invokevirtual 215, [0, 183, 1, 12]), (1, .aload_n 0, []), (3, .getfield 181, [12, 8, 0]), (1, .iconst 3, []), (3, .if_icmp .eq 9, [36]), (1, .aload_n 0, []), (1, .iconst 1, []), (3, .invokevirtual 205, [0, 179, 2, 12]), (1, .ireturn, [1])]
def kX12_castLine_36 : List sx_I := [(1, .iconst 0, []), (1, .istore_n 1, []), (0, .nop, [38])]
def kX12_castLine_38 : List sx_I := [(1, .aload_n 0, []), (3, .getfield 181, [12, 8, 0]), (1, .iconst 3, []), (3, .if_icmp .ne 46, [89]), (1, .iload_n 1, []), (2, .bipush 24, []), (3, .if_icmp .ne 9, [58]), (1, .aload_n 0, []), (1, .iconst 2, []), (3, .invokevirtual 205, [0, 179, 2, 12]), (1, .ireturn, [1])]
def kX12_castLine_58 : List sx_I := [(1, .aload_n 0, []), (1, .iconst 0, []), (2, .bipush 100, []), (3, .invokevirtual 221, [0, 188, 3, 12]), (3, .ifCond .ne 5, [70]), (1, .iconst 0, []), (1, .ireturn, [1])]
def kX12_castLine_70 : List sx_I := [(1, .aload_n 0, []), (3, .getfield 44, [12, 38, 2]), (2, .bipush 24, []), (1, .iload_n 1, []), (1, .iadd, []), (1, .aload_n 0, []), (3, .getfield 212, [12, 11, 0]), (1, .iastore, []), (3, .iinc 1 1, []), (3, .goto (-48), [38])]
def kX12_castLine_89 : List sx_I := [(1, .iconst 1, []), (1, .ireturn, [1])]
def kX12_castLine : List (Nat × List sx_I) := [(0, kX12_castLine_0), (13, kX12_castLine_13), (36, kX12_castLine_36), (38, kX12_castLine_38), (58, kX12_castLine_58), (70, kX12_castLine_70), (89, kX12_castLine_89)]
theorem kX12_castLine_c0 : sx_cd kX12_castLine 0 = kX12_castLine_0 := rfl
theorem kX12_castLine_c13 : sx_cd kX12_castLine 13 = kX12_castLine_13 := rfl
theorem kX12_castLine_c36 : sx_cd kX12_castLine 36 = kX12_castLine_36 := rfl
theorem kX12_castLine_c38 : sx_cd kX12_castLine 38 = kX12_castLine_38 := rfl
theorem kX12_castLine_c58 : sx_cd kX12_castLine 58 = kX12_castLine_58 := rfl
theorem kX12_castLine_c70 : sx_cd kX12_castLine 70 = kX12_castLine_70 := rfl
theorem kX12_castLine_c89 : sx_cd kX12_castLine 89 = kX12_castLine_89 := rfl
theorem kX12_castLine_ok : sx_okM 12 (sx_M 199) kX12_castLine = true := by decide +kernel
def kX12_lineRead_0 : List sx_I := [(1, .aload_n 0, []), (3, .getfield 181, [12, 8, 0]), (1, .iconst 1, []), (3, .if_icmp .ne 12, [17]), (1, .aload_n 0, []), (3, .getfield 192, [12, 9, 0]), (2, .bipush 7, []), (3, .if_icmp .le 9, [23]), (0, .nop, [17])]
def kX12_lineRead_17 : List sx_I := [(1, .aload_n 0, []), (1, .iconst 1, []), (3, .invokevirtual 205, [0, 179, 2, 12]), (1, .ireturn, [1])]
def kX12_lineRead_23 : List sx_I := [(1, .aload_n 0, []), (3, .getfield 192, [12, 9, 0]), (41, .tableswitch 138 0 6 #[41, 49, 58, 67, 75, 83, 91], [165, 68, 76, 85, 94, 102, 110, 118])]
def kX12_lineRead_68 : List sx_I := [(1, .aload_n 0, []), (3, .invokevirtual 305, [0, 195, 1, 12]), (1, .istore_n 1, []), (3, .goto 189, [262])]
def kX12_lineRead_76 : List sx_I := [(1, .aload_n 0, []), (1, .iconst 0, []), (3, .invokevirtual 308, [0, 196, 2, 12]), (1, .istore_n 1, []), (3, .goto 180, [262])]
def kX12_lineRead_85 : List sx_I := [(1, .aload_n 0, []), (1, .iconst 1, []), (3, .invokevirtual 308, [0, 196, 2, 12]), (1, .istore_n 1, []), (3, .goto 171, [262])]
def kX12_lineRead_94 : List sx_I := [(1, .aload_n 0, []), (3, .invokevirtual 312, [0, 197, 1, 12]), (1, .istore_n 1, []), (3, .goto 163, [262])]
def kX12_lineRead_102 : List sx_I := [(1, .aload_n 0, []), (3, .invokevirtual 315, [0, 198, 1, 12]), (1, .istore_n 1, []), (3, .goto 155, [262])]
def kX12_lineRead_110 : List sx_I := [(1, .aload_n 0, []), (3, .invokevirtual 318, [0, 199, 1, 12]), (1, .istore_n 1, []), (3, .goto 147, [262])]
def kX12_lineRead_118 : List sx_I := [(1, .aload_n 0, []), (3, .getfield 259, [12, 28, 3]), (3, .ifCond .eq 9, [131]), (1, .aload_n 0, []), (1, .iconst 3, []), (3, .invokevirtual 205, [0, 179, 2, 12]), (1, .ireturn, [1])]
def kX12_lineRead_131 : List sx_I := [(1, .aload_n 0, []), (1, .iconst 1, []), (3, .putfield 259, [12, 28, 3]), (1, .aload_n 0, []), (3, .invokevirtual 215, [0, 183, 1, 12]), (1, .aload_n 0, []), (1, .iconst 0, []), (2, .ldc 201, [99999, 0]), (3, .invokevirtual 221, [0, 188, 3, 12]), (3, .ifCond .ne 5, [152]), (1, .iconst 0, []), (1, .ireturn, [1])]
def kX12_lineRead_152 : List sx_I := [(1, .aload_n 0, []), (1, .aload_n 0, []), (3, .getfield 212, [12, 11, 0]), (3, .putfield 243, [12, 23, 0]), (1, .iconst 1, []), (1, .istore_n 1, []), (3, .goto 100, [262])]
def kX12_lineRead_165 : List sx_I := [(1, .aload_n 0, []), (3, .invokevirtual 215, [0, 183, 1, 12]), (1, .aload_n 0, []), (3, .getfield 181, [12, 8, 0]), (1, .iconst 1, []), (3, .if_icmp .ne 21, [195]), (1, .aload_n 0, []), (3, .getfield 192, [12, 9, 0]), (2, .bipush 8, []), (3, .if_icmp .lt 12, [195]), (1, .aload_n 0, []), (3, .getfield 192, [12, 9, 0]), (2, .bipush 10, []), (3, .if_icmp .le 9, [201]), (0, .nop, [195])]
def kX12_lineRead_195 : List sx_I := [(1, .aload_n 0, []), (1, .iconst 1, []), (3, .invokevirtual 205, [0, 179, 2, 12]), (1, .ireturn, [1])]
def kX12_lineRead_201 : List sx_I := [(1, .iconst 3, []), (1, .aload_n 0, []), (3, .getfield 192, [12, 9, 0]), (1, .iadd, []), (2, .bipush 8, []), (1, .isub, []), (1, .istore_n 2, []), (1, .aload_n 0, []), (3, .getfield 47, [12, 39, 2]), (1, .iload_n 2, []), (1, .baload, [4]), (3, .ifCond .eq 9, [226]), (1, .aload_n 0, []), (1, .iconst 3, []), (3, .invokevirtual 205, [0, 179, 2, 12]), (1, .ireturn, [1])]
def kX12_lineRead_226 : List sx_I := [(1, .aload_n 0, []), (3, .getfield 47, [12, 39, 2]), (1, .iload_n 2, []), (1, .iconst 1, []), (1, .bastore, [4]), (1, .aload_n 0, []), (3, .invokevirtual 215, [0, 183, 1, 12]), (1, .aload_n 0, []), (3, .getfield 51, [12, 40, 2]), (1, .iload_n 2, []), (1, .aload_n 0, []), (3, .getfield 237, [12, 22, 0]), (1, .iastore, []), (1, .aload_n 0, []), (3, .invokevirtual 321, [0, 213, 1, 12]), (1, .istore_n 1, []), (1, .aload_n 0, []), (3, .getfield 54, [12, 41, 2]), (1, .iload_n 2, []), (1, .aload_n 0, []), (3, .getfield 237, [12, 22, 0]), (1, .iastore, []), (0, .nop, [262])]
def kX12_lineRead_262 : List sx_I := [(1, .iload_n 1, []), (3, .ifCond .ne 5, [268]), (1, .iconst 0, []), (1, .ireturn, [1])]
def kX12_lineRead_268 : List sx_I := [(1, .aload_n 0, []), (2, .bipush 59, []), (3, .invokevirtual 218, [0, 187, 2, 12]), (3, .ifCond .ne 9, [283]), (1, .aload_n 0, []), (1, .iconst 1, []), (3, .invokevirtual 205, [0, 179, 2, 12]), (1, .ireturn, [1])]
def kX12_lineRead_283 : List sx_I := [(1, .aload_n 0, []), (3, .invokevirtual 215, [0, 183, 1, 12]), (1, .iconst 1, []), (1, .ireturn, [1])]
def kX12_lineRead : List (Nat × List sx_I) := [(0, kX12_lineRead_0), (17, kX12_lineRead_17), (23, kX12_lineRead_23), (68, kX12_lineRead_68), (76, kX12_lineRead_76), (85, kX12_lineRead_85), (94, kX12_lineRead_94), (102, kX12_lineRead_102), (110, kX12_lineRead_110), (118, kX12_lineRead_118), (131, kX12_lineRead_131), (152, kX12_lineRead_152), (165, kX12_lineRead_165), (195, kX12_lineRead_195), (201, kX12_lineRead_201), (226, kX12_lineRead_226), (262, kX12_lineRead_262), (268, kX12_lineRead_268), (283, kX12_lineRead_283)]
theorem kX12_lineRead_c0 : sx_cd kX12_lineRead 0 = kX12_lineRead_0 := rfl
theorem kX12_lineRead_c17 : sx_cd kX12_lineRead 17 = kX12_lineRead_17 := rfl
theorem kX12_lineRead_c23 : sx_cd kX12_lineRead 23 = kX12_lineRead_23 := rfl
theorem kX12_lineRead_c68 : sx_cd kX12_lineRead 68 = kX12_lineRead_68 := rfl
theorem kX12_lineRead_c76 : sx_cd kX12_lineRead 76 = kX12_lineRead_76 := rfl
theorem kX12_lineRead_c85 : sx_cd kX12_lineRead 85 = kX12_lineRead_85 := rfl
theorem kX12_lineRead_c94 : sx_cd kX12_lineRead 94 = kX12_lineRead_94 := rfl
theorem kX12_lineRead_c102 : sx_cd kX12_lineRead 102 = kX12_lineRead_102 := rfl
theorem kX12_lineRead_c110 : sx_cd kX12_lineRead 110 = kX12_lineRead_110 := rfl
theorem kX12_lineRead_c118 : sx_cd kX12_lineRead 118 = kX12_lineRead_118 := rfl
theorem kX12_lineRead_c131 : sx_cd kX12_lineRead 131 = kX12_lineRead_131 := rfl
theorem kX12_lineRead_c152 : sx_cd kX12_lineRead 152 = kX12_lineRead_152 := rfl
theorem kX12_lineRead_c165 : sx_cd kX12_lineRead 165 = kX12_lineRead_165 := rfl
theorem kX12_lineRead_c195 : sx_cd kX12_lineRead 195 = kX12_lineRead_195 := rfl
theorem kX12_lineRead_c201 : sx_cd kX12_lineRead 201 = kX12_lineRead_201 := rfl
theorem kX12_lineRead_c226 : sx_cd kX12_lineRead 226 = kX12_lineRead_226 := rfl
theorem kX12_lineRead_c262 : sx_cd kX12_lineRead 262 = kX12_lineRead_262 := rfl
theorem kX12_lineRead_c268 : sx_cd kX12_lineRead 268 = kX12_lineRead_268 := rfl
theorem kX12_lineRead_c283 : sx_cd kX12_lineRead 283 = kX12_lineRead_283 := rfl
theorem kX12_lineRead_ok : sx_okM 12 (sx_M 200) kX12_lineRead = true := by decide +kernel
def kX12_text_0 : List sx_I := [(1, .aload_n 0, []), (1, .iconst 0, []), (3, .putfield 163, [12, 2, 0]), (1, .iload_n 1, []), (3, .ifCond .lt 11, [17]), (1, .iload_n 1, []), (1, .aload_n 0, []), (3, .getfield 166, [12, 1, 0]), (3, .if_icmp .le 6, [20]), (0, .nop, [17])]
def kX12_text_17 : List sx_I := [(2, .bipush (-2), []), (1, .ireturn, [0])]
def kX12_text_20 : List sx_I := [(1, .aload_n 0, []), (1, .iload_n 1, []), (3, .putfield 175, [12, 6, 0]), (1, .aload_n 0, []), (1, .iconst 0, []), (3, .putfield 166, [12, 1, 0]), (1, .aload_n 0, []), (1, .iconst 0, []), (3, .putfield 169, [12, 4, 0]), (1, .aload_n 0, []), (1, .iconst (-1), []), (3, .putfield 16, [12, 5, 0]), (1, .aload_n 0, []), (1, .iconst 0, []), (3, .putfield 178, [12, 7, 0]), (1, .aload_n 0, []), (3, .invokevirtual 157, [0, 189, 1, 12]), (1, .aload_n 0, []), (3, .invokevirtual 215, [0, 183, 1, 12]), (1, .iconst 0, []), (1, .istore_n 2, []), (0, .nop, [55])]
def kX12_text_55 : List sx_I := [(1, .aload_n 0, []), (3, .getfield 181, [12, 8, 0]), (3, .ifCond .eq 18, [77]), (1, .aload_n 0, []), (3, .invokevirtual 324, [0, 200, 1, 12]), (3, .ifCond .ne 5, [71]), (1, .iconst (-1), []), (1, .ireturn, [0])]
def kX12_text_71 : List sx_I := [(3, .iinc 2 1, []), (3, .goto (-19), [55])]
def kX12_text_77 : List sx_I := [(1, .aload_n 0, []), (3, .invokevirtual 160, [0, 191, 1, 12]), (1, .iload_n 2, []), (1, .ireturn, [0])]
def kX12_text : List (Nat × List sx_I) := [(0, kX12_text_0), (17, kX12_text_17), (20, kX12_text_20), (55, kX12_text_55), (71, kX12_text_71), (77, kX12_text_77)]
theorem kX12_text_c0 : sx_cd kX12_text 0 = kX12_text_0 := rfl
theorem kX12_text_c17 : sx_cd kX12_text 17 = kX12_text_17 := rfl
theorem kX12_text_c20 : sx_cd kX12_text 20 = kX12_text_20 := rfl
theorem kX12_text_c55 : sx_cd kX12_text 55 = kX12_text_55 := rfl
theorem kX12_text_c71 : sx_cd kX12_text 71 = kX12_text_71 := rfl
theorem kX12_text_c77 : sx_cd kX12_text 77 = kX12_text_77 := rfl
theorem kX12_text_ok : sx_okM 12 (sx_M 201) kX12_text = true := by decide +kernel
def kX12_fault_0 : List sx_I := [(1, .aload_n 0, []), (1, .iconst 0, []), (3, .putfield 163, [12, 2, 0]), (1, .iload_n 1, []), (3, .ifCond .ne 10, [16]), (1, .aload_n 0, []), (3, .getfield 169, [12, 4, 0]), (3, .goto 16, [29])]
def kX12_fault_16 : List sx_I := [(1, .iload_n 1, []), (1, .iconst 1, []), (3, .if_icmp .ne 10, [28]), (1, .aload_n 0, []), (3, .getfield 16, [12, 5, 0]), (3, .goto 4, [29])]
def kX12_fault_28 : List sx_I := [(1, .iconst (-1), []), (0, .nop, [29])]
def kX12_fault_29 : List sx_I := [(1, .ireturn, [0])]
def kX12_fault : List (Nat × List sx_I) := [(0, kX12_fault_0), (16, kX12_fault_16), (28, kX12_fault_28), (29, kX12_fault_29)]
theorem kX12_fault_c0 : sx_cd kX12_fault 0 = kX12_fault_0 := rfl
theorem kX12_fault_c16 : sx_cd kX12_fault 16 = kX12_fault_16 := rfl
theorem kX12_fault_c28 : sx_cd kX12_fault 28 = kX12_fault_28 := rfl
theorem kX12_fault_c29 : sx_cd kX12_fault 29 = kX12_fault_29 := rfl
theorem kX12_fault_ok : sx_okM 12 (sx_M 202) kX12_fault = true := by decide +kernel
def kX12_named_0 : List sx_I := [(1, .aload_n 0, []), (1, .iconst 0, []), (3, .putfield 163, [12, 2, 0]), (1, .iload_n 1, []), (3, .ifCond .ne 19, [25]), (1, .aload_n 0, []), (3, .getfield 26, [12, 32, 2]), (1, .iconst 0, []), (1, .aload_n 0, []), (3, .getfield 271, [12, 14, 0]), (1, .iload_n 2, []), (3, .invokestatic 290, [4, 192, 4]), (3, .goto 25, [47])]
def kX12_named_25 : List sx_I := [(1, .iload_n 1, []), (1, .iconst 1, []), (3, .if_icmp .ne 19, [46]), (1, .aload_n 0, []), (3, .getfield 29, [12, 33, 2]), (1, .iconst 0, []), (1, .aload_n 0, []), (3, .getfield 274, [12, 15, 0]), (1, .iload_n 2, []), (3, .invokestatic 290, [4, 192, 4]), (3, .goto 4, [47])]
def kX12_named_46 : List sx_I := [(1, .iconst (-1), []), (0, .nop, [47])]
def kX12_named_47 : List sx_I := [(1, .ireturn, [0])]
def kX12_named : List (Nat × List sx_I) := [(0, kX12_named_0), (25, kX12_named_25), (46, kX12_named_46), (47, kX12_named_47)]
theorem kX12_named_c0 : sx_cd kX12_named 0 = kX12_named_0 := rfl
theorem kX12_named_c25 : sx_cd kX12_named 25 = kX12_named_25 := rfl
theorem kX12_named_c46 : sx_cd kX12_named 46 = kX12_named_46 := rfl
theorem kX12_named_c47 : sx_cd kX12_named 47 = kX12_named_47 := rfl
theorem kX12_named_ok : sx_okM 12 (sx_M 203) kX12_named = true := by decide +kernel
def kX12_rank_0 : List sx_I := [(1, .iload_n 0, []), (2, .bipush 13, []), (3, .if_icmp .lt 8, [11]), (2, .bipush 6, []), (3, .goto 50, [58])]
def kX12_rank_11 : List sx_I := [(1, .iload_n 0, []), (2, .bipush 11, []), (3, .if_icmp .lt 7, [21]), (1, .iconst 5, []), (3, .goto 40, [58])]
def kX12_rank_21 : List sx_I := [(1, .iload_n 0, []), (1, .iconst 5, []), (3, .if_icmp .lt 7, [30]), (1, .iconst 4, []), (3, .goto 31, [58])]
def kX12_rank_30 : List sx_I := [(1, .iload_n 0, []), (1, .iconst 2, []), (3, .if_icmp .ne 7, [39]), (1, .iconst 3, []), (3, .goto 22, [58])]
def kX12_rank_39 : List sx_I := [(1, .iload_n 0, []), (1, .iconst 3, []), (3, .if_icmp .ne 7, [48]), (1, .iconst 2, []), (3, .goto 13, [58])]
def kX12_rank_48 : List sx_I := [(1, .iload_n 0, []), (1, .iconst 4, []), (3, .if_icmp .ne 7, [57]), (1, .iconst 1, []), (3, .goto 4, [58])]
def kX12_rank_57 : List sx_I := [(1, .iconst 0, []), (0, .nop, [58])]
def kX12_rank_58 : List sx_I := [(1, .ireturn, [0])]
def kX12_rank : List (Nat × List sx_I) := [(0, kX12_rank_0), (11, kX12_rank_11), (21, kX12_rank_21), (30, kX12_rank_30), (39, kX12_rank_39), (48, kX12_rank_48), (57, kX12_rank_57), (58, kX12_rank_58)]
theorem kX12_rank_c0 : sx_cd kX12_rank 0 = kX12_rank_0 := rfl
theorem kX12_rank_c11 : sx_cd kX12_rank 11 = kX12_rank_11 := rfl
theorem kX12_rank_c21 : sx_cd kX12_rank 21 = kX12_rank_21 := rfl
theorem kX12_rank_c30 : sx_cd kX12_rank 30 = kX12_rank_30 := rfl
theorem kX12_rank_c39 : sx_cd kX12_rank 39 = kX12_rank_39 := rfl
theorem kX12_rank_c48 : sx_cd kX12_rank 48 = kX12_rank_48 := rfl
theorem kX12_rank_c57 : sx_cd kX12_rank 57 = kX12_rank_57 := rfl
theorem kX12_rank_c58 : sx_cd kX12_rank 58 = kX12_rank_58 := rfl
theorem kX12_rank_ok : sx_okM 12 (sx_M 204) kX12_rank = true := by decide +kernel
def kX12_grown_0 : List sx_I := [(1, .aload_n 0, []), (3, .getfield 57, [12, 42, 2]), (2, .bipush 64, []), (1, .aload_n 0, []), (3, .getfield 237, [12, 22, 0]), (1, .iadd, []), (1, .iload_n 1, []), (1, .iastore, []), (1, .aload_n 0, []), (3, .getfield 60, [12, 43, 2]), (2, .bipush 64, []), (1, .aload_n 0, []), (3, .getfield 237, [12, 22, 0]), (1, .iadd, []), (1, .iload_n 2, []), (1, .iastore, []), (1, .aload_n 0, []), (3, .getfield 63, [12, 44, 2]), (2, .bipush 64, []), (1, .aload_n 0, []), (3, .getfield 237, [12, 22, 0]), (1, .iadd, []), (1, .iload_n 3, []), (1, .iastore, []), (1, .aload_n 0, []), (3, .getfield 69, [12, 47, 2]), (1, .aload_n 0, []), (3, .getfield 327, [12, 49, 0]), (1, .aload_n 0, []), (3, .getfield 237, [12, 22, 0]), (1, .iastore, []), (1, .aload_n 0, []), (1, .dup, []), (3, .getfield 327, [12, 49, 0]), (1, .iconst 1, []), (1, .iadd, []), (3, .putfield 327, [12, 49, 0]), (1, .aload_n 0, []), (1, .dup, []), (3, .getfield 237, [12, 22, 0]), (1, .iconst 1, []), (1, .iadd, []), (3, .putfield 237, [12, 22, 0]), (1, .return_, [])]
def kX12_grown : List (Nat × List sx_I) := [(0, kX12_grown_0)]
theorem kX12_grown_c0 : sx_cd kX12_grown 0 = kX12_grown_0 := rfl
theorem kX12_grown_ok : sx_okM 12 (sx_M 205) kX12_grown = true := by decide +kernel
def kX12_dropHeld_0 : List sx_I := [(1, .aload_n 0, []), (1, .dup, []), (3, .getfield 327, [12, 49, 0]), (1, .iconst 1, []), (1, .isub, []), (3, .putfield 327, [12, 49, 0]), (1, .aload_n 0, []), (3, .getfield 69, [12, 47, 2]), (1, .aload_n 0, []), (3, .getfield 327, [12, 49, 0]), (1, .iaload, []), (1, .ireturn, [0])]
def kX12_dropHeld : List (Nat × List sx_I) := [(0, kX12_dropHeld_0)]
theorem kX12_dropHeld_c0 : sx_cd kX12_dropHeld 0 = kX12_dropHeld_0 := rfl
theorem kX12_dropHeld_ok : sx_okM 12 (sx_M 206) kX12_dropHeld = true := by decide +kernel
def kX12_bind_0 : List sx_I := [(1, .aload_n 0, []), (3, .getfield 330, [12, 48, 0]), (3, .ifCond .le 72, [76]), (1, .aload_n 0, []), (3, .getfield 66, [12, 46, 2]), (1, .aload_n 0, []), (3, .getfield 330, [12, 48, 0]), (1, .iconst 1, []), (1, .isub, []), (1, .iaload, []), (3, .invokestatic 333, [4, 204, 1]), (1, .iload_n 1, []), (3, .if_icmp .lt 54, [76]), (1, .aload_n 0, []), (1, .dup, []), (3, .getfield 330, [12, 48, 0]), (1, .iconst 1, []), (1, .isub, []), (3, .putfield 330, [12, 48, 0]), (1, .aload_n 0, []), (3, .getfield 66, [12, 46, 2]), (1, .aload_n 0, []), (3, .getfield 330, [12, 48, 0]), (1, .iaload, []), (1, .istore_n 2, []), (1, .iload_n 2, []), (1, .iconst 2, []), (3, .if_icmp .ne 7, [54]), (1, .iconst (-1), []), (3, .goto 7, [58])]
def kX12_bind_54 : List sx_I := [(1, .aload_n 0, []), (3, .invokevirtual 337, [0, 206, 1, 12]), (0, .nop, [58])]
def kX12_bind_58 : List sx_I := [(1, .istore_n 3, []), (1, .aload_n 0, []), (3, .invokevirtual 337, [0, 206, 1, 12]), (2, .istore 4, []), (1, .aload_n 0, []), (1, .iload_n 2, []), (2, .iload 4, []), (1, .iload_n 3, []), (3, .invokevirtual 341, [0, 205, 4, 12]), (3, .goto (-73), [0])]
def kX12_bind_76 : List sx_I := [(1, .return_, [])]
def kX12_bind : List (Nat × List sx_I) := [(0, kX12_bind_0), (54, kX12_bind_54), (58, kX12_bind_58), (76, kX12_bind_76)]
theorem kX12_bind_c0 : sx_cd kX12_bind 0 = kX12_bind_0 := rfl
theorem kX12_bind_c54 : sx_cd kX12_bind 54 = kX12_bind_54 := rfl
theorem kX12_bind_c58 : sx_cd kX12_bind 58 = kX12_bind_58 := rfl
theorem kX12_bind_c76 : sx_cd kX12_bind 76 = kX12_bind_76 := rfl
theorem kX12_bind_ok : sx_okM 12 (sx_M 207) kX12_bind = true := by decide +kernel
def kX12_isCounted_0 : List sx_I := [(1, .aload_n 0, []), (3, .getfield 240, [12, 51, 0]), (2, .bipush 64, []), (3, .if_icmp .ne 9, [15]), (1, .aload_n 0, []), (1, .iconst 2, []), (3, .invokevirtual 205, [0, 179, 2, 12]), (1, .ireturn, [1])]
def kX12_isCounted_15 : List sx_I := [(1, .aload_n 0, []), (1, .dup, []), (3, .getfield 240, [12, 51, 0]), (1, .iconst 1, []), (1, .iadd, []), (3, .putfield 240, [12, 51, 0]), (1, .iconst 1, []), (1, .ireturn, [1])]
def kX12_isCounted : List (Nat × List sx_I) := [(0, kX12_isCounted_0), (15, kX12_isCounted_15)]
theorem kX12_isCounted_c0 : sx_cd kX12_isCounted 0 = kX12_isCounted_0 := rfl
theorem kX12_isCounted_c15 : sx_cd kX12_isCounted 15 = kX12_isCounted_15 := rfl
theorem kX12_isCounted_ok : sx_okM 12 (sx_M 208) kX12_isCounted = true := by decide +kernel
def kX12_waitsFor_0 : List sx_I := [(1, .aload_n 0, []), (3, .getfield 66, [12, 46, 2]), (1, .aload_n 0, []), (3, .getfield 330, [12, 48, 0]), (1, .iload_n 1, []), (1, .iastore, []), (1, .aload_n 0, []), (1, .dup, []), (3, .getfield 330, [12, 48, 0]), (1, .iconst 1, []), (1, .iadd, []), (3, .putfield 330, [12, 48, 0]), (1, .return_, [])]
def kX12_waitsFor : List (Nat × List sx_I) := [(0, kX12_waitsFor_0)]
theorem kX12_waitsFor_c0 : sx_cd kX12_waitsFor 0 = kX12_waitsFor_0 := rfl
theorem kX12_waitsFor_ok : sx_okM 12 (sx_M 209) kX12_waitsFor = true := by decide +kernel
def kX12_nameMet_0 : List sx_I := [(1, .aload_n 0, []), (3, .getfield 181, [12, 8, 0]), (1, .iconst 1, []), (3, .if_icmp .eq 7, [12]), (1, .iconst (-1), []), (3, .goto 57, [66])]
def kX12_nameMet_12 : List sx_I := [(1, .aload_n 0, []), (3, .getfield 192, [12, 9, 0]), (2, .bipush 8, []), (3, .if_icmp .ne 7, [25]), (1, .iconst 3, []), (3, .goto 44, [66])]
def kX12_nameMet_25 : List sx_I := [(1, .aload_n 0, []), (3, .getfield 192, [12, 9, 0]), (2, .bipush 17, []), (3, .if_icmp .lt 15, [46]), (1, .iconst 4, []), (1, .aload_n 0, []), (3, .getfield 192, [12, 9, 0]), (1, .iadd, []), (2, .bipush 17, []), (1, .isub, []), (3, .goto 23, [66])]
def kX12_nameMet_46 : List sx_I := [(1, .aload_n 0, []), (3, .getfield 192, [12, 9, 0]), (2, .bipush 14, []), (3, .if_icmp .lt 13, [65]), (1, .aload_n 0, []), (3, .getfield 192, [12, 9, 0]), (2, .bipush 14, []), (1, .isub, []), (3, .goto 4, [66])]
def kX12_nameMet_65 : List sx_I := [(1, .iconst (-1), []), (0, .nop, [66])]
def kX12_nameMet_66 : List sx_I := [(1, .ireturn, [0])]
def kX12_nameMet : List (Nat × List sx_I) := [(0, kX12_nameMet_0), (12, kX12_nameMet_12), (25, kX12_nameMet_25), (46, kX12_nameMet_46), (65, kX12_nameMet_65), (66, kX12_nameMet_66)]
theorem kX12_nameMet_c0 : sx_cd kX12_nameMet 0 = kX12_nameMet_0 := rfl
theorem kX12_nameMet_c12 : sx_cd kX12_nameMet 12 = kX12_nameMet_12 := rfl
theorem kX12_nameMet_c25 : sx_cd kX12_nameMet 25 = kX12_nameMet_25 := rfl
theorem kX12_nameMet_c46 : sx_cd kX12_nameMet 46 = kX12_nameMet_46 := rfl
theorem kX12_nameMet_c65 : sx_cd kX12_nameMet 65 = kX12_nameMet_65 := rfl
theorem kX12_nameMet_c66 : sx_cd kX12_nameMet 66 = kX12_nameMet_66 := rfl
theorem kX12_nameMet_ok : sx_okM 12 (sx_M 210) kX12_nameMet = true := by decide +kernel
def kX12_leafRead_0 : List sx_I := [(1, .aload_n 0, []), (2, .bipush 40, []), (3, .invokevirtual 218, [0, 187, 2, 12]), (3, .ifCond .eq 44, [50]), (1, .aload_n 0, []), (3, .getfield 345, [12, 50, 0]), (2, .bipush 8, []), (3, .if_icmp .ne 9, [24]), (1, .aload_n 0, []), (1, .iconst 2, []), (3, .invokevirtual 205, [0, 179, 2, 12]), (1, .ireturn, [1])]
def kX12_leafRead_24 : List sx_I := [(1, .aload_n 0, []), (1, .dup, []), (3, .getfield 345, [12, 50, 0]), (1, .iconst 1, []), (1, .iadd, []), (3, .putfield 345, [12, 50, 0]), (1, .aload_n 0, []), (1, .iconst 0, []), (3, .invokevirtual 348, [0, 209, 2, 12]), (1, .aload_n 0, []), (1, .iconst 1, []), (3, .putfield 352, [12, 53, 3]), (1, .aload_n 0, []), (3, .invokevirtual 215, [0, 183, 1, 12]), (1, .iconst 1, []), (1, .ireturn, [1])]
def kX12_leafRead_50 : List sx_I := [(1, .aload_n 0, []), (2, .bipush 13, []), (3, .invokevirtual 355, [0, 186, 2, 12]), (3, .ifCond .eq 30, [86]), (1, .aload_n 0, []), (3, .getfield 352, [12, 53, 3]), (3, .ifCond .eq 23, [86]), (1, .aload_n 0, []), (3, .invokevirtual 358, [0, 208, 1, 12]), (3, .ifCond .ne 5, [75]), (1, .iconst 0, []), (1, .ireturn, [1])]
def kX12_leafRead_75 : List sx_I := [(1, .aload_n 0, []), (1, .iconst 2, []), (3, .invokevirtual 348, [0, 209, 2, 12]), (1, .aload_n 0, []), (3, .invokevirtual 215, [0, 183, 1, 12]), (1, .iconst 1, []), (1, .ireturn, [1])]
def kX12_leafRead_86 : List sx_I := [(1, .aload_n 0, []), (3, .invokevirtual 361, [0, 210, 1, 12]), (1, .istore_n 1, []), (1, .iload_n 1, []), (3, .ifCond .ge 17, [109]), (1, .aload_n 0, []), (3, .getfield 181, [12, 8, 0]), (1, .iconst 3, []), (3, .if_icmp .eq 9, [109]), (1, .aload_n 0, []), (1, .iconst 1, []), (3, .invokevirtual 205, [0, 179, 2, 12]), (1, .ireturn, [1])]
def kX12_leafRead_109 : List sx_I := [(1, .iload_n 1, []), (3, .ifCond .ge 19, [129]), (1, .aload_n 0, []), (3, .getfield 192, [12, 9, 0]), (3, .sipush 9999, []), (3, .if_icmp .le 9, [129]), (1, .aload_n 0, []), (1, .iconst 2, []), (3, .invokevirtual 205, [0, 179, 2, 12]), (1, .ireturn, [1])]
def kX12_leafRead_129 : List sx_I := [(1, .aload_n 0, []), (3, .invokevirtual 358, [0, 208, 1, 12]), (3, .ifCond .ne 5, [138]), (1, .iconst 0, []), (1, .ireturn, [1])]
def kX12_leafRead_138 : List sx_I := [(1, .aload_n 0, []), (1, .iload_n 1, []), (3, .ifCond .lt 7, [147]), (1, .iconst 1, []), (3, .goto 4, [148])]
def kX12_leafRead_147 : List sx_I := [(1, .iconst 0, []), (0, .nop, [148])]
def kX12_leafRead_148 : List sx_I := [(1, .iload_n 1, []), (3, .ifCond .lt 7, [156]), (1, .iload_n 1, []), (3, .goto 7, [160])]
def kX12_leafRead_156 : List sx_I := [(1, .aload_n 0, []), (3, .getfield 192, [12, 9, 0]), (0, .nop, [160])]
def kX12_leafRead_160 : List sx_I := [(1, .iconst 0, []), (3, .invokevirtual 341, [0, 205, 4, 12]), (1, .aload_n 0, []), (1, .iconst 0, []), (3, .putfield 364, [12, 52, 3]), (1, .aload_n 0, []), (3, .invokevirtual 215, [0, 183, 1, 12]), (1, .iconst 1, []), (1, .ireturn, [1])]
def kX12_leafRead : List (Nat × List sx_I) := [(0, kX12_leafRead_0), (24, kX12_leafRead_24), (50, kX12_leafRead_50), (75, kX12_leafRead_75), (86, kX12_leafRead_86), (109, kX12_leafRead_109), (129, kX12_leafRead_129), (138, kX12_leafRead_138), (147, kX12_leafRead_147), (148, kX12_leafRead_148), (156, kX12_leafRead_156), (160, kX12_leafRead_160)]
theorem kX12_leafRead_c0 : sx_cd kX12_leafRead 0 = kX12_leafRead_0 := rfl
theorem kX12_leafRead_c24 : sx_cd kX12_leafRead 24 = kX12_leafRead_24 := rfl
theorem kX12_leafRead_c50 : sx_cd kX12_leafRead 50 = kX12_leafRead_50 := rfl
theorem kX12_leafRead_c75 : sx_cd kX12_leafRead 75 = kX12_leafRead_75 := rfl
theorem kX12_leafRead_c86 : sx_cd kX12_leafRead 86 = kX12_leafRead_86 := rfl
theorem kX12_leafRead_c109 : sx_cd kX12_leafRead 109 = kX12_leafRead_109 := rfl
theorem kX12_leafRead_c129 : sx_cd kX12_leafRead 129 = kX12_leafRead_129 := rfl
theorem kX12_leafRead_c138 : sx_cd kX12_leafRead 138 = kX12_leafRead_138 := rfl
theorem kX12_leafRead_c147 : sx_cd kX12_leafRead 147 = kX12_leafRead_147 := rfl
theorem kX12_leafRead_c148 : sx_cd kX12_leafRead 148 = kX12_leafRead_148 := rfl
theorem kX12_leafRead_c156 : sx_cd kX12_leafRead 156 = kX12_leafRead_156 := rfl
theorem kX12_leafRead_c160 : sx_cd kX12_leafRead 160 = kX12_leafRead_160 := rfl
theorem kX12_leafRead_ok : sx_okM 12 (sx_M 211) kX12_leafRead = true := by decide +kernel
def kX12_signs_0 : List sx_I := [(1, .aload_n 0, []), (2, .bipush 41, []), (3, .invokevirtual 218, [0, 187, 2, 12]), (3, .ifCond .eq 41, [47]), (1, .aload_n 0, []), (3, .getfield 345, [12, 50, 0]), (3, .ifCond .le 34, [47]), (1, .aload_n 0, []), (1, .iconst 1, []), (3, .invokevirtual 367, [0, 207, 2, 12]), (1, .aload_n 0, []), (1, .dup, []), (3, .getfield 330, [12, 48, 0]), (1, .iconst 1, []), (1, .isub, []), (3, .putfield 330, [12, 48, 0]), (1, .aload_n 0, []), (1, .dup, []), (3, .getfield 345, [12, 50, 0]), (1, .iconst 1, []), (1, .isub, []), (3, .putfield 345, [12, 50, 0]), (1, .aload_n 0, []), (3, .invokevirtual 215, [0, 183, 1, 12]), (1, .iconst 1, []), (1, .ireturn, [1])]
def kX12_signs_47 : List sx_I := [(1, .aload_n 0, []), (2, .bipush 11, []), (3, .invokevirtual 355, [0, 186, 2, 12]), (3, .ifCond .eq 7, [60]), (1, .iconst 3, []), (3, .goto 90, [147])]
def kX12_signs_60 : List sx_I := [(1, .aload_n 0, []), (2, .bipush 12, []), (3, .invokevirtual 355, [0, 186, 2, 12]), (3, .ifCond .eq 7, [73]), (1, .iconst 4, []), (3, .goto 77, [147])]
def kX12_signs_73 : List sx_I := [(1, .aload_n 0, []), (3, .getfield 181, [12, 8, 0]), (1, .iconst 5, []), (3, .if_icmp .ne 12, [90]), (1, .iconst 5, []), (1, .aload_n 0, []), (3, .getfield 192, [12, 9, 0]), (1, .iadd, []), (3, .goto 60, [147])]
def kX12_signs_90 : List sx_I := [(1, .aload_n 0, []), (2, .bipush 43, []), (3, .invokevirtual 218, [0, 187, 2, 12]), (3, .ifCond .eq 8, [104]), (2, .bipush 11, []), (3, .goto 46, [147])]
def kX12_signs_104 : List sx_I := [(1, .aload_n 0, []), (2, .bipush 45, []), (3, .invokevirtual 218, [0, 187, 2, 12]), (3, .ifCond .eq 8, [118]), (2, .bipush 12, []), (3, .goto 32, [147])]
def kX12_signs_118 : List sx_I := [(1, .aload_n 0, []), (2, .bipush 42, []), (3, .invokevirtual 218, [0, 187, 2, 12]), (3, .ifCond .eq 8, [132]), (2, .bipush 13, []), (3, .goto 18, [147])]
def kX12_signs_132 : List sx_I := [(1, .aload_n 0, []), (2, .bipush 47, []), (3, .invokevirtual 218, [0, 187, 2, 12]), (3, .ifCond .eq 8, [146]), (2, .bipush 14, []), (3, .goto 4, [147])]
def kX12_signs_146 : List sx_I := [(1, .iconst 0, []), (0, .nop, [147])]
def kX12_signs_147 : List sx_I := [(1, .istore_n 1, []), (1, .iload_n 1, []), (3, .ifCond .ne 9, [158]), (1, .aload_n 0, []), (1, .iconst 1, []), (3, .invokevirtual 205, [0, 179, 2, 12]), (1, .ireturn, [1])]
def kX12_signs_158 : List sx_I := [(1, .aload_n 0, []), (1, .iload_n 1, []), (3, .invokestatic 333, [4, 204, 1]), (1, .iconst 4, []), (3, .if_icmp .ne 7, [171]), (1, .iconst 5, []), (3, .goto 7, [175])]
def kX12_signs_171 : List sx_I := [(1, .iload_n 1, []), (3, .invokestatic 333, [4, 204, 1]), (0, .nop, [175])]
def kX12_signs_175 : List sx_I := [(3, .invokevirtual 367, [0, 207, 2, 12]), (1, .iload_n 1, []), (3, .invokestatic 333, [4, 204, 1]), (1, .iconst 4, []), (3, .if_icmp .ne 34, [217]), (1, .aload_n 0, []), (3, .getfield 330, [12, 48, 0]), (3, .ifCond .le 27, [217]), (1, .aload_n 0, []), (3, .getfield 66, [12, 46, 2]), (1, .aload_n 0, []), (3, .getfield 330, [12, 48, 0]), (1, .iconst 1, []), (1, .isub, []), (1, .iaload, []), (3, .invokestatic 333, [4, 204, 1]), (1, .iconst 4, []), (3, .if_icmp .ne 9, [217]), (1, .aload_n 0, []), (1, .iconst 1, []), (3, .invokevirtual 205, [0, 179, 2, 12]), (1, .ireturn, [1])]
def kX12_signs_217 : List sx_I := [(1, .aload_n 0, []), (3, .invokevirtual 358, [0, 208, 1, 12]), (3, .ifCond .ne 5, [226]), (1, .iconst 0, []), (1, .ireturn, [1])]
def kX12_signs_226 : List sx_I := [(1, .aload_n 0, []), (1, .iload_n 1, []), (3, .invokevirtual 348, [0, 209, 2, 12]), (1, .aload_n 0, []), (1, .iconst 1, []), (3, .putfield 364, [12, 52, 3]), (1, .aload_n 0, []), (1, .iload_n 1, []), (3, .invokestatic 333, [4, 204, 1]), (1, .iconst 3, []), (3, .if_icmp .ge 7, [249]), (1, .iconst 1, []), (3, .goto 4, [250])]
def kX12_signs_249 : List sx_I := [(1, .iconst 0, []), (0, .nop, [250])]
def kX12_signs_250 : List sx_I := [(3, .putfield 352, [12, 53, 3]), (1, .aload_n 0, []), (3, .invokevirtual 215, [0, 183, 1, 12]), (1, .iconst 1, []), (1, .ireturn, [1])]
def kX12_signs : List (Nat × List sx_I) := [(0, kX12_signs_0), (47, kX12_signs_47), (60, kX12_signs_60), (73, kX12_signs_73), (90, kX12_signs_90), (104, kX12_signs_104), (118, kX12_signs_118), (132, kX12_signs_132), (146, kX12_signs_146), (147, kX12_signs_147), (158, kX12_signs_158), (171, kX12_signs_171), (175, kX12_signs_175), (217, kX12_signs_217), (226, kX12_signs_226), (249, kX12_signs_249), (250, kX12_signs_250)]
theorem kX12_signs_c0 : sx_cd kX12_signs 0 = kX12_signs_0 := rfl
theorem kX12_signs_c47 : sx_cd kX12_signs 47 = kX12_signs_47 := rfl
theorem kX12_signs_c60 : sx_cd kX12_signs 60 = kX12_signs_60 := rfl
theorem kX12_signs_c73 : sx_cd kX12_signs 73 = kX12_signs_73 := rfl
theorem kX12_signs_c90 : sx_cd kX12_signs 90 = kX12_signs_90 := rfl
theorem kX12_signs_c104 : sx_cd kX12_signs 104 = kX12_signs_104 := rfl
theorem kX12_signs_c118 : sx_cd kX12_signs 118 = kX12_signs_118 := rfl
theorem kX12_signs_c132 : sx_cd kX12_signs 132 = kX12_signs_132 := rfl
theorem kX12_signs_c146 : sx_cd kX12_signs 146 = kX12_signs_146 := rfl
theorem kX12_signs_c147 : sx_cd kX12_signs 147 = kX12_signs_147 := rfl
theorem kX12_signs_c158 : sx_cd kX12_signs 158 = kX12_signs_158 := rfl
theorem kX12_signs_c171 : sx_cd kX12_signs 171 = kX12_signs_171 := rfl
theorem kX12_signs_c175 : sx_cd kX12_signs 175 = kX12_signs_175 := rfl
theorem kX12_signs_c217 : sx_cd kX12_signs 217 = kX12_signs_217 := rfl
theorem kX12_signs_c226 : sx_cd kX12_signs 226 = kX12_signs_226 := rfl
theorem kX12_signs_c249 : sx_cd kX12_signs 249 = kX12_signs_249 := rfl
theorem kX12_signs_c250 : sx_cd kX12_signs 250 = kX12_signs_250 := rfl
theorem kX12_signs_ok : sx_okM 12 (sx_M 212) kX12_signs = true := by decide +kernel
def kX12_sumRead_0 : List sx_I := [(1, .aload_n 0, []), (1, .iconst 0, []), (3, .putfield 330, [12, 48, 0]), (1, .aload_n 0, []), (1, .iconst 0, []), (3, .putfield 327, [12, 49, 0]), (1, .aload_n 0, []), (1, .iconst 0, []), (3, .putfield 345, [12, 50, 0]), (1, .aload_n 0, []), (1, .iconst 1, []), (3, .putfield 364, [12, 52, 3]), (1, .aload_n 0, []), (1, .iconst 1, []), (3, .putfield 352, [12, 53, 3]), (0, .nop, [25])]
def kX12_sumRead_25 : List sx_I := [(1, .aload_n 0, []), (2, .bipush 59, []), (3, .invokevirtual 218, [0, 187, 2, 12]), (3, .ifCond .eq 17, [48]), (1, .aload_n 0, []), (3, .getfield 364, [12, 52, 3]), (3, .ifCond .ne 10, [48]), (1, .aload_n 0, []), (3, .getfield 345, [12, 50, 0]), (3, .ifCond .le 29, [74]), (0, .nop, [48])]
def kX12_sumRead_48 : List sx_I := [(1, .aload_n 0, []), (3, .getfield 364, [12, 52, 3]), (3, .ifCond .eq 13, [65]), (1, .aload_n 0, []), (3, .invokevirtual 370, [0, 211, 1, 12]), (3, .ifCond .eq 13, [72]), (3, .goto (-37), [25])]
def kX12_sumRead_65 : List sx_I := [(1, .aload_n 0, []), (3, .invokevirtual 373, [0, 212, 1, 12]), (3, .ifCond .ne (-44), [25]), (0, .nop, [72])]
def kX12_sumRead_72 : List sx_I := [(1, .iconst 0, []), (1, .ireturn, [1])]
def kX12_sumRead_74 : List sx_I := [(1, .aload_n 0, []), (1, .iconst 1, []), (3, .invokevirtual 367, [0, 207, 2, 12]), (1, .iconst 1, []), (1, .ireturn, [1])]
def kX12_sumRead : List (Nat × List sx_I) := [(0, kX12_sumRead_0), (25, kX12_sumRead_25), (48, kX12_sumRead_48), (65, kX12_sumRead_65), (72, kX12_sumRead_72), (74, kX12_sumRead_74)]
theorem kX12_sumRead_c0 : sx_cd kX12_sumRead 0 = kX12_sumRead_0 := rfl
theorem kX12_sumRead_c25 : sx_cd kX12_sumRead 25 = kX12_sumRead_25 := rfl
theorem kX12_sumRead_c48 : sx_cd kX12_sumRead 48 = kX12_sumRead_48 := rfl
theorem kX12_sumRead_c65 : sx_cd kX12_sumRead 65 = kX12_sumRead_65 := rfl
theorem kX12_sumRead_c72 : sx_cd kX12_sumRead 72 = kX12_sumRead_72 := rfl
theorem kX12_sumRead_c74 : sx_cd kX12_sumRead 74 = kX12_sumRead_74 := rfl
theorem kX12_sumRead_ok : sx_okM 12 (sx_M 213) kX12_sumRead = true := by decide +kernel
def kX12_bounded_0 : List sx_I := [(1, .aload_n 0, []), (1, .aload_n 0, []), (3, .getfield 376, [12, 56, 3]), (3, .ifCond .ne 19, [24]), (1, .lload_n 1, []), (3, .ldc2_w 379, [1000000000000, 0]), (1, .lcmp, []), (3, .ifCond .gt 11, [24]), (1, .lload_n 1, []), (3, .ldc2_w 381, [1000000000000, 1]), (1, .lcmp, []), (3, .ifCond .ge 7, [28]), (0, .nop, [24])]
def kX12_bounded_24 : List sx_I := [(1, .iconst 1, []), (3, .goto 4, [29])]
def kX12_bounded_28 : List sx_I := [(1, .iconst 0, []), (0, .nop, [29])]
def kX12_bounded_29 : List sx_I := [(3, .putfield 376, [12, 56, 3]), (1, .aload_n 0, []), (3, .getfield 376, [12, 56, 3]), (3, .ifCond .eq 7, [43]), (1, .lconst 0, []), (3, .goto 4, [44])]
def kX12_bounded_43 : List sx_I := [(1, .lload_n 1, []), (0, .nop, [44])]
def kX12_bounded_44 : List sx_I := [(1, .lreturn, [])]
def kX12_bounded : List (Nat × List sx_I) := [(0, kX12_bounded_0), (24, kX12_bounded_24), (28, kX12_bounded_28), (29, kX12_bounded_29), (43, kX12_bounded_43), (44, kX12_bounded_44)]
theorem kX12_bounded_c0 : sx_cd kX12_bounded 0 = kX12_bounded_0 := rfl
theorem kX12_bounded_c24 : sx_cd kX12_bounded 24 = kX12_bounded_24 := rfl
theorem kX12_bounded_c28 : sx_cd kX12_bounded 28 = kX12_bounded_28 := rfl
theorem kX12_bounded_c29 : sx_cd kX12_bounded 29 = kX12_bounded_29 := rfl
theorem kX12_bounded_c43 : sx_cd kX12_bounded 43 = kX12_bounded_43 := rfl
theorem kX12_bounded_c44 : sx_cd kX12_bounded 44 = kX12_bounded_44 := rfl
theorem kX12_bounded_ok : sx_okM 12 (sx_M 214) kX12_bounded = true := by decide +kernel
def kX12_compares_0 : List sx_I := [(1, .iload_n 0, []), (35, .tableswitch 95 5 9 #[35, 47, 59, 71, 83], [96, 36, 48, 60, 72, 84])]
def kX12_compares_36 : List sx_I := [(1, .lload_n 1, []), (1, .lload_n 3, []), (1, .lcmp, []), (3, .ifCond .ge 7, [46]), (1, .iconst 1, []), (3, .goto 4, [47])]
def kX12_compares_46 : List sx_I := [(1, .iconst 0, []), (0, .nop, [47])]
def kX12_compares_47 : List sx_I := [(1, .ireturn, [1])]
def kX12_compares_48 : List sx_I := [(1, .lload_n 1, []), (1, .lload_n 3, []), (1, .lcmp, []), (3, .ifCond .gt 7, [58]), (1, .iconst 1, []), (3, .goto 4, [59])]
def kX12_compares_58 : List sx_I := [(1, .iconst 0, []), (0, .nop, [59])]
def kX12_compares_59 : List sx_I := [(1, .ireturn, [1])]
def kX12_compares_60 : List sx_I := [(1, .lload_n 1, []), (1, .lload_n 3, []), (1, .lcmp, []), (3, .ifCond .ne 7, [70]), (1, .iconst 1, []), (3, .goto 4, [71])]
def kX12_compares_70 : List sx_I := [(1, .iconst 0, []), (0, .nop, [71])]
def kX12_compares_71 : List sx_I := [(1, .ireturn, [1])]
def kX12_compares_72 : List sx_I := [(1, .lload_n 1, []), (1, .lload_n 3, []), (1, .lcmp, []), (3, .ifCond .eq 7, [82]), (1, .iconst 1, []), (3, .goto 4, [83])]
def kX12_compares_82 : List sx_I := [(1, .iconst 0, []), (0, .nop, [83])]
def kX12_compares_83 : List sx_I := [(1, .ireturn, [1])]
def kX12_compares_84 : List sx_I := [(1, .lload_n 1, []), (1, .lload_n 3, []), (1, .lcmp, []), (3, .ifCond .lt 7, [94]), (1, .iconst 1, []), (3, .goto 4, [95])]
def kX12_compares_94 : List sx_I := [(1, .iconst 0, []), (0, .nop, [95])]
def kX12_compares_95 : List sx_I := [(1, .ireturn, [1])]
def kX12_compares_96 : List sx_I := [(1, .lload_n 1, []), (1, .lload_n 3, []), (1, .lcmp, []), (3, .ifCond .le 7, [106]), (1, .iconst 1, []), (3, .goto 4, [107])]
def kX12_compares_106 : List sx_I := [(1, .iconst 0, []), (0, .nop, [107])]
def kX12_compares_107 : List sx_I := [(1, .ireturn, [1])]
def kX12_compares : List (Nat × List sx_I) := [(0, kX12_compares_0), (36, kX12_compares_36), (46, kX12_compares_46), (47, kX12_compares_47), (48, kX12_compares_48), (58, kX12_compares_58), (59, kX12_compares_59), (60, kX12_compares_60), (70, kX12_compares_70), (71, kX12_compares_71), (72, kX12_compares_72), (82, kX12_compares_82), (83, kX12_compares_83), (84, kX12_compares_84), (94, kX12_compares_94), (95, kX12_compares_95), (96, kX12_compares_96), (106, kX12_compares_106), (107, kX12_compares_107)]
theorem kX12_compares_c0 : sx_cd kX12_compares 0 = kX12_compares_0 := rfl
theorem kX12_compares_c36 : sx_cd kX12_compares 36 = kX12_compares_36 := rfl
theorem kX12_compares_c46 : sx_cd kX12_compares 46 = kX12_compares_46 := rfl
theorem kX12_compares_c47 : sx_cd kX12_compares 47 = kX12_compares_47 := rfl
theorem kX12_compares_c48 : sx_cd kX12_compares 48 = kX12_compares_48 := rfl
theorem kX12_compares_c58 : sx_cd kX12_compares 58 = kX12_compares_58 := rfl
theorem kX12_compares_c59 : sx_cd kX12_compares 59 = kX12_compares_59 := rfl
theorem kX12_compares_c60 : sx_cd kX12_compares 60 = kX12_compares_60 := rfl
theorem kX12_compares_c70 : sx_cd kX12_compares 70 = kX12_compares_70 := rfl
theorem kX12_compares_c71 : sx_cd kX12_compares 71 = kX12_compares_71 := rfl
theorem kX12_compares_c72 : sx_cd kX12_compares 72 = kX12_compares_72 := rfl
theorem kX12_compares_c82 : sx_cd kX12_compares 82 = kX12_compares_82 := rfl
theorem kX12_compares_c83 : sx_cd kX12_compares 83 = kX12_compares_83 := rfl
theorem kX12_compares_c84 : sx_cd kX12_compares 84 = kX12_compares_84 := rfl
theorem kX12_compares_c94 : sx_cd kX12_compares 94 = kX12_compares_94 := rfl
theorem kX12_compares_c95 : sx_cd kX12_compares 95 = kX12_compares_95 := rfl
theorem kX12_compares_c96 : sx_cd kX12_compares 96 = kX12_compares_96 := rfl
theorem kX12_compares_c106 : sx_cd kX12_compares 106 = kX12_compares_106 := rfl
theorem kX12_compares_c107 : sx_cd kX12_compares 107 = kX12_compares_107 := rfl
theorem kX12_compares_ok : sx_okM 12 (sx_M 215) kX12_compares = true := by decide +kernel
def kX12_times_0 : List sx_I := [(1, .lload_n 1, []), (1, .lconst 0, []), (1, .lcmp, []), (3, .ifCond .eq 45, [48]), (1, .lload_n 3, []), (1, .lconst 0, []), (1, .lcmp, []), (3, .ifCond .eq 39, [48]), (1, .lload_n 3, []), (1, .lconst 0, []), (1, .lcmp, []), (3, .ifCond .ge 8, [23]), (1, .lload_n 3, []), (1, .lneg, []), (3, .goto 4, [24])]
def kX12_times_23 : List sx_I := [(1, .lload_n 3, []), (0, .nop, [24])]
def kX12_times_24 : List sx_I := [(3, .ldc2_w 379, [1000000000000, 0]), (1, .lload_n 1, []), (1, .lconst 0, []), (1, .lcmp, []), (3, .ifCond .ge 8, [38]), (1, .lload_n 1, []), (1, .lneg, []), (3, .goto 4, [39])]
def kX12_times_38 : List sx_I := [(1, .lload_n 1, []), (0, .nop, [39])]
def kX12_times_39 : List sx_I := [(1, .ldiv, []), (1, .lcmp, []), (3, .ifCond .le 7, [48]), (1, .iconst 1, []), (3, .goto 4, [49])]
def kX12_times_48 : List sx_I := [(1, .iconst 0, []), (0, .nop, [49])]
def kX12_times_49 : List sx_I := [(2, .istore 5, []), (1, .aload_n 0, []), (1, .aload_n 0, []), (3, .getfield 376, [12, 56, 3]), (3, .ifCond .ne 8, [64]), (2, .iload 5, []), (3, .ifCond .eq 7, [68]), (0, .nop, [64])]
def kX12_times_64 : List sx_I := [(1, .iconst 1, []), (3, .goto 4, [69])]
def kX12_times_68 : List sx_I := [(1, .iconst 0, []), (0, .nop, [69])]
def kX12_times_69 : List sx_I := [(3, .putfield 376, [12, 56, 3]), (1, .aload_n 0, []), (3, .getfield 376, [12, 56, 3]), (3, .ifCond .eq 7, [83]), (1, .lconst 0, []), (3, .goto 6, [86])]
def kX12_times_83 : List sx_I := [(1, .lload_n 1, []), (1, .lload_n 3, []), (1, .lmul, []), (0, .nop, [86])]
def kX12_times_86 : List sx_I := [(1, .lreturn, [])]
def kX12_times : List (Nat × List sx_I) := [(0, kX12_times_0), (23, kX12_times_23), (24, kX12_times_24), (38, kX12_times_38), (39, kX12_times_39), (48, kX12_times_48), (49, kX12_times_49), (64, kX12_times_64), (68, kX12_times_68), (69, kX12_times_69), (83, kX12_times_83), (86, kX12_times_86)]
theorem kX12_times_c0 : sx_cd kX12_times 0 = kX12_times_0 := rfl
theorem kX12_times_c23 : sx_cd kX12_times 23 = kX12_times_23 := rfl
theorem kX12_times_c24 : sx_cd kX12_times 24 = kX12_times_24 := rfl
theorem kX12_times_c38 : sx_cd kX12_times 38 = kX12_times_38 := rfl
theorem kX12_times_c39 : sx_cd kX12_times 39 = kX12_times_39 := rfl
theorem kX12_times_c48 : sx_cd kX12_times 48 = kX12_times_48 := rfl
theorem kX12_times_c49 : sx_cd kX12_times 49 = kX12_times_49 := rfl
theorem kX12_times_c64 : sx_cd kX12_times 64 = kX12_times_64 := rfl
theorem kX12_times_c68 : sx_cd kX12_times 68 = kX12_times_68 := rfl
theorem kX12_times_c69 : sx_cd kX12_times 69 = kX12_times_69 := rfl
theorem kX12_times_c83 : sx_cd kX12_times 83 = kX12_times_83 := rfl
theorem kX12_times_c86 : sx_cd kX12_times 86 = kX12_times_86 := rfl
theorem kX12_times_ok : sx_okM 12 (sx_M 216) kX12_times = true := by decide +kernel
def kX12_valueOf_0 : List sx_I := [(1, .aload_n 0, []), (3, .getfield 57, [12, 42, 2]), (1, .iload_n 1, []), (1, .iaload, []), (3, .ifCond .ne 11, [17]), (1, .aload_n 0, []), (3, .getfield 60, [12, 43, 2]), (1, .iload_n 1, []), (1, .iaload, []), (1, .i2l, []), (1, .lreturn, [])]
def kX12_valueOf_17 : List sx_I := [(1, .aload_n 0, []), (3, .getfield 57, [12, 42, 2]), (1, .iload_n 1, []), (1, .iaload, []), (1, .iconst 1, []), (3, .if_icmp .ne 15, [39]), (1, .aload_n 0, []), (3, .getfield 72, [12, 54, 2]), (1, .aload_n 0, []), (3, .getfield 60, [12, 43, 2]), (1, .iload_n 1, []), (1, .iaload, []), (1, .laload, []), (1, .lreturn, [])]
def kX12_valueOf_39 : List sx_I := [(1, .aload_n 0, []), (3, .getfield 76, [12, 55, 2]), (1, .aload_n 0, []), (3, .getfield 60, [12, 43, 2]), (1, .iload_n 1, []), (1, .iaload, []), (1, .laload, []), (1, .lstore_n 2, []), (1, .aload_n 0, []), (3, .getfield 57, [12, 42, 2]), (1, .iload_n 1, []), (1, .iaload, []), (1, .iconst 2, []), (3, .if_icmp .ne 15, [73]), (1, .lload_n 2, []), (1, .lconst 0, []), (1, .lcmp, []), (3, .ifCond .ne 7, [71]), (1, .lconst 1, []), (3, .goto 4, [72])]
def kX12_valueOf_71 : List sx_I := [(1, .lconst 0, []), (0, .nop, [72])]
def kX12_valueOf_72 : List sx_I := [(1, .lreturn, [])]
def kX12_valueOf_73 : List sx_I := [(1, .aload_n 0, []), (3, .getfield 76, [12, 55, 2]), (1, .aload_n 0, []), (3, .getfield 63, [12, 44, 2]), (1, .iload_n 1, []), (1, .iaload, []), (1, .laload, []), (2, .lstore 4, []), (1, .aload_n 0, []), (3, .getfield 57, [12, 42, 2]), (1, .iload_n 1, []), (1, .iaload, []), (64, .tableswitch 167 3 14 #[64, 83, 167, 167, 167, 167, 167, 167, 102, 111, 120, 128], [259, 156, 175, 259, 259, 259, 259, 259, 259, 194, 203, 212, 220])]
def kX12_valueOf_156 : List sx_I := [(1, .lload_n 2, []), (1, .lconst 0, []), (1, .lcmp, []), (3, .ifCond .eq 14, [173]), (2, .lload 4, []), (1, .lconst 0, []), (1, .lcmp, []), (3, .ifCond .eq 7, [173]), (1, .lconst 1, []), (3, .goto 4, [174])]
def kX12_valueOf_173 : List sx_I := [(1, .lconst 0, []), (0, .nop, [174])]
def kX12_valueOf_174 : List sx_I := [(1, .lreturn, [])]
def kX12_valueOf_175 : List sx_I := [(1, .lload_n 2, []), (1, .lconst 0, []), (1, .lcmp, []), (3, .ifCond .ne 10, [188]), (2, .lload 4, []), (1, .lconst 0, []), (1, .lcmp, []), (3, .ifCond .eq 7, [192]), (0, .nop, [188])]
def kX12_valueOf_188 : List sx_I := [(1, .lconst 1, []), (3, .goto 4, [193])]
def kX12_valueOf_192 : List sx_I := [(1, .lconst 0, []), (0, .nop, [193])]
def kX12_valueOf_193 : List sx_I := [(1, .lreturn, [])]
def kX12_valueOf_194 : List sx_I := [(1, .aload_n 0, []), (1, .lload_n 2, []), (2, .lload 4, []), (1, .ladd, []), (3, .invokevirtual 383, [0, 214, 2, 12]), (1, .lreturn, [])]
def kX12_valueOf_203 : List sx_I := [(1, .aload_n 0, []), (1, .lload_n 2, []), (2, .lload 4, []), (1, .lsub, []), (3, .invokevirtual 383, [0, 214, 2, 12]), (1, .lreturn, [])]
def kX12_valueOf_212 : List sx_I := [(1, .aload_n 0, []), (1, .lload_n 2, []), (2, .lload 4, []), (3, .invokevirtual 387, [0, 216, 3, 12]), (1, .lreturn, [])]
def kX12_valueOf_220 : List sx_I := [(1, .aload_n 0, []), (1, .aload_n 0, []), (3, .getfield 376, [12, 56, 3]), (3, .ifCond .ne 10, [235]), (2, .lload 4, []), (1, .lconst 0, []), (1, .lcmp, []), (3, .ifCond .ne 7, [239]), (0, .nop, [235])]
def kX12_valueOf_235 : List sx_I := [(1, .iconst 1, []), (3, .goto 4, [240])]
def kX12_valueOf_239 : List sx_I := [(1, .iconst 0, []), (0, .nop, [240])]
def kX12_valueOf_240 : List sx_I := [(3, .putfield 376, [12, 56, 3]), (1, .aload_n 0, []), (3, .getfield 376, [12, 56, 3]), (3, .ifCond .eq 7, [254]), (1, .lconst 0, []), (3, .goto 7, [258])]
def kX12_valueOf_254 : List sx_I := [(1, .lload_n 2, []), (2, .lload 4, []), (1, .ldiv, []), (0, .nop, [258])]
def kX12_valueOf_258 : List sx_I := [(1, .lreturn, [])]
def kX12_valueOf_259 : List sx_I := [(1, .aload_n 0, []), (3, .getfield 57, [12, 42, 2]), (1, .iload_n 1, []), (1, .iaload, []), (1, .lload_n 2, []), (2, .lload 4, []), (3, .invokestatic 391, [4, 215, 3]), (3, .ifCond .eq 7, [278]), (1, .lconst 1, []), (3, .goto 4, [279])]
def kX12_valueOf_278 : List sx_I := [(1, .lconst 0, []), (0, .nop, [279])]
def kX12_valueOf_279 : List sx_I := [(1, .lreturn, [])]
def kX12_valueOf : List (Nat × List sx_I) := [(0, kX12_valueOf_0), (17, kX12_valueOf_17), (39, kX12_valueOf_39), (71, kX12_valueOf_71), (72, kX12_valueOf_72), (73, kX12_valueOf_73), (156, kX12_valueOf_156), (173, kX12_valueOf_173), (174, kX12_valueOf_174), (175, kX12_valueOf_175), (188, kX12_valueOf_188), (192, kX12_valueOf_192), (193, kX12_valueOf_193), (194, kX12_valueOf_194), (203, kX12_valueOf_203), (212, kX12_valueOf_212), (220, kX12_valueOf_220), (235, kX12_valueOf_235), (239, kX12_valueOf_239), (240, kX12_valueOf_240), (254, kX12_valueOf_254), (258, kX12_valueOf_258), (259, kX12_valueOf_259), (278, kX12_valueOf_278), (279, kX12_valueOf_279)]
theorem kX12_valueOf_c0 : sx_cd kX12_valueOf 0 = kX12_valueOf_0 := rfl
theorem kX12_valueOf_c17 : sx_cd kX12_valueOf 17 = kX12_valueOf_17 := rfl
theorem kX12_valueOf_c39 : sx_cd kX12_valueOf 39 = kX12_valueOf_39 := rfl
theorem kX12_valueOf_c71 : sx_cd kX12_valueOf 71 = kX12_valueOf_71 := rfl
theorem kX12_valueOf_c72 : sx_cd kX12_valueOf 72 = kX12_valueOf_72 := rfl
theorem kX12_valueOf_c73 : sx_cd kX12_valueOf 73 = kX12_valueOf_73 := rfl
theorem kX12_valueOf_c156 : sx_cd kX12_valueOf 156 = kX12_valueOf_156 := rfl
theorem kX12_valueOf_c173 : sx_cd kX12_valueOf 173 = kX12_valueOf_173 := rfl
theorem kX12_valueOf_c174 : sx_cd kX12_valueOf 174 = kX12_valueOf_174 := rfl
theorem kX12_valueOf_c175 : sx_cd kX12_valueOf 175 = kX12_valueOf_175 := rfl
theorem kX12_valueOf_c188 : sx_cd kX12_valueOf 188 = kX12_valueOf_188 := rfl
theorem kX12_valueOf_c192 : sx_cd kX12_valueOf 192 = kX12_valueOf_192 := rfl
theorem kX12_valueOf_c193 : sx_cd kX12_valueOf 193 = kX12_valueOf_193 := rfl
theorem kX12_valueOf_c194 : sx_cd kX12_valueOf 194 = kX12_valueOf_194 := rfl
theorem kX12_valueOf_c203 : sx_cd kX12_valueOf 203 = kX12_valueOf_203 := rfl
theorem kX12_valueOf_c212 : sx_cd kX12_valueOf 212 = kX12_valueOf_212 := rfl
theorem kX12_valueOf_c220 : sx_cd kX12_valueOf 220 = kX12_valueOf_220 := rfl
theorem kX12_valueOf_c235 : sx_cd kX12_valueOf 235 = kX12_valueOf_235 := rfl
theorem kX12_valueOf_c239 : sx_cd kX12_valueOf 239 = kX12_valueOf_239 := rfl
theorem kX12_valueOf_c240 : sx_cd kX12_valueOf 240 = kX12_valueOf_240 := rfl
theorem kX12_valueOf_c254 : sx_cd kX12_valueOf 254 = kX12_valueOf_254 := rfl
theorem kX12_valueOf_c258 : sx_cd kX12_valueOf 258 = kX12_valueOf_258 := rfl
theorem kX12_valueOf_c259 : sx_cd kX12_valueOf 259 = kX12_valueOf_259 := rfl
theorem kX12_valueOf_c278 : sx_cd kX12_valueOf 278 = kX12_valueOf_278 := rfl
theorem kX12_valueOf_c279 : sx_cd kX12_valueOf 279 = kX12_valueOf_279 := rfl
theorem kX12_valueOf_ok : sx_okM 12 (sx_M 217) kX12_valueOf = true := by decide +kernel
def kX12_cells_0 : List sx_I := [(1, .aload_n 0, []), (3, .getfield 265, [12, 12, 0]), (1, .aload_n 0, []), (3, .getfield 268, [12, 13, 0]), (1, .imul, []), (1, .ireturn, [0])]
def kX12_cells : List (Nat × List sx_I) := [(0, kX12_cells_0)]
theorem kX12_cells_c0 : sx_cd kX12_cells 0 = kX12_cells_0 := rfl
theorem kX12_cells_ok : sx_okM 12 (sx_M 218) kX12_cells = true := by decide +kernel
def kX12_isCell_0 : List sx_I := [(1, .iload_n 1, []), (3, .ifCond .lt 15, [16]), (1, .iload_n 1, []), (1, .aload_n 0, []), (3, .invokevirtual 395, [0, 218, 1, 12]), (3, .if_icmp .ge 7, [16]), (1, .iconst 1, []), (3, .goto 4, [17])]
def kX12_isCell_16 : List sx_I := [(1, .iconst 0, []), (0, .nop, [17])]
def kX12_isCell_17 : List sx_I := [(1, .ireturn, [1])]
def kX12_isCell : List (Nat × List sx_I) := [(0, kX12_isCell_0), (16, kX12_isCell_16), (17, kX12_isCell_17)]
theorem kX12_isCell_c0 : sx_cd kX12_isCell 0 = kX12_isCell_0 := rfl
theorem kX12_isCell_c16 : sx_cd kX12_isCell 16 = kX12_isCell_16 := rfl
theorem kX12_isCell_c17 : sx_cd kX12_isCell 17 = kX12_isCell_17 := rfl
theorem kX12_isCell_ok : sx_okM 12 (sx_M 219) kX12_isCell = true := by decide +kernel
def kX12_isWalker_0 : List sx_I := [(1, .iload_n 1, []), (3, .ifCond .lt 15, [16]), (1, .iload_n 1, []), (1, .aload_n 0, []), (3, .getfield 274, [12, 15, 0]), (3, .if_icmp .ge 7, [16]), (1, .iconst 1, []), (3, .goto 4, [17])]
def kX12_isWalker_16 : List sx_I := [(1, .iconst 0, []), (0, .nop, [17])]
def kX12_isWalker_17 : List sx_I := [(1, .ireturn, [1])]
def kX12_isWalker : List (Nat × List sx_I) := [(0, kX12_isWalker_0), (16, kX12_isWalker_16), (17, kX12_isWalker_17)]
theorem kX12_isWalker_c0 : sx_cd kX12_isWalker 0 = kX12_isWalker_0 := rfl
theorem kX12_isWalker_c16 : sx_cd kX12_isWalker 16 = kX12_isWalker_16 := rfl
theorem kX12_isWalker_c17 : sx_cd kX12_isWalker 17 = kX12_isWalker_17 := rfl
theorem kX12_isWalker_ok : sx_okM 12 (sx_M 220) kX12_isWalker = true := by decide +kernel
def kX12_isFarm_0 : List sx_I := [(1, .iload_n 1, []), (3, .ifCond .lt 15, [16]), (1, .iload_n 1, []), (1, .aload_n 0, []), (3, .getfield 271, [12, 14, 0]), (3, .if_icmp .ge 7, [16]), (1, .iconst 1, []), (3, .goto 4, [17])]
def kX12_isFarm_16 : List sx_I := [(1, .iconst 0, []), (0, .nop, [17])]
def kX12_isFarm_17 : List sx_I := [(1, .ireturn, [1])]
def kX12_isFarm : List (Nat × List sx_I) := [(0, kX12_isFarm_0), (16, kX12_isFarm_16), (17, kX12_isFarm_17)]
theorem kX12_isFarm_c0 : sx_cd kX12_isFarm 0 = kX12_isFarm_0 := rfl
theorem kX12_isFarm_c16 : sx_cd kX12_isFarm 16 = kX12_isFarm_16 := rfl
theorem kX12_isFarm_c17 : sx_cd kX12_isFarm 17 = kX12_isFarm_17 := rfl
theorem kX12_isFarm_ok : sx_okM 12 (sx_M 221) kX12_isFarm = true := by decide +kernel
def kX12_isMark_0 : List sx_I := [(1, .iload_n 1, []), (3, .ifCond .lt 17, [18]), (1, .iload_n 1, []), (1, .aload_n 0, []), (3, .getfield 103, [12, 65, 2]), (1, .iconst 0, []), (1, .iaload, []), (3, .if_icmp .ge 7, [18]), (1, .iconst 1, []), (3, .goto 4, [19])]
def kX12_isMark_18 : List sx_I := [(1, .iconst 0, []), (0, .nop, [19])]
def kX12_isMark_19 : List sx_I := [(1, .ireturn, [1])]
def kX12_isMark : List (Nat × List sx_I) := [(0, kX12_isMark_0), (18, kX12_isMark_18), (19, kX12_isMark_19)]
theorem kX12_isMark_c0 : sx_cd kX12_isMark 0 = kX12_isMark_0 := rfl
theorem kX12_isMark_c18 : sx_cd kX12_isMark 18 = kX12_isMark_18 := rfl
theorem kX12_isMark_c19 : sx_cd kX12_isMark 19 = kX12_isMark_19 := rfl
theorem kX12_isMark_ok : sx_okM 12 (sx_M 222) kX12_isMark = true := by decide +kernel
def kX12_goHome_0 : List sx_I := [(1, .aload_n 0, []), (3, .getfield 103, [12, 65, 2]), (1, .iconst 0, []), (1, .iconst 0, []), (1, .iastore, []), (1, .aload_n 0, []), (3, .getfield 106, [12, 66, 2]), (1, .iconst 0, []), (1, .iconst 0, []), (1, .iastore, []), (1, .iconst 0, []), (1, .istore_n 1, []), (0, .nop, [16])]
def kX12_goHome_16 : List sx_I := [(1, .iload_n 1, []), (1, .iconst 5, []), (3, .if_icmp .ge 35, [53]), (1, .aload_n 0, []), (3, .getfield 112, [12, 68, 2]), (1, .iload_n 1, []), (1, .aload_n 0, []), (3, .getfield 41, [12, 37, 2]), (1, .iload_n 1, []), (1, .iaload, []), (1, .iastore, []), (1, .aload_n 0, []), (3, .getfield 115, [12, 69, 2]), (1, .iload_n 1, []), (1, .iconst 0, []), (1, .iastore, []), (1, .aload_n 0, []), (3, .getfield 118, [12, 70, 2]), (1, .iload_n 1, []), (1, .iload_n 1, []), (1, .iastore, []), (3, .iinc 1 1, []), (3, .goto (-34), [16])]
def kX12_goHome_53 : List sx_I := [(1, .return_, [])]
def kX12_goHome : List (Nat × List sx_I) := [(0, kX12_goHome_0), (16, kX12_goHome_16), (53, kX12_goHome_53)]
theorem kX12_goHome_c0 : sx_cd kX12_goHome 0 = kX12_goHome_0 := rfl
theorem kX12_goHome_c16 : sx_cd kX12_goHome 16 = kX12_goHome_16 := rfl
theorem kX12_goHome_c53 : sx_cd kX12_goHome 53 = kX12_goHome_53 := rfl
theorem kX12_goHome_ok : sx_okM 12 (sx_M 223) kX12_goHome = true := by decide +kernel
def kX12_begin_0 : List sx_I := [(1, .aload_n 0, []), (3, .invokevirtual 398, [0, 223, 1, 12]), (1, .aload_n 0, []), (3, .getfield 109, [12, 67, 2]), (1, .iconst 0, []), (1, .iconst 0, []), (1, .iastore, []), (1, .iconst 0, []), (1, .istore_n 1, []), (0, .nop, [13])]
def kX12_begin_13 : List sx_I := [(1, .iload_n 1, []), (1, .iconst 3, []), (3, .if_icmp .ge 16, [31]), (1, .aload_n 0, []), (3, .getfield 121, [12, 71, 2]), (1, .iload_n 1, []), (1, .iconst 0, []), (1, .iastore, []), (3, .iinc 1 1, []), (3, .goto (-15), [13])]
def kX12_begin_31 : List sx_I := [(1, .aload_n 0, []), (1, .iconst 0, []), (3, .putfield 401, [12, 72, 0]), (1, .aload_n 0, []), (1, .aload_n 0, []), (3, .getfield 280, [12, 17, 0]), (1, .i2l, []), (3, .putfield 404, [12, 73, 1]), (1, .aload_n 0, []), (1, .iconst 0, []), (3, .putfield 408, [12, 74, 0]), (1, .aload_n 0, []), (1, .iconst (-1), []), (3, .putfield 124, [12, 75, 0]), (1, .aload_n 0, []), (1, .iconst 0, []), (3, .putfield 411, [12, 83, 0]), (1, .aload_n 0, []), (1, .iconst 0, []), (3, .putfield 414, [12, 85, 3]), (1, .return_, [])]
def kX12_begin : List (Nat × List sx_I) := [(0, kX12_begin_0), (13, kX12_begin_13), (31, kX12_begin_31)]
theorem kX12_begin_c0 : sx_cd kX12_begin 0 = kX12_begin_0 := rfl
theorem kX12_begin_c13 : sx_cd kX12_begin 13 = kX12_begin_13 := rfl
theorem kX12_begin_c31 : sx_cd kX12_begin 31 = kX12_begin_31 := rfl
theorem kX12_begin_ok : sx_okM 12 (sx_M 224) kX12_begin = true := by decide +kernel
def kX12_copyMark_0 : List sx_I := [(1, .aload_n 0, []), (3, .getfield 79, [12, 57, 2]), (1, .iload_n 1, []), (1, .aload_n 0, []), (3, .getfield 79, [12, 57, 2]), (1, .iload_n 2, []), (1, .iaload, []), (1, .iastore, []), (1, .aload_n 0, []), (3, .getfield 82, [12, 58, 2]), (1, .iload_n 1, []), (1, .aload_n 0, []), (3, .getfield 82, [12, 58, 2]), (1, .iload_n 2, []), (1, .iaload, []), (1, .iastore, []), (1, .aload_n 0, []), (3, .getfield 85, [12, 59, 2]), (1, .iload_n 1, []), (1, .aload_n 0, []), (3, .getfield 85, [12, 59, 2]), (1, .iload_n 2, []), (1, .iaload, []), (1, .iastore, []), (1, .aload_n 0, []), (3, .getfield 88, [12, 60, 2]), (1, .iload_n 1, []), (1, .aload_n 0, []), (3, .getfield 88, [12, 60, 2]), (1, .iload_n 2, []), (1, .iaload, []), (1, .iastore, []), (1, .aload_n 0, []), (3, .getfield 91, [12, 61, 2]), (1, .iload_n 1, []), (1, .aload_n 0, []), (3, .getfield 91, [12, 61, 2]), (1, .iload_n 2, []), (1, .iaload, []), (1, .iastore, []), (1, .aload_n 0, []), (3, .getfield 94, [12, 62, 2]), (1, .iload_n 1, []), (1, .aload_n 0, []), (3, .getfield 94, [12, 62, 2]), (1, .iload_n 2, []), (1, .iaload, []), (1, .iastore, []), (1, .aload_n 0, []), (3, .getfield 97, [12, 63, 2]), (1, .iload_n 1, []), (1, .aload_n 0, []), (3, .getfield 97, [12, 63, 2]), (1, .iload_n 2, []), (1, .iaload, []), (1, .iastore, []), (1, .aload_n 0, []), (3, .getfield 100, [12, 64, 2]), (1, .iload_n 1, []), (1, .aload_n 0, []), (3, .getfield 100, [12, 64, 2]), (1, .iload_n 2, []), (1, .baload, [4]), (1, .bastore, [4]), (1, .return_, [])]
def kX12_copyMark : List (Nat × List sx_I) := [(0, kX12_copyMark_0)]
theorem kX12_copyMark_c0 : sx_cd kX12_copyMark 0 = kX12_copyMark_0 := rfl
theorem kX12_copyMark_ok : sx_okM 12 (sx_M 225) kX12_copyMark = true := by decide +kernel
def kX12_layTried_0 : List sx_I := [(1, .iconst 0, []), (1, .istore_n 1, []), (0, .nop, [2])]
def kX12_layTried_2 : List sx_I := [(1, .iload_n 1, []), (1, .aload_n 0, []), (3, .getfield 103, [12, 65, 2]), (1, .iconst 0, []), (1, .iaload, []), (3, .if_icmp .ge 18, [27]), (1, .aload_n 0, []), (2, .bipush 90, []), (1, .iload_n 1, []), (1, .iadd, []), (1, .iload_n 1, []), (3, .invokevirtual 417, [0, 225, 3, 12]), (3, .iinc 1 1, []), (3, .goto (-22), [2])]
def kX12_layTried_27 : List sx_I := [(1, .aload_n 0, []), (3, .getfield 103, [12, 65, 2]), (1, .iconst 1, []), (1, .aload_n 0, []), (3, .getfield 103, [12, 65, 2]), (1, .iconst 0, []), (1, .iaload, []), (1, .iastore, []), (1, .aload_n 0, []), (3, .getfield 106, [12, 66, 2]), (1, .iconst 1, []), (1, .aload_n 0, []), (3, .getfield 106, [12, 66, 2]), (1, .iconst 0, []), (1, .iaload, []), (1, .iastore, []), (1, .aload_n 0, []), (3, .getfield 109, [12, 67, 2]), (1, .iconst 1, []), (1, .aload_n 0, []), (3, .getfield 109, [12, 67, 2]), (1, .iconst 0, []), (1, .iaload, []), (1, .iastore, []), (1, .return_, [])]
def kX12_layTried : List (Nat × List sx_I) := [(0, kX12_layTried_0), (2, kX12_layTried_2), (27, kX12_layTried_27)]
theorem kX12_layTried_c0 : sx_cd kX12_layTried 0 = kX12_layTried_0 := rfl
theorem kX12_layTried_c2 : sx_cd kX12_layTried 2 = kX12_layTried_2 := rfl
theorem kX12_layTried_c27 : sx_cd kX12_layTried 27 = kX12_layTried_27 := rfl
theorem kX12_layTried_ok : sx_okM 12 (sx_M 226) kX12_layTried = true := by decide +kernel
def kX12_far_0 : List sx_I := [(1, .iload_n 1, []), (1, .aload_n 0, []), (3, .getfield 265, [12, 12, 0]), (1, .irem, []), (1, .iload_n 2, []), (1, .aload_n 0, []), (3, .getfield 265, [12, 12, 0]), (1, .irem, []), (1, .isub, []), (1, .istore_n 3, []), (1, .iload_n 1, []), (1, .aload_n 0, []), (3, .getfield 265, [12, 12, 0]), (1, .idiv, []), (1, .iload_n 2, []), (1, .aload_n 0, []), (3, .getfield 265, [12, 12, 0]), (1, .idiv, []), (1, .isub, []), (2, .istore 4, []), (1, .iload_n 3, []), (3, .ifCond .ge 8, [38]), (1, .iload_n 3, []), (1, .ineg, []), (3, .goto 4, [39])]
def kX12_far_38 : List sx_I := [(1, .iload_n 3, []), (0, .nop, [39])]
def kX12_far_39 : List sx_I := [(2, .iload 4, []), (3, .ifCond .ge 9, [50]), (2, .iload 4, []), (1, .ineg, []), (3, .goto 5, [52])]
def kX12_far_50 : List sx_I := [(2, .iload 4, []), (0, .nop, [52])]
def kX12_far_52 : List sx_I := [(1, .iadd, []), (1, .ireturn, [0])]
def kX12_far : List (Nat × List sx_I) := [(0, kX12_far_0), (38, kX12_far_38), (39, kX12_far_39), (50, kX12_far_50), (52, kX12_far_52)]
theorem kX12_far_c0 : sx_cd kX12_far 0 = kX12_far_0 := rfl
theorem kX12_far_c38 : sx_cd kX12_far 38 = kX12_far_38 := rfl
theorem kX12_far_c39 : sx_cd kX12_far 39 = kX12_far_39 := rfl
theorem kX12_far_c50 : sx_cd kX12_far 50 = kX12_far_50 := rfl
theorem kX12_far_c52 : sx_cd kX12_far 52 = kX12_far_52 := rfl
theorem kX12_far_ok : sx_okM 12 (sx_M 227) kX12_far = true := by decide +kernel
def kX12_beside_0 : List sx_I := [(1, .iload_n 1, []), (1, .aload_n 0, []), (3, .getfield 265, [12, 12, 0]), (1, .irem, []), (1, .iload_n 2, []), (1, .iconst 1, []), (3, .if_icmp .ne 7, [15]), (1, .iconst 1, []), (3, .goto 13, [25])]
def kX12_beside_15 : List sx_I := [(1, .iload_n 2, []), (1, .iconst 3, []), (3, .if_icmp .ne 7, [24]), (1, .iconst (-1), []), (3, .goto 4, [25])]
def kX12_beside_24 : List sx_I := [(1, .iconst 0, []), (0, .nop, [25])]
def kX12_beside_25 : List sx_I := [(1, .iadd, []), (1, .istore_n 3, []), (1, .iload_n 1, []), (1, .aload_n 0, []), (3, .getfield 265, [12, 12, 0]), (1, .idiv, []), (1, .iload_n 2, []), (1, .iconst 2, []), (3, .if_icmp .ne 7, [42]), (1, .iconst 1, []), (3, .goto 12, [51])]
def kX12_beside_42 : List sx_I := [(1, .iload_n 2, []), (3, .ifCond .ne 7, [50]), (1, .iconst (-1), []), (3, .goto 4, [51])]
def kX12_beside_50 : List sx_I := [(1, .iconst 0, []), (0, .nop, [51])]
def kX12_beside_51 : List sx_I := [(1, .iadd, []), (2, .istore 4, []), (1, .iload_n 3, []), (1, .iconst 0, []), (1, .aload_n 0, []), (3, .getfield 265, [12, 12, 0]), (1, .iconst 1, []), (1, .isub, []), (3, .invokestatic 208, [4, 178, 3]), (3, .ifCond .eq 30, [95]), (2, .iload 4, []), (1, .iconst 0, []), (1, .aload_n 0, []), (3, .getfield 268, [12, 13, 0]), (1, .iconst 1, []), (1, .isub, []), (3, .invokestatic 208, [4, 178, 3]), (3, .ifCond .eq 15, [95]), (1, .aload_n 0, []), (3, .getfield 265, [12, 12, 0]), (2, .iload 4, []), (1, .imul, []), (1, .iload_n 3, []), (1, .iadd, []), (3, .goto 4, [96])]
def kX12_beside_95 : List sx_I := [(1, .iconst (-1), []), (0, .nop, [96])]
def kX12_beside_96 : List sx_I := [(1, .ireturn, [0])]
def kX12_beside : List (Nat × List sx_I) := [(0, kX12_beside_0), (15, kX12_beside_15), (24, kX12_beside_24), (25, kX12_beside_25), (42, kX12_beside_42), (50, kX12_beside_50), (51, kX12_beside_51), (95, kX12_beside_95), (96, kX12_beside_96)]
theorem kX12_beside_c0 : sx_cd kX12_beside 0 = kX12_beside_0 := rfl
theorem kX12_beside_c15 : sx_cd kX12_beside 15 = kX12_beside_15 := rfl
theorem kX12_beside_c24 : sx_cd kX12_beside 24 = kX12_beside_24 := rfl
theorem kX12_beside_c25 : sx_cd kX12_beside 25 = kX12_beside_25 := rfl
theorem kX12_beside_c42 : sx_cd kX12_beside 42 = kX12_beside_42 := rfl
theorem kX12_beside_c50 : sx_cd kX12_beside 50 = kX12_beside_50 := rfl
theorem kX12_beside_c51 : sx_cd kX12_beside 51 = kX12_beside_51 := rfl
theorem kX12_beside_c95 : sx_cd kX12_beside 95 = kX12_beside_95 := rfl
theorem kX12_beside_c96 : sx_cd kX12_beside 96 = kX12_beside_96 := rfl
theorem kX12_beside_ok : sx_okM 12 (sx_M 228) kX12_beside = true := by decide +kernel
def kX12_layNames_0 : List sx_I := [(1, .aload_n 0, []), (3, .getfield 72, [12, 54, 2]), (1, .iconst 0, []), (1, .aload_n 0, []), (3, .getfield 35, [12, 35, 2]), (1, .iload_n 2, []), (1, .iaload, []), (1, .i2l, []), (1, .lastore, []), (1, .aload_n 0, []), (3, .getfield 72, [12, 54, 2]), (1, .iconst 1, []), (1, .aload_n 0, []), (3, .getfield 38, [12, 36, 2]), (1, .iload_n 2, []), (1, .iaload, []), (1, .i2l, []), (1, .lastore, []), (1, .aload_n 0, []), (3, .getfield 72, [12, 54, 2]), (1, .iconst 2, []), (1, .aload_n 0, []), (1, .iload_n 3, []), (1, .aload_n 0, []), (3, .getfield 41, [12, 37, 2]), (1, .iload_n 2, []), (1, .iaload, []), (3, .invokevirtual 421, [0, 227, 3, 12]), (1, .i2l, []), (1, .lastore, []), (1, .aload_n 0, []), (3, .getfield 72, [12, 54, 2]), (1, .iconst 3, []), (2, .iload 4, []), (1, .i2l, []), (1, .lastore, []), (1, .aload_n 0, []), (3, .getfield 72, [12, 54, 2]), (1, .iconst 4, []), (2, .iload 5, []), (1, .i2l, []), (1, .lastore, []), (1, .aload_n 0, []), (3, .getfield 72, [12, 54, 2]), (1, .iconst 5, []), (1, .aload_n 0, []), (3, .getfield 106, [12, 66, 2]), (1, .iload_n 1, []), (1, .iaload, []), (1, .i2l, []), (1, .lastore, []), (1, .aload_n 0, []), (3, .getfield 72, [12, 54, 2]), (2, .bipush 6, []), (1, .aload_n 0, []), (3, .getfield 23, [12, 31, 2]), (1, .iload_n 3, []), (1, .iaload, []), (1, .aload_n 0, []), (3, .getfield 32, [12, 34, 2]), (1, .iload_n 2, []), (1, .iaload, []), (3, .if_icmp .ne 7, [100]), (1, .lconst 1, []), (3, .goto 4, [101])]
def kX12_layNames_100 : List sx_I := [(1, .lconst 0, []), (0, .nop, [101])]
def kX12_layNames_101 : List sx_I := [(1, .lastore, []), (1, .return_, [])]
def kX12_layNames : List (Nat × List sx_I) := [(0, kX12_layNames_0), (100, kX12_layNames_100), (101, kX12_layNames_101)]
theorem kX12_layNames_c0 : sx_cd kX12_layNames 0 = kX12_layNames_0 := rfl
theorem kX12_layNames_c100 : sx_cd kX12_layNames 100 = kX12_layNames_100 := rfl
theorem kX12_layNames_c101 : sx_cd kX12_layNames 101 = kX12_layNames_101 := rfl
theorem kX12_layNames_ok : sx_okM 12 (sx_M 229) kX12_layNames = true := by decide +kernel
def kX12_layMark_0 : List sx_I := [(2, .bipush 90, []), (1, .iload_n 1, []), (1, .imul, []), (1, .iload_n 2, []), (1, .iadd, []), (1, .istore_n 3, []), (1, .aload_n 0, []), (1, .iload_n 1, []), (1, .aload_n 0, []), (3, .getfield 79, [12, 57, 2]), (1, .iload_n 3, []), (1, .iaload, []), (1, .aload_n 0, []), (3, .getfield 82, [12, 58, 2]), (1, .iload_n 3, []), (1, .iaload, []), (1, .aload_n 0, []), (3, .getfield 91, [12, 61, 2]), (1, .iload_n 3, []), (1, .iaload, []), (1, .aload_n 0, []), (3, .getfield 109, [12, 67, 2]), (1, .iload_n 1, []), (1, .iaload, []), (1, .aload_n 0, []), (3, .getfield 88, [12, 60, 2]), (1, .iload_n 3, []), (1, .iaload, []), (1, .isub, []), (3, .invokevirtual 424, [0, 229, 6, 12]), (1, .return_, [])]
def kX12_layMark : List (Nat × List sx_I) := [(0, kX12_layMark_0)]
theorem kX12_layMark_c0 : sx_cd kX12_layMark 0 = kX12_layMark_0 := rfl
theorem kX12_layMark_ok : sx_okM 12 (sx_M 230) kX12_layMark = true := by decide +kernel
def kX12_lawOf_0 : List sx_I := [(1, .aload_n 0, []), (1, .iconst 0, []), (3, .putfield 376, [12, 56, 3]), (1, .aload_n 0, []), (3, .getfield 51, [12, 40, 2]), (1, .iload_n 1, []), (1, .iaload, []), (1, .istore_n 2, []), (0, .nop, [12])]
def kX12_lawOf_12 : List sx_I := [(1, .iload_n 2, []), (1, .aload_n 0, []), (3, .getfield 54, [12, 41, 2]), (1, .iload_n 1, []), (1, .iaload, []), (3, .if_icmp .ge 20, [39]), (1, .aload_n 0, []), (3, .getfield 76, [12, 55, 2]), (1, .iload_n 2, []), (1, .aload_n 0, []), (1, .iload_n 2, []), (3, .invokevirtual 428, [0, 217, 2, 12]), (1, .lastore, []), (3, .iinc 2 1, []), (3, .goto (-24), [12])]
def kX12_lawOf_39 : List sx_I := [(1, .aload_n 0, []), (3, .getfield 376, [12, 56, 3]), (3, .ifCond .eq 7, [50]), (1, .lconst 0, []), (3, .goto 16, [63])]
def kX12_lawOf_50 : List sx_I := [(1, .aload_n 0, []), (3, .getfield 76, [12, 55, 2]), (1, .aload_n 0, []), (3, .getfield 54, [12, 41, 2]), (1, .iload_n 1, []), (1, .iaload, []), (1, .iconst 1, []), (1, .isub, []), (1, .laload, []), (0, .nop, [63])]
def kX12_lawOf_63 : List sx_I := [(1, .lreturn, [])]
def kX12_lawOf : List (Nat × List sx_I) := [(0, kX12_lawOf_0), (12, kX12_lawOf_12), (39, kX12_lawOf_39), (50, kX12_lawOf_50), (63, kX12_lawOf_63)]
theorem kX12_lawOf_c0 : sx_cd kX12_lawOf 0 = kX12_lawOf_0 := rfl
theorem kX12_lawOf_c12 : sx_cd kX12_lawOf 12 = kX12_lawOf_12 := rfl
theorem kX12_lawOf_c39 : sx_cd kX12_lawOf 39 = kX12_lawOf_39 := rfl
theorem kX12_lawOf_c50 : sx_cd kX12_lawOf 50 = kX12_lawOf_50 := rfl
theorem kX12_lawOf_c63 : sx_cd kX12_lawOf 63 = kX12_lawOf_63 := rfl
theorem kX12_lawOf_ok : sx_okM 12 (sx_M 231) kX12_lawOf = true := by decide +kernel
def kX12_boundLaw_0 : List sx_I := [(1, .aload_n 0, []), (3, .getfield 47, [12, 39, 2]), (1, .iload_n 1, []), (1, .baload, [4]), (3, .ifCond .ne 5, [11]), (1, .iload_n 2, []), (1, .ireturn, [0])]
def kX12_boundLaw_11 : List sx_I := [(1, .aload_n 0, []), (1, .iload_n 1, []), (3, .invokevirtual 432, [0, 231, 2, 12]), (2, .lstore 5, []), (1, .aload_n 0, []), (3, .getfield 376, [12, 56, 3]), (3, .ifCond .eq 5, [27]), (1, .iload_n 2, []), (1, .ireturn, [0])]
def kX12_boundLaw_27 : List sx_I := [(2, .lload 5, []), (1, .iload_n 3, []), (1, .i2l, []), (1, .lcmp, []), (3, .ifCond .ge 5, [37]), (1, .iload_n 3, []), (1, .ireturn, [0])]
def kX12_boundLaw_37 : List sx_I := [(2, .lload 5, []), (2, .iload 4, []), (1, .i2l, []), (1, .lcmp, []), (3, .ifCond .le 8, [51]), (2, .iload 4, []), (3, .goto 6, [54])]
def kX12_boundLaw_51 : List sx_I := [(2, .lload 5, []), (1, .l2i, []), (0, .nop, [54])]
def kX12_boundLaw_54 : List sx_I := [(1, .ireturn, [0])]
def kX12_boundLaw : List (Nat × List sx_I) := [(0, kX12_boundLaw_0), (11, kX12_boundLaw_11), (27, kX12_boundLaw_27), (37, kX12_boundLaw_37), (51, kX12_boundLaw_51), (54, kX12_boundLaw_54)]
theorem kX12_boundLaw_c0 : sx_cd kX12_boundLaw 0 = kX12_boundLaw_0 := rfl
theorem kX12_boundLaw_c11 : sx_cd kX12_boundLaw 11 = kX12_boundLaw_11 := rfl
theorem kX12_boundLaw_c27 : sx_cd kX12_boundLaw 27 = kX12_boundLaw_27 := rfl
theorem kX12_boundLaw_c37 : sx_cd kX12_boundLaw 37 = kX12_boundLaw_37 := rfl
theorem kX12_boundLaw_c51 : sx_cd kX12_boundLaw 51 = kX12_boundLaw_51 := rfl
theorem kX12_boundLaw_c54 : sx_cd kX12_boundLaw 54 = kX12_boundLaw_54 := rfl
theorem kX12_boundLaw_ok : sx_okM 12 (sx_M 232) kX12_boundLaw = true := by decide +kernel
def kX12_readIn_0 : List sx_I := [(1, .aload_n 0, []), (3, .getfield 103, [12, 65, 2]), (1, .iload_n 1, []), (1, .iaload, []), (1, .iconst 1, []), (1, .isub, []), (1, .istore_n 3, []), (0, .nop, [9])]
def kX12_readIn_9 : List sx_I := [(1, .iload_n 3, []), (3, .ifCond .lt 50, [60]), (2, .bipush 90, []), (1, .iload_n 1, []), (1, .imul, []), (1, .iload_n 3, []), (1, .iadd, []), (2, .istore 4, []), (1, .aload_n 0, []), (3, .getfield 82, [12, 58, 2]), (2, .iload 4, []), (1, .iaload, []), (1, .iload_n 2, []), (3, .if_icmp .ne 25, [54]), (1, .aload_n 0, []), (3, .getfield 91, [12, 61, 2]), (2, .iload 4, []), (1, .iaload, []), (3, .ifCond .le 15, [54]), (1, .aload_n 0, []), (3, .getfield 94, [12, 62, 2]), (2, .iload 4, []), (1, .iaload, []), (3, .ifCond .ne 5, [54]), (1, .iload_n 3, []), (1, .ireturn, [0])]
def kX12_readIn_54 : List sx_I := [(3, .iinc 3 (-1), []), (3, .goto (-48), [9])]
def kX12_readIn_60 : List sx_I := [(1, .iconst (-1), []), (1, .ireturn, [0])]
def kX12_readIn : List (Nat × List sx_I) := [(0, kX12_readIn_0), (9, kX12_readIn_9), (54, kX12_readIn_54), (60, kX12_readIn_60)]
theorem kX12_readIn_c0 : sx_cd kX12_readIn 0 = kX12_readIn_0 := rfl
theorem kX12_readIn_c9 : sx_cd kX12_readIn 9 = kX12_readIn_9 := rfl
theorem kX12_readIn_c54 : sx_cd kX12_readIn 54 = kX12_readIn_54 := rfl
theorem kX12_readIn_c60 : sx_cd kX12_readIn 60 = kX12_readIn_60 := rfl
theorem kX12_readIn_ok : sx_okM 12 (sx_M 233) kX12_readIn = true := by decide +kernel
def kX12_scoreOf_0 : List sx_I := [(1, .iconst 0, []), (1, .istore_n 3, []), (1, .iconst 0, []), (2, .istore 4, []), (0, .nop, [5])]
def kX12_scoreOf_5 : List sx_I := [(2, .iload 4, []), (1, .aload_n 0, []), (3, .invokevirtual 395, [0, 218, 1, 12]), (3, .if_icmp .ge 96, [107]), (1, .aload_n 0, []), (3, .getfield 23, [12, 31, 2]), (2, .iload 4, []), (1, .iaload, []), (1, .iload_n 2, []), (3, .if_icmp .ne 13, [35]), (1, .aload_n 0, []), (1, .iload_n 1, []), (2, .iload 4, []), (3, .invokevirtual 435, [0, 233, 3, 12]), (3, .goto 4, [36])]
def kX12_scoreOf_35 : List sx_I := [(1, .iconst (-1), []), (0, .nop, [36])]
def kX12_scoreOf_36 : List sx_I := [(2, .istore 5, []), (2, .iload 5, []), (3, .ifCond .lt 61, [101]), (1, .aload_n 0, []), (3, .getfield 100, [12, 64, 2]), (2, .bipush 90, []), (1, .iload_n 1, []), (1, .imul, []), (2, .iload 5, []), (1, .iadd, []), (1, .baload, [4]), (3, .ifCond .ne 46, [101]), (1, .aload_n 0, []), (3, .getfield 32, [12, 34, 2]), (1, .aload_n 0, []), (3, .getfield 79, [12, 57, 2]), (2, .bipush 90, []), (1, .iload_n 1, []), (1, .imul, []), (2, .iload 5, []), (1, .iadd, []), (1, .iaload, []), (1, .iaload, []), (1, .iload_n 2, []), (3, .if_icmp .ne 6, [82]), (3, .goto 22, [101])]
def kX12_scoreOf_82 : List sx_I := [(1, .aload_n 0, []), (1, .iload_n 1, []), (2, .iload 5, []), (3, .invokevirtual 438, [0, 230, 3, 12]), (1, .iload_n 3, []), (1, .aload_n 0, []), (1, .iconst 2, []), (1, .iconst 1, []), (1, .iconst 0, []), (2, .bipush 99, []), (3, .invokevirtual 441, [0, 232, 5, 12]), (1, .iadd, []), (1, .istore_n 3, []), (0, .nop, [101])]
def kX12_scoreOf_101 : List sx_I := [(3, .iinc 4 1, []), (3, .goto (-99), [5])]
def kX12_scoreOf_107 : List sx_I := [(1, .iload_n 3, []), (1, .ireturn, [0])]
def kX12_scoreOf : List (Nat × List sx_I) := [(0, kX12_scoreOf_0), (5, kX12_scoreOf_5), (35, kX12_scoreOf_35), (36, kX12_scoreOf_36), (82, kX12_scoreOf_82), (101, kX12_scoreOf_101), (107, kX12_scoreOf_107)]
theorem kX12_scoreOf_c0 : sx_cd kX12_scoreOf 0 = kX12_scoreOf_0 := rfl
theorem kX12_scoreOf_c5 : sx_cd kX12_scoreOf 5 = kX12_scoreOf_5 := rfl
theorem kX12_scoreOf_c35 : sx_cd kX12_scoreOf 35 = kX12_scoreOf_35 := rfl
theorem kX12_scoreOf_c36 : sx_cd kX12_scoreOf 36 = kX12_scoreOf_36 := rfl
theorem kX12_scoreOf_c82 : sx_cd kX12_scoreOf 82 = kX12_scoreOf_82 := rfl
theorem kX12_scoreOf_c101 : sx_cd kX12_scoreOf 101 = kX12_scoreOf_101 := rfl
theorem kX12_scoreOf_c107 : sx_cd kX12_scoreOf 107 = kX12_scoreOf_107 := rfl
theorem kX12_scoreOf_ok : sx_okM 12 (sx_M 234) kX12_scoreOf = true := by decide +kernel
def kX12_fails_0 : List sx_I := [(1, .aload_n 0, []), (1, .iload_n 1, []), (3, .putfield 163, [12, 2, 0]), (1, .iconst 0, []), (1, .ireturn, [0])]
def kX12_fails : List (Nat × List sx_I) := [(0, kX12_fails_0)]
theorem kX12_fails_c0 : sx_cd kX12_fails 0 = kX12_fails_0 := rfl
theorem kX12_fails_ok : sx_okM 12 (sx_M 235) kX12_fails = true := by decide +kernel
def kX12_look_0 : List sx_I := [(1, .aload_n 0, []), (1, .iconst 0, []), (3, .putfield 163, [12, 2, 0]), (1, .aload_n 0, []), (1, .iload_n 1, []), (3, .invokevirtual 445, [0, 220, 2, 12]), (3, .ifCond .ne 9, [19]), (1, .aload_n 0, []), (1, .iconst 1, []), (3, .invokevirtual 448, [0, 235, 2, 12]), (1, .ireturn, [0])]
def kX12_look_19 : List sx_I := [(1, .iload_n 2, []), (36, .tableswitch 71 0 4 #[36, 43, 50, 57, 64], [91, 56, 63, 70, 77, 84])]
def kX12_look_56 : List sx_I := [(1, .aload_n 0, []), (3, .getfield 112, [12, 68, 2]), (1, .iload_n 1, []), (1, .iaload, []), (1, .ireturn, [0])]
def kX12_look_63 : List sx_I := [(1, .aload_n 0, []), (3, .getfield 32, [12, 34, 2]), (1, .iload_n 1, []), (1, .iaload, []), (1, .ireturn, [0])]
def kX12_look_70 : List sx_I := [(1, .aload_n 0, []), (3, .getfield 115, [12, 69, 2]), (1, .iload_n 1, []), (1, .iaload, []), (1, .ireturn, [0])]
def kX12_look_77 : List sx_I := [(1, .aload_n 0, []), (3, .getfield 118, [12, 70, 2]), (1, .iload_n 1, []), (1, .iaload, []), (1, .ireturn, [0])]
def kX12_look_84 : List sx_I := [(1, .aload_n 0, []), (3, .getfield 41, [12, 37, 2]), (1, .iload_n 1, []), (1, .iaload, []), (1, .ireturn, [0])]
def kX12_look_91 : List sx_I := [(1, .aload_n 0, []), (1, .iconst 2, []), (3, .invokevirtual 448, [0, 235, 2, 12]), (1, .ireturn, [0])]
def kX12_look : List (Nat × List sx_I) := [(0, kX12_look_0), (19, kX12_look_19), (56, kX12_look_56), (63, kX12_look_63), (70, kX12_look_70), (77, kX12_look_77), (84, kX12_look_84), (91, kX12_look_91)]
theorem kX12_look_c0 : sx_cd kX12_look 0 = kX12_look_0 := rfl
theorem kX12_look_c19 : sx_cd kX12_look 19 = kX12_look_19 := rfl
theorem kX12_look_c56 : sx_cd kX12_look 56 = kX12_look_56 := rfl
theorem kX12_look_c63 : sx_cd kX12_look 63 = kX12_look_63 := rfl
theorem kX12_look_c70 : sx_cd kX12_look 70 = kX12_look_70 := rfl
theorem kX12_look_c77 : sx_cd kX12_look 77 = kX12_look_77 := rfl
theorem kX12_look_c84 : sx_cd kX12_look 84 = kX12_look_84 := rfl
theorem kX12_look_c91 : sx_cd kX12_look 91 = kX12_look_91 := rfl
theorem kX12_look_ok : sx_okM 12 (sx_M 236) kX12_look = true := by decide +kernel
def kX12_cell_0 : List sx_I := [(1, .aload_n 0, []), (1, .iconst 0, []), (3, .putfield 163, [12, 2, 0]), (1, .aload_n 0, []), (1, .iload_n 1, []), (3, .invokevirtual 451, [0, 219, 2, 12]), (3, .ifCond .ne 6, [16]), (2, .bipush (-2), []), (1, .ireturn, [0])]
def kX12_cell_16 : List sx_I := [(1, .iconst 0, []), (1, .istore_n 3, []), (1, .iload_n 2, []), (29, .tableswitch 101 0 3 #[29, 36, 43, 94], [120, 48, 55, 62, 113])]
def kX12_cell_48 : List sx_I := [(1, .aload_n 0, []), (3, .getfield 23, [12, 31, 2]), (1, .iload_n 1, []), (1, .iaload, []), (1, .ireturn, [0])]
def kX12_cell_55 : List sx_I := [(1, .aload_n 0, []), (3, .getfield 20, [12, 30, 2]), (1, .iload_n 1, []), (1, .iaload, []), (1, .ireturn, [0])]
def kX12_cell_62 : List sx_I := [(1, .iconst 0, []), (2, .istore 4, []), (0, .nop, [65])]
def kX12_cell_65 : List sx_I := [(2, .iload 4, []), (1, .aload_n 0, []), (3, .getfield 103, [12, 65, 2]), (1, .iconst 0, []), (1, .iaload, []), (3, .if_icmp .ge 38, [111]), (1, .iload_n 3, []), (1, .aload_n 0, []), (3, .getfield 82, [12, 58, 2]), (2, .iload 4, []), (1, .iaload, []), (1, .iload_n 1, []), (3, .if_icmp .ne 17, [102]), (1, .aload_n 0, []), (3, .getfield 91, [12, 61, 2]), (2, .iload 4, []), (1, .iaload, []), (3, .ifCond .le 7, [102]), (1, .iconst 1, []), (3, .goto 4, [103])]
def kX12_cell_102 : List sx_I := [(1, .iconst 0, []), (0, .nop, [103])]
def kX12_cell_103 : List sx_I := [(1, .iadd, []), (1, .istore_n 3, []), (3, .iinc 4 1, []), (3, .goto (-43), [65])]
def kX12_cell_111 : List sx_I := [(1, .iload_n 3, []), (1, .ireturn, [0])]
def kX12_cell_113 : List sx_I := [(1, .aload_n 0, []), (1, .iconst 0, []), (1, .iload_n 1, []), (3, .invokevirtual 435, [0, 233, 3, 12]), (1, .ireturn, [0])]
def kX12_cell_120 : List sx_I := [(2, .bipush (-2), []), (1, .ireturn, [0])]
def kX12_cell : List (Nat × List sx_I) := [(0, kX12_cell_0), (16, kX12_cell_16), (48, kX12_cell_48), (55, kX12_cell_55), (62, kX12_cell_62), (65, kX12_cell_65), (102, kX12_cell_102), (103, kX12_cell_103), (111, kX12_cell_111), (113, kX12_cell_113), (120, kX12_cell_120)]
theorem kX12_cell_c0 : sx_cd kX12_cell 0 = kX12_cell_0 := rfl
theorem kX12_cell_c16 : sx_cd kX12_cell 16 = kX12_cell_16 := rfl
theorem kX12_cell_c48 : sx_cd kX12_cell 48 = kX12_cell_48 := rfl
theorem kX12_cell_c55 : sx_cd kX12_cell 55 = kX12_cell_55 := rfl
theorem kX12_cell_c62 : sx_cd kX12_cell 62 = kX12_cell_62 := rfl
theorem kX12_cell_c65 : sx_cd kX12_cell 65 = kX12_cell_65 := rfl
theorem kX12_cell_c102 : sx_cd kX12_cell 102 = kX12_cell_102 := rfl
theorem kX12_cell_c103 : sx_cd kX12_cell 103 = kX12_cell_103 := rfl
theorem kX12_cell_c111 : sx_cd kX12_cell 111 = kX12_cell_111 := rfl
theorem kX12_cell_c113 : sx_cd kX12_cell 113 = kX12_cell_113 := rfl
theorem kX12_cell_c120 : sx_cd kX12_cell 120 = kX12_cell_120 := rfl
theorem kX12_cell_ok : sx_okM 12 (sx_M 237) kX12_cell = true := by decide +kernel
def kX12_mark_0 : List sx_I := [(1, .aload_n 0, []), (1, .iconst 0, []), (3, .putfield 163, [12, 2, 0]), (1, .aload_n 0, []), (1, .iload_n 1, []), (3, .invokevirtual 454, [0, 222, 2, 12]), (3, .ifCond .ne 5, [15]), (1, .iconst (-1), []), (1, .ireturn, [0])]
def kX12_mark_15 : List sx_I := [(1, .iload_n 2, []), (48, .tableswitch 112 0 7 #[48, 55, 62, 69, 76, 83, 90, 97], [128, 64, 71, 78, 85, 92, 99, 106, 113])]
def kX12_mark_64 : List sx_I := [(1, .aload_n 0, []), (3, .getfield 79, [12, 57, 2]), (1, .iload_n 1, []), (1, .iaload, []), (1, .ireturn, [0])]
def kX12_mark_71 : List sx_I := [(1, .aload_n 0, []), (3, .getfield 82, [12, 58, 2]), (1, .iload_n 1, []), (1, .iaload, []), (1, .ireturn, [0])]
def kX12_mark_78 : List sx_I := [(1, .aload_n 0, []), (3, .getfield 85, [12, 59, 2]), (1, .iload_n 1, []), (1, .iaload, []), (1, .ireturn, [0])]
def kX12_mark_85 : List sx_I := [(1, .aload_n 0, []), (3, .getfield 88, [12, 60, 2]), (1, .iload_n 1, []), (1, .iaload, []), (1, .ireturn, [0])]
def kX12_mark_92 : List sx_I := [(1, .aload_n 0, []), (3, .getfield 91, [12, 61, 2]), (1, .iload_n 1, []), (1, .iaload, []), (1, .ireturn, [0])]
def kX12_mark_99 : List sx_I := [(1, .aload_n 0, []), (3, .getfield 94, [12, 62, 2]), (1, .iload_n 1, []), (1, .iaload, []), (1, .ireturn, [0])]
def kX12_mark_106 : List sx_I := [(1, .aload_n 0, []), (3, .getfield 97, [12, 63, 2]), (1, .iload_n 1, []), (1, .iaload, []), (1, .ireturn, [0])]
def kX12_mark_113 : List sx_I := [(1, .aload_n 0, []), (3, .getfield 100, [12, 64, 2]), (1, .iload_n 1, []), (1, .baload, [4]), (3, .ifCond .eq 7, [126]), (1, .iconst 1, []), (3, .goto 4, [127])]
def kX12_mark_126 : List sx_I := [(1, .iconst 0, []), (0, .nop, [127])]
def kX12_mark_127 : List sx_I := [(1, .ireturn, [0])]
def kX12_mark_128 : List sx_I := [(1, .iconst (-1), []), (1, .ireturn, [0])]
def kX12_mark : List (Nat × List sx_I) := [(0, kX12_mark_0), (15, kX12_mark_15), (64, kX12_mark_64), (71, kX12_mark_71), (78, kX12_mark_78), (85, kX12_mark_85), (92, kX12_mark_92), (99, kX12_mark_99), (106, kX12_mark_106), (113, kX12_mark_113), (126, kX12_mark_126), (127, kX12_mark_127), (128, kX12_mark_128)]
theorem kX12_mark_c0 : sx_cd kX12_mark 0 = kX12_mark_0 := rfl
theorem kX12_mark_c15 : sx_cd kX12_mark 15 = kX12_mark_15 := rfl
theorem kX12_mark_c64 : sx_cd kX12_mark 64 = kX12_mark_64 := rfl
theorem kX12_mark_c71 : sx_cd kX12_mark 71 = kX12_mark_71 := rfl
theorem kX12_mark_c78 : sx_cd kX12_mark 78 = kX12_mark_78 := rfl
theorem kX12_mark_c85 : sx_cd kX12_mark 85 = kX12_mark_85 := rfl
theorem kX12_mark_c92 : sx_cd kX12_mark 92 = kX12_mark_92 := rfl
theorem kX12_mark_c99 : sx_cd kX12_mark 99 = kX12_mark_99 := rfl
theorem kX12_mark_c106 : sx_cd kX12_mark 106 = kX12_mark_106 := rfl
theorem kX12_mark_c113 : sx_cd kX12_mark 113 = kX12_mark_113 := rfl
theorem kX12_mark_c126 : sx_cd kX12_mark 126 = kX12_mark_126 := rfl
theorem kX12_mark_c127 : sx_cd kX12_mark 127 = kX12_mark_127 := rfl
theorem kX12_mark_c128 : sx_cd kX12_mark 128 = kX12_mark_128 := rfl
theorem kX12_mark_ok : sx_okM 12 (sx_M 238) kX12_mark = true := by decide +kernel
def kX12_law_0 : List sx_I := [(1, .aload_n 0, []), (1, .iconst 0, []), (3, .putfield 163, [12, 2, 0]), (1, .iload_n 1, []), (1, .iconst 0, []), (1, .iconst 2, []), (3, .invokestatic 208, [4, 178, 3]), (3, .ifCond .eq 36, [47]), (1, .iload_n 1, []), (1, .iconst 2, []), (3, .if_icmp .ne 14, [30]), (1, .aload_n 0, []), (1, .iload_n 2, []), (3, .invokevirtual 445, [0, 220, 2, 12]), (3, .ifCond .ne 27, [51]), (3, .goto 20, [47])]
def kX12_law_30 : List sx_I := [(1, .aload_n 0, []), (1, .iload_n 2, []), (3, .invokevirtual 454, [0, 222, 2, 12]), (3, .ifCond .eq 12, [47]), (1, .aload_n 0, []), (3, .getfield 91, [12, 61, 2]), (1, .iload_n 2, []), (1, .iaload, []), (3, .ifCond .ne 7, [51]), (0, .nop, [47])]
def kX12_law_47 : List sx_I := [(3, .ldc2_w 457, [9223372036854775808, 1]), (1, .lreturn, [])]
def kX12_law_51 : List sx_I := [(1, .iload_n 1, []), (1, .iconst 2, []), (3, .if_icmp .ne 7, [60]), (1, .iconst 0, []), (3, .goto 6, [63])]
def kX12_law_60 : List sx_I := [(1, .iload_n 1, []), (1, .iconst 1, []), (1, .iadd, []), (0, .nop, [63])]
def kX12_law_63 : List sx_I := [(1, .istore_n 3, []), (1, .aload_n 0, []), (3, .getfield 47, [12, 39, 2]), (1, .iload_n 3, []), (1, .baload, [4]), (3, .ifCond .ne 7, [77]), (3, .ldc2_w 457, [9223372036854775808, 1]), (1, .lreturn, [])]
def kX12_law_77 : List sx_I := [(1, .iload_n 1, []), (1, .iconst 2, []), (3, .if_icmp .ne 20, [99]), (1, .aload_n 0, []), (1, .iconst 0, []), (1, .iload_n 2, []), (1, .aload_n 0, []), (3, .getfield 112, [12, 68, 2]), (1, .iload_n 2, []), (1, .iaload, []), (1, .iconst 0, []), (1, .iconst 0, []), (3, .invokevirtual 424, [0, 229, 6, 12]), (3, .goto 9, [105])]
def kX12_law_99 : List sx_I := [(1, .aload_n 0, []), (1, .iconst 0, []), (1, .iload_n 2, []), (3, .invokevirtual 438, [0, 230, 3, 12]), (0, .nop, [105])]
def kX12_law_105 : List sx_I := [(1, .aload_n 0, []), (1, .iload_n 3, []), (3, .invokevirtual 432, [0, 231, 2, 12]), (2, .lstore 4, []), (1, .aload_n 0, []), (3, .getfield 376, [12, 56, 3]), (3, .ifCond .eq 9, [125]), (3, .ldc2_w 457, [9223372036854775808, 1]), (3, .goto 5, [127])]
def kX12_law_125 : List sx_I := [(2, .lload 4, []), (0, .nop, [127])]
def kX12_law_127 : List sx_I := [(1, .lreturn, [])]
def kX12_law : List (Nat × List sx_I) := [(0, kX12_law_0), (30, kX12_law_30), (47, kX12_law_47), (51, kX12_law_51), (60, kX12_law_60), (63, kX12_law_63), (77, kX12_law_77), (99, kX12_law_99), (105, kX12_law_105), (125, kX12_law_125), (127, kX12_law_127)]
theorem kX12_law_c0 : sx_cd kX12_law 0 = kX12_law_0 := rfl
theorem kX12_law_c30 : sx_cd kX12_law 30 = kX12_law_30 := rfl
theorem kX12_law_c47 : sx_cd kX12_law 47 = kX12_law_47 := rfl
theorem kX12_law_c51 : sx_cd kX12_law 51 = kX12_law_51 := rfl
theorem kX12_law_c60 : sx_cd kX12_law 60 = kX12_law_60 := rfl
theorem kX12_law_c63 : sx_cd kX12_law 63 = kX12_law_63 := rfl
theorem kX12_law_c77 : sx_cd kX12_law 77 = kX12_law_77 := rfl
theorem kX12_law_c99 : sx_cd kX12_law 99 = kX12_law_99 := rfl
theorem kX12_law_c105 : sx_cd kX12_law 105 = kX12_law_105 := rfl
theorem kX12_law_c125 : sx_cd kX12_law 125 = kX12_law_125 := rfl
theorem kX12_law_c127 : sx_cd kX12_law 127 = kX12_law_127 := rfl
theorem kX12_law_ok : sx_okM 12 (sx_M 239) kX12_law = true := by decide +kernel
def kX12_step_0 : List sx_I := [(1, .aload_n 0, []), (1, .iconst 0, []), (3, .putfield 163, [12, 2, 0]), (1, .aload_n 0, []), (1, .iload_n 1, []), (3, .invokevirtual 445, [0, 220, 2, 12]), (3, .ifCond .eq 12, [22]), (1, .iload_n 2, []), (1, .iconst 0, []), (1, .iconst 3, []), (3, .invokestatic 208, [4, 178, 3]), (3, .ifCond .ne 5, [24]), (0, .nop, [22])]
def kX12_step_22 : List sx_I := [(1, .iconst (-1), []), (1, .ireturn, [0])]
def kX12_step_24 : List sx_I := [(1, .aload_n 0, []), (1, .aload_n 0, []), (3, .getfield 112, [12, 68, 2]), (1, .iload_n 1, []), (1, .iaload, []), (1, .iload_n 2, []), (3, .invokevirtual 459, [0, 228, 3, 12]), (1, .istore_n 3, []), (1, .iload_n 3, []), (3, .ifCond .ge 6, [43]), (2, .bipush (-2), []), (1, .ireturn, [0])]
def kX12_step_43 : List sx_I := [(1, .aload_n 0, []), (3, .getfield 115, [12, 69, 2]), (1, .iload_n 1, []), (1, .iaload, []), (1, .iconst 1, []), (1, .iadd, []), (1, .aload_n 0, []), (3, .getfield 38, [12, 36, 2]), (1, .iload_n 1, []), (1, .iaload, []), (1, .irem, []), (3, .ifCond .ne 16, [74]), (1, .aload_n 0, []), (3, .getfield 20, [12, 30, 2]), (1, .iload_n 3, []), (1, .iaload, []), (3, .ifCond .ne 7, [74]), (1, .iconst 1, []), (3, .goto 4, [75])]
def kX12_step_74 : List sx_I := [(1, .iconst 0, []), (0, .nop, [75])]
def kX12_step_75 : List sx_I := [(2, .istore 4, []), (2, .iload 4, []), (3, .ifCond .eq 17, [96]), (1, .aload_n 0, []), (3, .getfield 103, [12, 65, 2]), (1, .iconst 0, []), (1, .iaload, []), (2, .bipush 90, []), (3, .if_icmp .ne 6, [96]), (2, .bipush (-2), []), (1, .ireturn, [0])]
def kX12_step_96 : List sx_I := [(1, .aload_n 0, []), (3, .invokevirtual 462, [0, 302, 1, 12]), (1, .aload_n 0, []), (3, .getfield 112, [12, 68, 2]), (1, .iload_n 1, []), (1, .iload_n 3, []), (1, .iastore, []), (1, .aload_n 0, []), (3, .getfield 115, [12, 69, 2]), (1, .iload_n 1, []), (1, .dup2, []), (1, .iaload, []), (1, .iconst 1, []), (1, .iadd, []), (1, .iastore, []), (2, .iload 4, []), (3, .ifCond .ne 5, [124]), (1, .iload_n 3, []), (1, .ireturn, [0])]
def kX12_step_124 : List sx_I := [(1, .aload_n 0, []), (3, .getfield 103, [12, 65, 2]), (1, .iconst 0, []), (1, .iaload, []), (2, .istore 5, []), (1, .aload_n 0, []), (1, .iconst 0, []), (1, .iload_n 1, []), (1, .iload_n 3, []), (1, .iconst 0, []), (1, .iconst 0, []), (3, .invokevirtual 424, [0, 229, 6, 12]), (1, .aload_n 0, []), (3, .getfield 79, [12, 57, 2]), (2, .iload 5, []), (1, .aload_n 0, []), (3, .getfield 118, [12, 70, 2]), (1, .iload_n 1, []), (1, .iaload, []), (1, .iastore, []), (1, .aload_n 0, []), (3, .getfield 82, [12, 58, 2]), (2, .iload 5, []), (1, .iload_n 3, []), (1, .iastore, []), (1, .aload_n 0, []), (3, .getfield 85, [12, 59, 2]), (2, .iload 5, []), (1, .iload_n 2, []), (1, .iastore, []), (1, .aload_n 0, []), (3, .getfield 88, [12, 60, 2]), (2, .iload 5, []), (1, .aload_n 0, []), (3, .getfield 109, [12, 67, 2]), (1, .iconst 0, []), (1, .iaload, []), (1, .iastore, []), (1, .aload_n 0, []), (3, .getfield 91, [12, 61, 2]), (2, .iload 5, []), (1, .aload_n 0, []), (1, .iconst 0, []), (1, .aload_n 0, []), (3, .getfield 35, [12, 35, 2]), (1, .iload_n 1, []), (1, .iaload, []), (1, .iconst 1, []), (2, .bipush 99, []), (3, .invokevirtual 441, [0, 232, 5, 12]), (1, .iastore, []), (1, .aload_n 0, []), (3, .getfield 94, [12, 62, 2]), (2, .iload 5, []), (1, .iconst 0, []), (1, .iastore, []), (1, .aload_n 0, []), (3, .getfield 97, [12, 63, 2]), (2, .iload 5, []), (1, .iload_n 1, []), (1, .iastore, []), (1, .aload_n 0, []), (3, .getfield 100, [12, 64, 2]), (2, .iload 5, []), (1, .iconst 0, []), (1, .bastore, [4]), (1, .aload_n 0, []), (3, .getfield 103, [12, 65, 2]), (1, .iconst 0, []), (1, .dup2, []), (1, .iaload, []), (1, .iconst 1, []), (1, .iadd, []), (1, .iastore, []), (1, .iload_n 3, []), (1, .ireturn, [0])]
def kX12_step : List (Nat × List sx_I) := [(0, kX12_step_0), (22, kX12_step_22), (24, kX12_step_24), (43, kX12_step_43), (74, kX12_step_74), (75, kX12_step_75), (96, kX12_step_96), (124, kX12_step_124)]
theorem kX12_step_c0 : sx_cd kX12_step 0 = kX12_step_0 := rfl
theorem kX12_step_c22 : sx_cd kX12_step 22 = kX12_step_22 := rfl
theorem kX12_step_c24 : sx_cd kX12_step 24 = kX12_step_24 := rfl
theorem kX12_step_c43 : sx_cd kX12_step 43 = kX12_step_43 := rfl
theorem kX12_step_c74 : sx_cd kX12_step 74 = kX12_step_74 := rfl
theorem kX12_step_c75 : sx_cd kX12_step 75 = kX12_step_75 := rfl
theorem kX12_step_c96 : sx_cd kX12_step 96 = kX12_step_96 := rfl
theorem kX12_step_c124 : sx_cd kX12_step 124 = kX12_step_124 := rfl
theorem kX12_step_ok : sx_okM 12 (sx_M 240) kX12_step = true := by decide +kernel
def kX12_boots_0 : List sx_I := [(1, .aload_n 0, []), (1, .iconst 0, []), (3, .putfield 163, [12, 2, 0]), (1, .aload_n 0, []), (1, .iload_n 1, []), (3, .invokevirtual 445, [0, 220, 2, 12]), (3, .ifCond .eq 21, [31]), (1, .aload_n 0, []), (1, .iload_n 2, []), (3, .invokevirtual 445, [0, 220, 2, 12]), (3, .ifCond .eq 13, [31]), (1, .aload_n 0, []), (3, .getfield 118, [12, 70, 2]), (1, .iload_n 1, []), (1, .iaload, []), (1, .iload_n 2, []), (3, .if_icmp .ne 5, [33]), (0, .nop, [31])]
def kX12_boots_31 : List sx_I := [(1, .iconst 0, []), (1, .ireturn, [1])]
def kX12_boots_33 : List sx_I := [(1, .aload_n 0, []), (3, .invokevirtual 462, [0, 302, 1, 12]), (1, .aload_n 0, []), (3, .getfield 118, [12, 70, 2]), (1, .iload_n 1, []), (1, .iload_n 2, []), (1, .iastore, []), (1, .iconst 1, []), (1, .ireturn, [1])]
def kX12_boots : List (Nat × List sx_I) := [(0, kX12_boots_0), (31, kX12_boots_31), (33, kX12_boots_33)]
theorem kX12_boots_c0 : sx_cd kX12_boots 0 = kX12_boots_0 := rfl
theorem kX12_boots_c31 : sx_cd kX12_boots 31 = kX12_boots_31 := rfl
theorem kX12_boots_c33 : sx_cd kX12_boots 33 = kX12_boots_33 := rfl
theorem kX12_boots_ok : sx_okM 12 (sx_M 241) kX12_boots = true := by decide +kernel
def kX12_fox_0 : List sx_I := [(1, .aload_n 0, []), (1, .iconst 0, []), (3, .putfield 163, [12, 2, 0]), (1, .aload_n 0, []), (1, .iload_n 1, []), (3, .invokevirtual 451, [0, 219, 2, 12]), (3, .ifCond .eq 22, [32]), (1, .iload_n 2, []), (1, .iconst 0, []), (1, .iconst 3, []), (3, .invokestatic 208, [4, 178, 3]), (3, .ifCond .eq 13, [32]), (1, .iload_n 3, []), (1, .iconst 1, []), (2, .bipush 8, []), (3, .invokestatic 208, [4, 178, 3]), (3, .ifCond .ne 5, [34]), (0, .nop, [32])]
def kX12_fox_32 : List sx_I := [(1, .iconst (-1), []), (1, .ireturn, [0])]
def kX12_fox_34 : List sx_I := [(1, .iconst 0, []), (2, .istore 4, []), (1, .iload_n 1, []), (2, .istore 5, []), (1, .iconst 0, []), (2, .istore 6, []), (0, .nop, [43])]
def kX12_fox_43 : List sx_I := [(2, .iload 6, []), (1, .iload_n 3, []), (3, .if_icmp .ge 67, [113]), (2, .iload 5, []), (3, .ifCond .lt 62, [113]), (1, .aload_n 0, []), (1, .iconst 0, []), (2, .iload 5, []), (3, .invokevirtual 435, [0, 233, 3, 12]), (2, .istore 7, []), (2, .iload 7, []), (3, .ifCond .lt 33, [98]), (1, .aload_n 0, []), (3, .getfield 100, [12, 64, 2]), (2, .iload 7, []), (1, .baload, [4]), (3, .ifCond .ne 23, [98]), (2, .iload 4, []), (3, .ifCond .ne 7, [87]), (1, .aload_n 0, []), (3, .invokevirtual 462, [0, 302, 1, 12]), (0, .nop, [87])]
def kX12_fox_87 : List sx_I := [(1, .aload_n 0, []), (3, .getfield 100, [12, 64, 2]), (2, .iload 7, []), (1, .iconst 1, []), (1, .bastore, [4]), (3, .iinc 4 1, []), (0, .nop, [98])]
def kX12_fox_98 : List sx_I := [(1, .aload_n 0, []), (2, .iload 5, []), (1, .iload_n 2, []), (3, .invokevirtual 459, [0, 228, 3, 12]), (2, .istore 5, []), (3, .iinc 6 1, []), (3, .goto (-67), [43])]
def kX12_fox_113 : List sx_I := [(2, .iload 4, []), (1, .ireturn, [0])]
def kX12_fox : List (Nat × List sx_I) := [(0, kX12_fox_0), (32, kX12_fox_32), (34, kX12_fox_34), (43, kX12_fox_43), (87, kX12_fox_87), (98, kX12_fox_98), (113, kX12_fox_113)]
theorem kX12_fox_c0 : sx_cd kX12_fox 0 = kX12_fox_0 := rfl
theorem kX12_fox_c32 : sx_cd kX12_fox 32 = kX12_fox_32 := rfl
theorem kX12_fox_c34 : sx_cd kX12_fox 34 = kX12_fox_34 := rfl
theorem kX12_fox_c43 : sx_cd kX12_fox 43 = kX12_fox_43 := rfl
theorem kX12_fox_c87 : sx_cd kX12_fox 87 = kX12_fox_87 := rfl
theorem kX12_fox_c98 : sx_cd kX12_fox 98 = kX12_fox_98 := rfl
theorem kX12_fox_c113 : sx_cd kX12_fox 113 = kX12_fox_113 := rfl
theorem kX12_fox_ok : sx_okM 12 (sx_M 242) kX12_fox = true := by decide +kernel
def kX12_anHour_0 : List sx_I := [(1, .iconst 0, []), (1, .istore_n 2, []), (0, .nop, [2])]
def kX12_anHour_2 : List sx_I := [(1, .iload_n 2, []), (1, .aload_n 0, []), (3, .getfield 103, [12, 65, 2]), (1, .iload_n 1, []), (1, .iaload, []), (3, .if_icmp .ge 93, [102]), (1, .aload_n 0, []), (3, .getfield 47, [12, 39, 2]), (1, .iconst 1, []), (1, .baload, [4]), (3, .ifCond .eq 84, [102]), (2, .bipush 90, []), (1, .iload_n 1, []), (1, .imul, []), (1, .iload_n 2, []), (1, .iadd, []), (1, .istore_n 3, []), (1, .aload_n 0, []), (3, .getfield 91, [12, 61, 2]), (1, .iload_n 3, []), (1, .iaload, []), (3, .ifCond .eq 62, [96]), (1, .aload_n 0, []), (3, .getfield 94, [12, 62, 2]), (1, .iload_n 3, []), (1, .iaload, []), (3, .ifCond .le 6, [49]), (3, .goto 50, [96])]
def kX12_anHour_49 : List sx_I := [(1, .aload_n 0, []), (1, .iload_n 1, []), (1, .iload_n 2, []), (3, .invokevirtual 438, [0, 230, 3, 12]), (1, .aload_n 0, []), (1, .iconst 1, []), (1, .iconst 0, []), (1, .iconst 0, []), (2, .bipush 99, []), (3, .invokevirtual 441, [0, 232, 5, 12]), (2, .istore 4, []), (1, .aload_n 0, []), (3, .getfield 91, [12, 61, 2]), (1, .iload_n 3, []), (1, .aload_n 0, []), (3, .getfield 91, [12, 61, 2]), (1, .iload_n 3, []), (1, .iaload, []), (2, .iload 4, []), (3, .if_icmp .le 15, [94]), (1, .aload_n 0, []), (3, .getfield 91, [12, 61, 2]), (1, .iload_n 3, []), (1, .iaload, []), (2, .iload 4, []), (1, .isub, []), (3, .goto 4, [95])]
def kX12_anHour_94 : List sx_I := [(1, .iconst 0, []), (0, .nop, [95])]
def kX12_anHour_95 : List sx_I := [(1, .iastore, []), (0, .nop, [96])]
def kX12_anHour_96 : List sx_I := [(3, .iinc 2 1, []), (3, .goto (-97), [2])]
def kX12_anHour_102 : List sx_I := [(1, .aload_n 0, []), (3, .getfield 109, [12, 67, 2]), (1, .iload_n 1, []), (1, .dup2, []), (1, .iaload, []), (1, .iconst 1, []), (1, .iadd, []), (1, .iastore, []), (1, .return_, [])]
def kX12_anHour : List (Nat × List sx_I) := [(0, kX12_anHour_0), (2, kX12_anHour_2), (49, kX12_anHour_49), (94, kX12_anHour_94), (95, kX12_anHour_95), (96, kX12_anHour_96), (102, kX12_anHour_102)]
theorem kX12_anHour_c0 : sx_cd kX12_anHour 0 = kX12_anHour_0 := rfl
theorem kX12_anHour_c2 : sx_cd kX12_anHour 2 = kX12_anHour_2 := rfl
theorem kX12_anHour_c49 : sx_cd kX12_anHour 49 = kX12_anHour_49 := rfl
theorem kX12_anHour_c94 : sx_cd kX12_anHour 94 = kX12_anHour_94 := rfl
theorem kX12_anHour_c95 : sx_cd kX12_anHour 95 = kX12_anHour_95 := rfl
theorem kX12_anHour_c96 : sx_cd kX12_anHour 96 = kX12_anHour_96 := rfl
theorem kX12_anHour_c102 : sx_cd kX12_anHour 102 = kX12_anHour_102 := rfl
theorem kX12_anHour_ok : sx_okM 12 (sx_M 243) kX12_anHour = true := by decide +kernel
def kX12_falls_0 : List sx_I := [(1, .iconst 0, []), (1, .istore_n 3, []), (0, .nop, [2])]
def kX12_falls_2 : List sx_I := [(1, .iload_n 3, []), (1, .aload_n 0, []), (3, .getfield 103, [12, 65, 2]), (1, .iload_n 1, []), (1, .iaload, []), (3, .if_icmp .ge 24, [33]), (1, .aload_n 0, []), (3, .getfield 94, [12, 62, 2]), (2, .bipush 90, []), (1, .iload_n 1, []), (1, .imul, []), (1, .iload_n 3, []), (1, .iadd, []), (1, .dup2, []), (1, .iaload, []), (1, .iload_n 2, []), (1, .iadd, []), (1, .iastore, []), (3, .iinc 3 1, []), (3, .goto (-28), [2])]
def kX12_falls_33 : List sx_I := [(1, .aload_n 0, []), (3, .getfield 106, [12, 66, 2]), (1, .iload_n 1, []), (1, .aload_n 0, []), (3, .getfield 106, [12, 66, 2]), (1, .iload_n 1, []), (1, .iaload, []), (1, .iload_n 2, []), (1, .iadd, []), (3, .sipush 9999, []), (3, .if_icmp .le 9, [58]), (3, .sipush 9999, []), (3, .goto 11, [66])]
def kX12_falls_58 : List sx_I := [(1, .aload_n 0, []), (3, .getfield 106, [12, 66, 2]), (1, .iload_n 1, []), (1, .iaload, []), (1, .iload_n 2, []), (1, .iadd, []), (0, .nop, [66])]
def kX12_falls_66 : List sx_I := [(1, .iastore, []), (1, .return_, [])]
def kX12_falls : List (Nat × List sx_I) := [(0, kX12_falls_0), (2, kX12_falls_2), (33, kX12_falls_33), (58, kX12_falls_58), (66, kX12_falls_66)]
theorem kX12_falls_c0 : sx_cd kX12_falls 0 = kX12_falls_0 := rfl
theorem kX12_falls_c2 : sx_cd kX12_falls 2 = kX12_falls_2 := rfl
theorem kX12_falls_c33 : sx_cd kX12_falls 33 = kX12_falls_33 := rfl
theorem kX12_falls_c58 : sx_cd kX12_falls 58 = kX12_falls_58 := rfl
theorem kX12_falls_c66 : sx_cd kX12_falls 66 = kX12_falls_66 := rfl
theorem kX12_falls_ok : sx_okM 12 (sx_M 244) kX12_falls = true := by decide +kernel
def kX12_thaws_0 : List sx_I := [(1, .iconst 0, []), (1, .istore_n 3, []), (1, .iconst 0, []), (2, .istore 4, []), (0, .nop, [5])]
def kX12_thaws_5 : List sx_I := [(2, .iload 4, []), (1, .aload_n 0, []), (3, .getfield 103, [12, 65, 2]), (1, .iload_n 1, []), (1, .iaload, []), (3, .if_icmp .ge 122, [135]), (2, .bipush 90, []), (1, .iload_n 1, []), (1, .imul, []), (2, .iload 4, []), (1, .iadd, []), (2, .istore 5, []), (1, .aload_n 0, []), (3, .getfield 91, [12, 61, 2]), (2, .iload 5, []), (1, .iaload, []), (3, .ifCond .ne 6, [38]), (3, .goto 94, [129])]
def kX12_thaws_38 : List sx_I := [(1, .aload_n 0, []), (3, .getfield 94, [12, 62, 2]), (2, .iload 5, []), (1, .iaload, []), (1, .iload_n 2, []), (3, .if_icmp .ge 13, [59]), (1, .aload_n 0, []), (3, .getfield 94, [12, 62, 2]), (2, .iload 5, []), (1, .iaload, []), (3, .goto 4, [60])]
def kX12_thaws_59 : List sx_I := [(1, .iload_n 2, []), (0, .nop, [60])]
def kX12_thaws_60 : List sx_I := [(2, .istore 6, []), (1, .aload_n 0, []), (3, .getfield 94, [12, 62, 2]), (2, .iload 5, []), (1, .dup2, []), (1, .iaload, []), (2, .iload 6, []), (1, .isub, []), (1, .iastore, []), (1, .aload_n 0, []), (3, .getfield 91, [12, 61, 2]), (2, .iload 5, []), (1, .aload_n 0, []), (3, .getfield 91, [12, 61, 2]), (2, .iload 5, []), (1, .iaload, []), (1, .iload_n 2, []), (2, .iload 6, []), (1, .isub, []), (3, .if_icmp .le 18, [109]), (1, .aload_n 0, []), (3, .getfield 91, [12, 61, 2]), (2, .iload 5, []), (1, .iaload, []), (1, .iload_n 2, []), (2, .iload 6, []), (1, .isub, []), (1, .isub, []), (3, .goto 4, [110])]
def kX12_thaws_109 : List sx_I := [(1, .iconst 0, []), (0, .nop, [110])]
def kX12_thaws_110 : List sx_I := [(1, .iastore, []), (1, .iload_n 3, []), (1, .aload_n 0, []), (3, .getfield 91, [12, 61, 2]), (2, .iload 5, []), (1, .iaload, []), (3, .ifCond .ne 7, [126]), (1, .iconst 1, []), (3, .goto 4, [127])]
def kX12_thaws_126 : List sx_I := [(1, .iconst 0, []), (0, .nop, [127])]
def kX12_thaws_127 : List sx_I := [(1, .iadd, []), (1, .istore_n 3, []), (0, .nop, [129])]
def kX12_thaws_129 : List sx_I := [(3, .iinc 4 1, []), (3, .goto (-127), [5])]
def kX12_thaws_135 : List sx_I := [(1, .aload_n 0, []), (3, .getfield 106, [12, 66, 2]), (1, .iload_n 1, []), (1, .aload_n 0, []), (3, .getfield 106, [12, 66, 2]), (1, .iload_n 1, []), (1, .iaload, []), (1, .iload_n 2, []), (3, .if_icmp .le 14, [161]), (1, .aload_n 0, []), (3, .getfield 106, [12, 66, 2]), (1, .iload_n 1, []), (1, .iaload, []), (1, .iload_n 2, []), (1, .isub, []), (3, .goto 4, [162])]
def kX12_thaws_161 : List sx_I := [(1, .iconst 0, []), (0, .nop, [162])]
def kX12_thaws_162 : List sx_I := [(1, .iastore, []), (1, .iload_n 3, []), (1, .ireturn, [0])]
def kX12_thaws : List (Nat × List sx_I) := [(0, kX12_thaws_0), (5, kX12_thaws_5), (38, kX12_thaws_38), (59, kX12_thaws_59), (60, kX12_thaws_60), (109, kX12_thaws_109), (110, kX12_thaws_110), (126, kX12_thaws_126), (127, kX12_thaws_127), (129, kX12_thaws_129), (135, kX12_thaws_135), (161, kX12_thaws_161), (162, kX12_thaws_162)]
theorem kX12_thaws_c0 : sx_cd kX12_thaws 0 = kX12_thaws_0 := rfl
theorem kX12_thaws_c5 : sx_cd kX12_thaws 5 = kX12_thaws_5 := rfl
theorem kX12_thaws_c38 : sx_cd kX12_thaws 38 = kX12_thaws_38 := rfl
theorem kX12_thaws_c59 : sx_cd kX12_thaws 59 = kX12_thaws_59 := rfl
theorem kX12_thaws_c60 : sx_cd kX12_thaws 60 = kX12_thaws_60 := rfl
theorem kX12_thaws_c109 : sx_cd kX12_thaws 109 = kX12_thaws_109 := rfl
theorem kX12_thaws_c110 : sx_cd kX12_thaws 110 = kX12_thaws_110 := rfl
theorem kX12_thaws_c126 : sx_cd kX12_thaws 126 = kX12_thaws_126 := rfl
theorem kX12_thaws_c127 : sx_cd kX12_thaws 127 = kX12_thaws_127 := rfl
theorem kX12_thaws_c129 : sx_cd kX12_thaws 129 = kX12_thaws_129 := rfl
theorem kX12_thaws_c135 : sx_cd kX12_thaws 135 = kX12_thaws_135 := rfl
theorem kX12_thaws_c161 : sx_cd kX12_thaws 161 = kX12_thaws_161 := rfl
theorem kX12_thaws_c162 : sx_cd kX12_thaws 162 = kX12_thaws_162 := rfl
theorem kX12_thaws_ok : sx_okM 12 (sx_M 245) kX12_thaws = true := by decide +kernel
def kX12_hours_0 : List sx_I := [(1, .aload_n 0, []), (1, .iconst 0, []), (3, .putfield 163, [12, 2, 0]), (1, .iload_n 1, []), (1, .iconst 0, []), (2, .bipush 99, []), (3, .invokestatic 208, [4, 178, 3]), (3, .ifCond .eq 17, [29]), (1, .aload_n 0, []), (3, .getfield 109, [12, 67, 2]), (1, .iconst 0, []), (1, .iaload, []), (1, .iload_n 1, []), (1, .iadd, []), (3, .sipush 9999, []), (3, .if_icmp .le 5, [31]), (0, .nop, [29])]
def kX12_hours_29 : List sx_I := [(1, .iconst (-1), []), (1, .ireturn, [0])]
def kX12_hours_31 : List sx_I := [(1, .iconst 0, []), (1, .istore_n 2, []), (0, .nop, [33])]
def kX12_hours_33 : List sx_I := [(1, .iload_n 2, []), (1, .iload_n 1, []), (3, .if_icmp .ge 14, [49]), (1, .aload_n 0, []), (1, .iconst 0, []), (3, .invokevirtual 465, [0, 243, 2, 12]), (3, .iinc 2 1, []), (3, .goto (-13), [33])]
def kX12_hours_49 : List sx_I := [(1, .aload_n 0, []), (1, .iload_n 1, []), (3, .ifCond .le 7, [58]), (1, .iconst 0, []), (3, .goto 7, [62])]
def kX12_hours_58 : List sx_I := [(1, .aload_n 0, []), (3, .getfield 411, [12, 83, 0]), (0, .nop, [62])]
def kX12_hours_62 : List sx_I := [(3, .putfield 411, [12, 83, 0]), (1, .aload_n 0, []), (3, .getfield 109, [12, 67, 2]), (1, .iconst 0, []), (1, .iaload, []), (1, .ireturn, [0])]
def kX12_hours : List (Nat × List sx_I) := [(0, kX12_hours_0), (29, kX12_hours_29), (31, kX12_hours_31), (33, kX12_hours_33), (49, kX12_hours_49), (58, kX12_hours_58), (62, kX12_hours_62)]
theorem kX12_hours_c0 : sx_cd kX12_hours 0 = kX12_hours_0 := rfl
theorem kX12_hours_c29 : sx_cd kX12_hours 29 = kX12_hours_29 := rfl
theorem kX12_hours_c31 : sx_cd kX12_hours 31 = kX12_hours_31 := rfl
theorem kX12_hours_c33 : sx_cd kX12_hours 33 = kX12_hours_33 := rfl
theorem kX12_hours_c49 : sx_cd kX12_hours 49 = kX12_hours_49 := rfl
theorem kX12_hours_c58 : sx_cd kX12_hours 58 = kX12_hours_58 := rfl
theorem kX12_hours_c62 : sx_cd kX12_hours 62 = kX12_hours_62 := rfl
theorem kX12_hours_ok : sx_okM 12 (sx_M 246) kX12_hours = true := by decide +kernel
def kX12_fall_0 : List sx_I := [(1, .aload_n 0, []), (1, .iconst 0, []), (3, .putfield 163, [12, 2, 0]), (1, .iload_n 1, []), (1, .iconst 1, []), (2, .bipush 99, []), (3, .invokestatic 208, [4, 178, 3]), (3, .ifCond .ne 5, [17]), (1, .iconst (-1), []), (1, .ireturn, [0])]
def kX12_fall_17 : List sx_I := [(1, .aload_n 0, []), (1, .iconst 0, []), (1, .iload_n 1, []), (3, .invokevirtual 468, [0, 244, 3, 12]), (1, .aload_n 0, []), (1, .iconst 0, []), (3, .putfield 411, [12, 83, 0]), (1, .aload_n 0, []), (3, .getfield 106, [12, 66, 2]), (1, .iconst 0, []), (1, .iaload, []), (1, .ireturn, [0])]
def kX12_fall : List (Nat × List sx_I) := [(0, kX12_fall_0), (17, kX12_fall_17)]
theorem kX12_fall_c0 : sx_cd kX12_fall 0 = kX12_fall_0 := rfl
theorem kX12_fall_c17 : sx_cd kX12_fall 17 = kX12_fall_17 := rfl
theorem kX12_fall_ok : sx_okM 12 (sx_M 247) kX12_fall = true := by decide +kernel
def kX12_thaw_0 : List sx_I := [(1, .aload_n 0, []), (1, .iconst 0, []), (3, .putfield 163, [12, 2, 0]), (1, .iload_n 1, []), (1, .iconst 1, []), (2, .bipush 99, []), (3, .invokestatic 208, [4, 178, 3]), (3, .ifCond .ne 5, [17]), (1, .iconst (-1), []), (1, .ireturn, [0])]
def kX12_thaw_17 : List sx_I := [(1, .aload_n 0, []), (1, .iconst 0, []), (3, .putfield 411, [12, 83, 0]), (1, .aload_n 0, []), (1, .iconst 0, []), (1, .iload_n 1, []), (3, .invokevirtual 471, [0, 245, 3, 12]), (1, .ireturn, [0])]
def kX12_thaw : List (Nat × List sx_I) := [(0, kX12_thaw_0), (17, kX12_thaw_17)]
theorem kX12_thaw_c0 : sx_cd kX12_thaw 0 = kX12_thaw_0 := rfl
theorem kX12_thaw_c17 : sx_cd kX12_thaw 17 = kX12_thaw_17 := rfl
theorem kX12_thaw_ok : sx_okM 12 (sx_M 248) kX12_thaw = true := by decide +kernel
def kX12_number1_0 : List sx_I := [(1, .aload_n 0, []), (1, .aload_n 0, []), (3, .getfield 404, [12, 73, 1]), (3, .ldc2_w 474, [1103515245, 0]), (1, .lmul, []), (3, .ldc2_w 476, [12345, 0]), (1, .ladd, []), (3, .ldc2_w 478, [2147483647, 0]), (1, .land, []), (3, .putfield 404, [12, 73, 1]), (1, .aload_n 0, []), (3, .getfield 404, [12, 73, 1]), (3, .ldc2_w 480, [65536, 0]), (1, .ldiv, []), (1, .iload_n 1, []), (1, .i2l, []), (1, .lrem, []), (1, .l2i, []), (1, .ireturn, [0])]
def kX12_number1 : List (Nat × List sx_I) := [(0, kX12_number1_0)]
theorem kX12_number1_c0 : sx_cd kX12_number1 0 = kX12_number1_0 := rfl
theorem kX12_number1_ok : sx_okM 12 (sx_M 249) kX12_number1 = true := by decide +kernel
def kX12_goNight_0 : List sx_I := [(1, .aload_n 0, []), (1, .iconst 3, []), (3, .invokevirtual 482, [0, 249, 2, 12]), (1, .istore_n 2, []), (1, .iload_n 2, []), (3, .ifCond .ne 14, [21]), (1, .iconst 1, []), (1, .aload_n 0, []), (2, .bipush 9, []), (3, .invokevirtual 482, [0, 249, 2, 12]), (1, .iadd, []), (3, .goto 19, [37])]
def kX12_goNight_21 : List sx_I := [(1, .iload_n 2, []), (1, .iconst 1, []), (3, .if_icmp .ne 13, [36]), (1, .iconst (-1), []), (1, .aload_n 0, []), (1, .iconst 5, []), (3, .invokevirtual 482, [0, 249, 2, 12]), (1, .isub, []), (3, .goto 4, [37])]
def kX12_goNight_36 : List sx_I := [(1, .iconst 0, []), (0, .nop, [37])]
def kX12_goNight_37 : List sx_I := [(1, .istore_n 3, []), (1, .iload_n 3, []), (3, .ifCond .le 9, [48]), (1, .aload_n 0, []), (1, .iload_n 1, []), (1, .iload_n 3, []), (3, .invokevirtual 468, [0, 244, 3, 12]), (0, .nop, [48])]
def kX12_goNight_48 : List sx_I := [(1, .iload_n 3, []), (3, .ifCond .ge 11, [60]), (1, .aload_n 0, []), (1, .iload_n 1, []), (1, .iload_n 3, []), (1, .ineg, []), (3, .invokevirtual 471, [0, 245, 3, 12]), (1, .pop, []), (0, .nop, [60])]
def kX12_goNight_60 : List sx_I := [(1, .aload_n 0, []), (1, .iload_n 1, []), (3, .invokevirtual 465, [0, 243, 2, 12]), (1, .iload_n 3, []), (1, .ireturn, [0])]
def kX12_goNight : List (Nat × List sx_I) := [(0, kX12_goNight_0), (21, kX12_goNight_21), (36, kX12_goNight_36), (37, kX12_goNight_37), (48, kX12_goNight_48), (60, kX12_goNight_60)]
theorem kX12_goNight_c0 : sx_cd kX12_goNight 0 = kX12_goNight_0 := rfl
theorem kX12_goNight_c21 : sx_cd kX12_goNight 21 = kX12_goNight_21 := rfl
theorem kX12_goNight_c36 : sx_cd kX12_goNight 36 = kX12_goNight_36 := rfl
theorem kX12_goNight_c37 : sx_cd kX12_goNight 37 = kX12_goNight_37 := rfl
theorem kX12_goNight_c48 : sx_cd kX12_goNight 48 = kX12_goNight_48 := rfl
theorem kX12_goNight_c60 : sx_cd kX12_goNight 60 = kX12_goNight_60 := rfl
theorem kX12_goNight_ok : sx_okM 12 (sx_M 250) kX12_goNight = true := by decide +kernel
def kX12_night_0 : List sx_I := [(1, .aload_n 0, []), (1, .iconst 0, []), (3, .putfield 163, [12, 2, 0]), (1, .aload_n 0, []), (3, .getfield 109, [12, 67, 2]), (1, .iconst 0, []), (1, .iaload, []), (3, .sipush 9999, []), (3, .if_icmp .ne 6, [20]), (2, .bipush (-100), []), (1, .ireturn, [0])]
def kX12_night_20 : List sx_I := [(1, .aload_n 0, []), (1, .iconst 0, []), (3, .putfield 411, [12, 83, 0]), (1, .aload_n 0, []), (1, .iconst 0, []), (3, .invokevirtual 485, [0, 250, 2, 12]), (1, .ireturn, [0])]
def kX12_night : List (Nat × List sx_I) := [(0, kX12_night_0), (20, kX12_night_20)]
theorem kX12_night_c0 : sx_cd kX12_night 0 = kX12_night_0 := rfl
theorem kX12_night_c20 : sx_cd kX12_night 20 = kX12_night_20 := rfl
theorem kX12_night_ok : sx_okM 12 (sx_M 251) kX12_night = true := by decide +kernel
def kX12_winter_0 : List sx_I := [(1, .aload_n 0, []), (1, .iconst 0, []), (3, .putfield 163, [12, 2, 0]), (1, .iconst 0, []), (1, .istore_n 1, []), (0, .nop, [7])]
def kX12_winter_7 : List sx_I := [(1, .iload_n 1, []), (1, .aload_n 0, []), (3, .getfield 271, [12, 14, 0]), (3, .if_icmp .ge 24, [36]), (1, .aload_n 0, []), (3, .getfield 121, [12, 71, 2]), (1, .iload_n 1, []), (1, .dup2, []), (1, .iaload, []), (1, .aload_n 0, []), (1, .iconst 0, []), (1, .iload_n 1, []), (3, .invokevirtual 488, [0, 234, 3, 12]), (1, .iadd, []), (1, .iastore, []), (3, .iinc 1 1, []), (3, .goto (-26), [7])]
def kX12_winter_36 : List sx_I := [(1, .aload_n 0, []), (3, .invokevirtual 398, [0, 223, 1, 12]), (1, .aload_n 0, []), (1, .iconst 0, []), (3, .putfield 411, [12, 83, 0]), (1, .aload_n 0, []), (1, .dup, []), (3, .getfield 401, [12, 72, 0]), (1, .iconst 1, []), (1, .iadd, []), (3, .putfield 401, [12, 72, 0]), (1, .aload_n 0, []), (3, .getfield 401, [12, 72, 0]), (1, .ireturn, [0])]
def kX12_winter : List (Nat × List sx_I) := [(0, kX12_winter_0), (7, kX12_winter_7), (36, kX12_winter_36)]
theorem kX12_winter_c0 : sx_cd kX12_winter 0 = kX12_winter_0 := rfl
theorem kX12_winter_c7 : sx_cd kX12_winter 7 = kX12_winter_7 := rfl
theorem kX12_winter_c36 : sx_cd kX12_winter 36 = kX12_winter_36 := rfl
theorem kX12_winter_ok : sx_okM 12 (sx_M 252) kX12_winter = true := by decide +kernel
def kX12_read_0 : List sx_I := [(1, .aload_n 0, []), (1, .iconst 0, []), (3, .putfield 163, [12, 2, 0]), (1, .aload_n 0, []), (1, .iload_n 1, []), (3, .invokevirtual 451, [0, 219, 2, 12]), (3, .ifCond .ne 5, [15]), (1, .iconst (-1), []), (1, .ireturn, [0])]
def kX12_read_15 : List sx_I := [(1, .aload_n 0, []), (1, .iconst 0, []), (1, .iload_n 1, []), (3, .invokevirtual 435, [0, 233, 3, 12]), (1, .istore_n 2, []), (1, .iload_n 2, []), (3, .ifCond .ge 8, [31]), (2, .bipush (-2), []), (3, .goto 23, [51])]
def kX12_read_31 : List sx_I := [(1, .aload_n 0, []), (3, .getfield 100, [12, 64, 2]), (1, .iload_n 2, []), (1, .baload, [4]), (3, .ifCond .eq 8, [45]), (2, .bipush (-3), []), (3, .goto 9, [51])]
def kX12_read_45 : List sx_I := [(1, .aload_n 0, []), (3, .getfield 79, [12, 57, 2]), (1, .iload_n 2, []), (1, .iaload, []), (0, .nop, [51])]
def kX12_read_51 : List sx_I := [(1, .ireturn, [0])]
def kX12_read : List (Nat × List sx_I) := [(0, kX12_read_0), (15, kX12_read_15), (31, kX12_read_31), (45, kX12_read_45), (51, kX12_read_51)]
theorem kX12_read_c0 : sx_cd kX12_read 0 = kX12_read_0 := rfl
theorem kX12_read_c15 : sx_cd kX12_read 15 = kX12_read_15 := rfl
theorem kX12_read_c31 : sx_cd kX12_read 31 = kX12_read_31 := rfl
theorem kX12_read_c45 : sx_cd kX12_read 45 = kX12_read_45 := rfl
theorem kX12_read_c51 : sx_cd kX12_read 51 = kX12_read_51 := rfl
theorem kX12_read_ok : sx_okM 12 (sx_M 253) kX12_read = true := by decide +kernel
def kX12_score_0 : List sx_I := [(1, .aload_n 0, []), (1, .iconst 0, []), (3, .putfield 163, [12, 2, 0]), (1, .aload_n 0, []), (1, .iload_n 1, []), (3, .invokevirtual 491, [0, 221, 2, 12]), (3, .ifCond .eq 12, [22]), (1, .iload_n 2, []), (1, .iconst 0, []), (1, .iconst 1, []), (3, .invokestatic 208, [4, 178, 3]), (3, .ifCond .ne 5, [24]), (0, .nop, [22])]
def kX12_score_22 : List sx_I := [(1, .iconst (-1), []), (1, .ireturn, [0])]
def kX12_score_24 : List sx_I := [(1, .iload_n 2, []), (3, .ifCond .ne 12, [37]), (1, .aload_n 0, []), (1, .iconst 0, []), (1, .iload_n 1, []), (3, .invokevirtual 488, [0, 234, 3, 12]), (3, .goto 9, [43])]
def kX12_score_37 : List sx_I := [(1, .aload_n 0, []), (3, .getfield 121, [12, 71, 2]), (1, .iload_n 1, []), (1, .iaload, []), (0, .nop, [43])]
def kX12_score_43 : List sx_I := [(1, .ireturn, [0])]
def kX12_score : List (Nat × List sx_I) := [(0, kX12_score_0), (22, kX12_score_22), (24, kX12_score_24), (37, kX12_score_37), (43, kX12_score_43)]
theorem kX12_score_c0 : sx_cd kX12_score 0 = kX12_score_0 := rfl
theorem kX12_score_c22 : sx_cd kX12_score 22 = kX12_score_22 := rfl
theorem kX12_score_c24 : sx_cd kX12_score 24 = kX12_score_24 := rfl
theorem kX12_score_c37 : sx_cd kX12_score 37 = kX12_score_37 := rfl
theorem kX12_score_c43 : sx_cd kX12_score 43 = kX12_score_43 := rfl
theorem kX12_score_ok : sx_okM 12 (sx_M 254) kX12_score = true := by decide +kernel
def kX12_ahead_0 : List sx_I := [(1, .aload_n 0, []), (1, .iconst 0, []), (3, .putfield 163, [12, 2, 0]), (1, .iconst (-1), []), (1, .istore_n 1, []), (1, .iconst 0, []), (1, .istore_n 2, []), (1, .iconst 0, []), (1, .istore_n 3, []), (0, .nop, [11])]
def kX12_ahead_11 : List sx_I := [(1, .iload_n 3, []), (1, .aload_n 0, []), (3, .getfield 271, [12, 14, 0]), (3, .if_icmp .ge 42, [58]), (1, .aload_n 0, []), (3, .getfield 121, [12, 71, 2]), (1, .iload_n 3, []), (1, .iaload, []), (1, .aload_n 0, []), (1, .iconst 0, []), (1, .iload_n 3, []), (3, .invokevirtual 488, [0, 234, 3, 12]), (1, .iadd, []), (2, .istore 4, []), (1, .iload_n 1, []), (3, .ifCond .lt 12, [47]), (2, .iload 4, []), (1, .iload_n 2, []), (3, .if_icmp .gt 6, [47]), (3, .goto 8, [52])]
def kX12_ahead_47 : List sx_I := [(1, .iload_n 3, []), (1, .istore_n 1, []), (2, .iload 4, []), (1, .istore_n 2, []), (0, .nop, [52])]
def kX12_ahead_52 : List sx_I := [(3, .iinc 3 1, []), (3, .goto (-44), [11])]
def kX12_ahead_58 : List sx_I := [(1, .iload_n 1, []), (1, .ireturn, [0])]
def kX12_ahead : List (Nat × List sx_I) := [(0, kX12_ahead_0), (11, kX12_ahead_11), (47, kX12_ahead_47), (52, kX12_ahead_52), (58, kX12_ahead_58)]
theorem kX12_ahead_c0 : sx_cd kX12_ahead 0 = kX12_ahead_0 := rfl
theorem kX12_ahead_c11 : sx_cd kX12_ahead 11 = kX12_ahead_11 := rfl
theorem kX12_ahead_c47 : sx_cd kX12_ahead 47 = kX12_ahead_47 := rfl
theorem kX12_ahead_c52 : sx_cd kX12_ahead 52 = kX12_ahead_52 := rfl
theorem kX12_ahead_c58 : sx_cd kX12_ahead 58 = kX12_ahead_58 := rfl
theorem kX12_ahead_ok : sx_okM 12 (sx_M 255) kX12_ahead = true := by decide +kernel
def kX12_claimed_0 : List sx_I := [(1, .aload_n 0, []), (3, .getfield 127, [12, 76, 2]), (1, .iconst 4, []), (1, .aload_n 0, []), (3, .getfield 408, [12, 74, 0]), (1, .imul, []), (1, .iload_n 1, []), (1, .iastore, []), (1, .aload_n 0, []), (3, .getfield 127, [12, 76, 2]), (1, .iconst 4, []), (1, .aload_n 0, []), (3, .getfield 408, [12, 74, 0]), (1, .imul, []), (1, .iconst 1, []), (1, .iadd, []), (1, .iload_n 2, []), (1, .iastore, []), (1, .aload_n 0, []), (3, .getfield 127, [12, 76, 2]), (1, .iconst 4, []), (1, .aload_n 0, []), (3, .getfield 408, [12, 74, 0]), (1, .imul, []), (1, .iconst 2, []), (1, .iadd, []), (1, .iload_n 3, []), (1, .iastore, []), (1, .aload_n 0, []), (3, .getfield 127, [12, 76, 2]), (1, .iconst 4, []), (1, .aload_n 0, []), (3, .getfield 408, [12, 74, 0]), (1, .imul, []), (1, .iconst 3, []), (1, .iadd, []), (2, .iload 4, []), (1, .iastore, []), (1, .aload_n 0, []), (1, .dup, []), (3, .getfield 408, [12, 74, 0]), (1, .iconst 1, []), (1, .iadd, []), (3, .putfield 408, [12, 74, 0]), (1, .aload_n 0, []), (3, .getfield 408, [12, 74, 0]), (1, .iconst 1, []), (1, .isub, []), (1, .ireturn, [0])]
def kX12_claimed : List (Nat × List sx_I) := [(0, kX12_claimed_0)]
theorem kX12_claimed_c0 : sx_cd kX12_claimed 0 = kX12_claimed_0 := rfl
theorem kX12_claimed_ok : sx_okM 12 (sx_M 256) kX12_claimed = true := by decide +kernel
def kX12_claim_0 : List sx_I := [(1, .aload_n 0, []), (1, .iconst 0, []), (3, .putfield 163, [12, 2, 0]), (1, .aload_n 0, []), (3, .getfield 408, [12, 74, 0]), (2, .bipush 24, []), (3, .if_icmp .eq 42, [53]), (1, .aload_n 0, []), (1, .iload_n 1, []), (3, .invokevirtual 451, [0, 219, 2, 12]), (3, .ifCond .eq 34, [53]), (1, .aload_n 0, []), (1, .iload_n 2, []), (3, .invokevirtual 445, [0, 220, 2, 12]), (3, .ifCond .eq 26, [53]), (1, .iload_n 3, []), (1, .iconst 0, []), (3, .sipush 9999, []), (3, .invokestatic 208, [4, 178, 3]), (3, .ifCond .eq 15, [53]), (2, .iload 4, []), (1, .iload_n 3, []), (3, .sipush 9999, []), (3, .invokestatic 208, [4, 178, 3]), (3, .ifCond .ne 7, [57]), (0, .nop, [53])]
def kX12_claim_53 : List sx_I := [(1, .iconst (-1), []), (3, .goto 12, [66])]
def kX12_claim_57 : List sx_I := [(1, .aload_n 0, []), (1, .iload_n 1, []), (1, .iload_n 2, []), (1, .iload_n 3, []), (2, .iload 4, []), (3, .invokevirtual 494, [0, 256, 5, 12]), (0, .nop, [66])]
def kX12_claim_66 : List sx_I := [(1, .ireturn, [0])]
def kX12_claim : List (Nat × List sx_I) := [(0, kX12_claim_0), (53, kX12_claim_53), (57, kX12_claim_57), (66, kX12_claim_66)]
theorem kX12_claim_c0 : sx_cd kX12_claim 0 = kX12_claim_0 := rfl
theorem kX12_claim_c53 : sx_cd kX12_claim 53 = kX12_claim_53 := rfl
theorem kX12_claim_c57 : sx_cd kX12_claim 57 = kX12_claim_57 := rfl
theorem kX12_claim_c66 : sx_cd kX12_claim 66 = kX12_claim_66 := rfl
theorem kX12_claim_ok : sx_okM 12 (sx_M 257) kX12_claim = true := by decide +kernel
def kX12_strike_0 : List sx_I := [(1, .aload_n 0, []), (1, .iconst 0, []), (3, .putfield 163, [12, 2, 0]), (1, .aload_n 0, []), (3, .getfield 408, [12, 74, 0]), (2, .bipush 24, []), (3, .if_icmp .eq 15, [26]), (1, .iload_n 1, []), (3, .ifCond .lt 11, [26]), (1, .iload_n 1, []), (1, .aload_n 0, []), (3, .getfield 408, [12, 74, 0]), (3, .if_icmp .lt 7, [30]), (0, .nop, [26])]
def kX12_strike_26 : List sx_I := [(1, .iconst (-1), []), (3, .goto 11, [38])]
def kX12_strike_30 : List sx_I := [(1, .aload_n 0, []), (1, .iconst 0, []), (1, .iconst (-1), []), (1, .iload_n 1, []), (1, .iconst 0, []), (3, .invokevirtual 494, [0, 256, 5, 12]), (0, .nop, [38])]
def kX12_strike_38 : List sx_I := [(1, .ireturn, [0])]
def kX12_strike : List (Nat × List sx_I) := [(0, kX12_strike_0), (26, kX12_strike_26), (30, kX12_strike_30), (38, kX12_strike_38)]
theorem kX12_strike_c0 : sx_cd kX12_strike 0 = kX12_strike_0 := rfl
theorem kX12_strike_c26 : sx_cd kX12_strike 26 = kX12_strike_26 := rfl
theorem kX12_strike_c30 : sx_cd kX12_strike 30 = kX12_strike_30 := rfl
theorem kX12_strike_c38 : sx_cd kX12_strike 38 = kX12_strike_38 := rfl
theorem kX12_strike_ok : sx_okM 12 (sx_M 258) kX12_strike = true := by decide +kernel
def kX12_known_0 : List sx_I := [(1, .aload_n 0, []), (1, .iconst 0, []), (3, .putfield 163, [12, 2, 0]), (1, .iload_n 1, []), (1, .iconst (-1), []), (1, .aload_n 0, []), (3, .getfield 408, [12, 74, 0]), (3, .invokestatic 208, [4, 178, 3]), (3, .ifCond .ne 5, [19]), (1, .iconst 0, []), (1, .ireturn, [1])]
def kX12_known_19 : List sx_I := [(1, .aload_n 0, []), (1, .iload_n 1, []), (3, .putfield 124, [12, 75, 0]), (1, .iconst 1, []), (1, .ireturn, [1])]
def kX12_known : List (Nat × List sx_I) := [(0, kX12_known_0), (19, kX12_known_19)]
theorem kX12_known_c0 : sx_cd kX12_known 0 = kX12_known_0 := rfl
theorem kX12_known_c19 : sx_cd kX12_known 19 = kX12_known_19 := rfl
theorem kX12_known_ok : sx_okM 12 (sx_M 259) kX12_known = true := by decide +kernel
def kX12_knownBy_0 : List sx_I := [(1, .aload_n 0, []), (3, .getfield 124, [12, 75, 0]), (3, .ifCond .ge 10, [14]), (1, .aload_n 0, []), (3, .getfield 408, [12, 74, 0]), (3, .goto 7, [18])]
def kX12_knownBy_14 : List sx_I := [(1, .aload_n 0, []), (3, .getfield 124, [12, 75, 0]), (0, .nop, [18])]
def kX12_knownBy_18 : List sx_I := [(1, .ireturn, [0])]
def kX12_knownBy : List (Nat × List sx_I) := [(0, kX12_knownBy_0), (14, kX12_knownBy_14), (18, kX12_knownBy_18)]
theorem kX12_knownBy_c0 : sx_cd kX12_knownBy 0 = kX12_knownBy_0 := rfl
theorem kX12_knownBy_c14 : sx_cd kX12_knownBy 14 = kX12_knownBy_14 := rfl
theorem kX12_knownBy_c18 : sx_cd kX12_knownBy 18 = kX12_knownBy_18 := rfl
theorem kX12_knownBy_ok : sx_okM 12 (sx_M 260) kX12_knownBy = true := by decide +kernel
def kX12_judged_0 : List sx_I := [(1, .aload_n 0, []), (1, .iconst 0, []), (3, .putfield 163, [12, 2, 0]), (1, .iconst 0, []), (1, .istore_n 1, []), (0, .nop, [7])]
def kX12_judged_7 : List sx_I := [(1, .iload_n 1, []), (1, .aload_n 0, []), (3, .invokevirtual 497, [0, 260, 1, 12]), (3, .if_icmp .ge 16, [28]), (1, .aload_n 0, []), (3, .getfield 130, [12, 77, 2]), (1, .iload_n 1, []), (1, .iconst 1, []), (1, .bastore, [4]), (3, .iinc 1 1, []), (3, .goto (-18), [7])]
def kX12_judged_28 : List sx_I := [(1, .aload_n 0, []), (3, .invokevirtual 497, [0, 260, 1, 12]), (1, .iconst 1, []), (1, .isub, []), (1, .istore_n 1, []), (0, .nop, [35])]
def kX12_judged_35 : List sx_I := [(1, .iload_n 1, []), (3, .ifCond .lt 47, [83]), (1, .aload_n 0, []), (3, .getfield 130, [12, 77, 2]), (1, .iload_n 1, []), (1, .baload, [4]), (3, .ifCond .eq 32, [77]), (1, .aload_n 0, []), (3, .getfield 127, [12, 76, 2]), (1, .iconst 4, []), (1, .iload_n 1, []), (1, .imul, []), (1, .iconst 1, []), (1, .iadd, []), (1, .iaload, []), (3, .ifCond .ge 19, [77]), (1, .aload_n 0, []), (3, .getfield 130, [12, 77, 2]), (1, .aload_n 0, []), (3, .getfield 127, [12, 76, 2]), (1, .iconst 4, []), (1, .iload_n 1, []), (1, .imul, []), (1, .iconst 2, []), (1, .iadd, []), (1, .iaload, []), (1, .iconst 0, []), (1, .bastore, [4]), (0, .nop, [77])]
def kX12_judged_77 : List sx_I := [(3, .iinc 1 (-1), []), (3, .goto (-45), [35])]
def kX12_judged_83 : List sx_I := [(1, .iconst 0, []), (1, .istore_n 1, []), (0, .nop, [85])]
def kX12_judged_85 : List sx_I := [(1, .iload_n 1, []), (1, .aload_n 0, []), (3, .invokevirtual 497, [0, 260, 1, 12]), (3, .if_icmp .ge 124, [214]), (1, .aload_n 0, []), (3, .getfield 130, [12, 77, 2]), (1, .iload_n 1, []), (1, .baload, [4]), (3, .ifCond .eq 109, [208]), (1, .aload_n 0, []), (3, .getfield 127, [12, 76, 2]), (1, .iconst 4, []), (1, .iload_n 1, []), (1, .imul, []), (1, .iconst 1, []), (1, .iadd, []), (1, .iaload, []), (3, .ifCond .ge 6, [118]), (3, .goto 93, [208])]
def kX12_judged_118 : List sx_I := [(1, .aload_n 0, []), (1, .iconst 0, []), (1, .aload_n 0, []), (3, .getfield 127, [12, 76, 2]), (1, .iconst 4, []), (1, .iload_n 1, []), (1, .imul, []), (1, .iaload, []), (3, .invokevirtual 435, [0, 233, 3, 12]), (1, .istore_n 2, []), (1, .iload_n 2, []), (3, .ifCond .lt 67, [200]), (1, .aload_n 0, []), (3, .getfield 100, [12, 64, 2]), (1, .iload_n 2, []), (1, .baload, [4]), (3, .ifCond .ne 58, [200]), (1, .aload_n 0, []), (3, .getfield 79, [12, 57, 2]), (1, .iload_n 2, []), (1, .iaload, []), (1, .aload_n 0, []), (3, .getfield 127, [12, 76, 2]), (1, .iconst 4, []), (1, .iload_n 1, []), (1, .imul, []), (1, .iconst 1, []), (1, .iadd, []), (1, .iaload, []), (3, .if_icmp .ne 39, [200]), (1, .aload_n 0, []), (3, .getfield 88, [12, 60, 2]), (1, .iload_n 2, []), (1, .iaload, []), (1, .aload_n 0, []), (3, .getfield 127, [12, 76, 2]), (1, .iconst 4, []), (1, .iload_n 1, []), (1, .imul, []), (1, .iconst 2, []), (1, .iadd, []), (1, .iaload, []), (1, .aload_n 0, []), (3, .getfield 127, [12, 76, 2]), (1, .iconst 4, []), (1, .iload_n 1, []), (1, .imul, []), (1, .iconst 3, []), (1, .iadd, []), (1, .iaload, []), (3, .invokestatic 208, [4, 178, 3]), (3, .ifCond .eq 7, [200]), (1, .iconst 1, []), (3, .goto 4, [201])]
def kX12_judged_200 : List sx_I := [(1, .iconst 0, []), (0, .nop, [201])]
def kX12_judged_201 : List sx_I := [(1, .istore_n 3, []), (1, .iload_n 3, []), (3, .ifCond .ne 5, [208]), (1, .iload_n 1, []), (1, .ireturn, [0])]
def kX12_judged_208 : List sx_I := [(3, .iinc 1 1, []), (3, .goto (-126), [85])]
def kX12_judged_214 : List sx_I := [(1, .iconst (-1), []), (1, .ireturn, [0])]
def kX12_judged : List (Nat × List sx_I) := [(0, kX12_judged_0), (7, kX12_judged_7), (28, kX12_judged_28), (35, kX12_judged_35), (77, kX12_judged_77), (83, kX12_judged_83), (85, kX12_judged_85), (118, kX12_judged_118), (200, kX12_judged_200), (201, kX12_judged_201), (208, kX12_judged_208), (214, kX12_judged_214)]
theorem kX12_judged_c0 : sx_cd kX12_judged 0 = kX12_judged_0 := rfl
theorem kX12_judged_c7 : sx_cd kX12_judged 7 = kX12_judged_7 := rfl
theorem kX12_judged_c28 : sx_cd kX12_judged 28 = kX12_judged_28 := rfl
theorem kX12_judged_c35 : sx_cd kX12_judged 35 = kX12_judged_35 := rfl
theorem kX12_judged_c77 : sx_cd kX12_judged 77 = kX12_judged_77 := rfl
theorem kX12_judged_c83 : sx_cd kX12_judged 83 = kX12_judged_83 := rfl
theorem kX12_judged_c85 : sx_cd kX12_judged 85 = kX12_judged_85 := rfl
theorem kX12_judged_c118 : sx_cd kX12_judged 118 = kX12_judged_118 := rfl
theorem kX12_judged_c200 : sx_cd kX12_judged 200 = kX12_judged_200 := rfl
theorem kX12_judged_c201 : sx_cd kX12_judged 201 = kX12_judged_201 := rfl
theorem kX12_judged_c208 : sx_cd kX12_judged 208 = kX12_judged_208 := rfl
theorem kX12_judged_c214 : sx_cd kX12_judged 214 = kX12_judged_214 := rfl
theorem kX12_judged_ok : sx_okM 12 (sx_M 261) kX12_judged = true := by decide +kernel
def kX12_before_0 : List sx_I := [(1, .iload_n 1, []), (1, .iconst 1, []), (1, .isub, []), (1, .istore_n 2, []), (0, .nop, [4])]
def kX12_before_4 : List sx_I := [(1, .iload_n 2, []), (3, .ifCond .lt 65, [70]), (1, .aload_n 0, []), (3, .getfield 91, [12, 61, 2]), (1, .iload_n 2, []), (1, .iaload, []), (3, .ifCond .le 50, [64]), (1, .aload_n 0, []), (3, .getfield 79, [12, 57, 2]), (1, .iload_n 2, []), (1, .iaload, []), (1, .aload_n 0, []), (3, .getfield 79, [12, 57, 2]), (1, .iload_n 1, []), (1, .iaload, []), (3, .if_icmp .ne 35, [64]), (1, .aload_n 0, []), (1, .aload_n 0, []), (3, .getfield 82, [12, 58, 2]), (1, .iload_n 2, []), (1, .iaload, []), (1, .aload_n 0, []), (3, .getfield 82, [12, 58, 2]), (1, .iload_n 1, []), (1, .iaload, []), (3, .invokevirtual 421, [0, 227, 3, 12]), (1, .aload_n 0, []), (3, .getfield 38, [12, 36, 2]), (1, .aload_n 0, []), (3, .getfield 79, [12, 57, 2]), (1, .iload_n 1, []), (1, .iaload, []), (1, .iaload, []), (3, .if_icmp .gt 5, [64]), (1, .iload_n 2, []), (1, .ireturn, [0])]
def kX12_before_64 : List sx_I := [(3, .iinc 2 (-1), []), (3, .goto (-63), [4])]
def kX12_before_70 : List sx_I := [(1, .iconst (-1), []), (1, .ireturn, [0])]
def kX12_before : List (Nat × List sx_I) := [(0, kX12_before_0), (4, kX12_before_4), (64, kX12_before_64), (70, kX12_before_70)]
theorem kX12_before_c0 : sx_cd kX12_before 0 = kX12_before_0 := rfl
theorem kX12_before_c4 : sx_cd kX12_before 4 = kX12_before_4 := rfl
theorem kX12_before_c64 : sx_cd kX12_before 64 = kX12_before_64 := rfl
theorem kX12_before_c70 : sx_cd kX12_before 70 = kX12_before_70 := rfl
theorem kX12_before_ok : sx_okM 12 (sx_M 262) kX12_before = true := by decide +kernel
def kX12_closes_0 : List sx_I := [(1, .aload_n 0, []), (3, .getfield 38, [12, 36, 2]), (1, .aload_n 0, []), (3, .getfield 79, [12, 57, 2]), (1, .iload_n 1, []), (1, .iaload, []), (1, .iaload, []), (1, .istore_n 2, []), (1, .aload_n 0, []), (1, .iload_n 1, []), (3, .invokevirtual 500, [0, 262, 2, 12]), (3, .ifCond .lt 5, [22]), (1, .iconst 1, []), (1, .ireturn, [1])]
def kX12_closes_22 : List sx_I := [(1, .iconst 0, []), (1, .istore_n 3, []), (0, .nop, [24])]
def kX12_closes_24 : List sx_I := [(1, .iload_n 3, []), (1, .aload_n 0, []), (3, .invokevirtual 395, [0, 218, 1, 12]), (3, .if_icmp .ge 50, [79]), (1, .aload_n 0, []), (3, .getfield 20, [12, 30, 2]), (1, .iload_n 3, []), (1, .iaload, []), (3, .ifCond .ne 18, [56]), (1, .iload_n 3, []), (1, .aload_n 0, []), (3, .getfield 41, [12, 37, 2]), (1, .aload_n 0, []), (3, .getfield 79, [12, 57, 2]), (1, .iload_n 1, []), (1, .iaload, []), (1, .iaload, []), (3, .if_icmp .ne 20, [73]), (0, .nop, [56])]
def kX12_closes_56 : List sx_I := [(1, .aload_n 0, []), (1, .iload_n 3, []), (1, .aload_n 0, []), (3, .getfield 82, [12, 58, 2]), (1, .iload_n 1, []), (1, .iaload, []), (3, .invokevirtual 421, [0, 227, 3, 12]), (1, .iload_n 2, []), (3, .if_icmp .gt 5, [73]), (1, .iconst 1, []), (1, .ireturn, [1])]
def kX12_closes_73 : List sx_I := [(3, .iinc 3 1, []), (3, .goto (-52), [24])]
def kX12_closes_79 : List sx_I := [(1, .iconst 0, []), (1, .ireturn, [1])]
def kX12_closes : List (Nat × List sx_I) := [(0, kX12_closes_0), (22, kX12_closes_22), (24, kX12_closes_24), (56, kX12_closes_56), (73, kX12_closes_73), (79, kX12_closes_79)]
theorem kX12_closes_c0 : sx_cd kX12_closes 0 = kX12_closes_0 := rfl
theorem kX12_closes_c22 : sx_cd kX12_closes 22 = kX12_closes_22 := rfl
theorem kX12_closes_c24 : sx_cd kX12_closes 24 = kX12_closes_24 := rfl
theorem kX12_closes_c56 : sx_cd kX12_closes 56 = kX12_closes_56 := rfl
theorem kX12_closes_c73 : sx_cd kX12_closes 73 = kX12_closes_73 := rfl
theorem kX12_closes_c79 : sx_cd kX12_closes 79 = kX12_closes_79 := rfl
theorem kX12_closes_ok : sx_okM 12 (sx_M 263) kX12_closes = true := by decide +kernel
def kX12_forgedAt_0 : List sx_I := [(1, .iconst 0, []), (1, .istore_n 2, []), (1, .iconst 0, []), (1, .istore_n 3, []), (0, .nop, [4])]
def kX12_forgedAt_4 : List sx_I := [(1, .iload_n 3, []), (1, .aload_n 0, []), (3, .getfield 103, [12, 65, 2]), (1, .iconst 0, []), (1, .iaload, []), (3, .if_icmp .ge 54, [65]), (1, .aload_n 0, []), (1, .iconst 0, []), (1, .aload_n 0, []), (3, .getfield 82, [12, 58, 2]), (1, .iload_n 3, []), (1, .iaload, []), (3, .invokevirtual 435, [0, 233, 3, 12]), (1, .iload_n 3, []), (3, .if_icmp .ne 33, [59]), (1, .aload_n 0, []), (3, .getfield 100, [12, 64, 2]), (1, .iload_n 3, []), (1, .baload, [4]), (3, .ifCond .ne 24, [59]), (1, .aload_n 0, []), (1, .iload_n 3, []), (3, .invokevirtual 503, [0, 263, 2, 12]), (3, .ifCond .eq 6, [49]), (3, .goto 13, [59])]
def kX12_forgedAt_49 : List sx_I := [(1, .iload_n 2, []), (1, .iload_n 1, []), (3, .if_icmp .ne 5, [56]), (1, .iload_n 3, []), (1, .ireturn, [0])]
def kX12_forgedAt_56 : List sx_I := [(3, .iinc 2 1, []), (0, .nop, [59])]
def kX12_forgedAt_59 : List sx_I := [(3, .iinc 3 1, []), (3, .goto (-58), [4])]
def kX12_forgedAt_65 : List sx_I := [(1, .iload_n 1, []), (3, .ifCond .ge 7, [73]), (1, .iload_n 2, []), (3, .goto 5, [75])]
def kX12_forgedAt_73 : List sx_I := [(2, .bipush (-2), []), (0, .nop, [75])]
def kX12_forgedAt_75 : List sx_I := [(1, .ireturn, [0])]
def kX12_forgedAt : List (Nat × List sx_I) := [(0, kX12_forgedAt_0), (4, kX12_forgedAt_4), (49, kX12_forgedAt_49), (56, kX12_forgedAt_56), (59, kX12_forgedAt_59), (65, kX12_forgedAt_65), (73, kX12_forgedAt_73), (75, kX12_forgedAt_75)]
theorem kX12_forgedAt_c0 : sx_cd kX12_forgedAt 0 = kX12_forgedAt_0 := rfl
theorem kX12_forgedAt_c4 : sx_cd kX12_forgedAt 4 = kX12_forgedAt_4 := rfl
theorem kX12_forgedAt_c49 : sx_cd kX12_forgedAt 49 = kX12_forgedAt_49 := rfl
theorem kX12_forgedAt_c56 : sx_cd kX12_forgedAt 56 = kX12_forgedAt_56 := rfl
theorem kX12_forgedAt_c59 : sx_cd kX12_forgedAt 59 = kX12_forgedAt_59 := rfl
theorem kX12_forgedAt_c65 : sx_cd kX12_forgedAt 65 = kX12_forgedAt_65 := rfl
theorem kX12_forgedAt_c73 : sx_cd kX12_forgedAt 73 = kX12_forgedAt_73 := rfl
theorem kX12_forgedAt_c75 : sx_cd kX12_forgedAt 75 = kX12_forgedAt_75 := rfl
theorem kX12_forgedAt_ok : sx_okM 12 (sx_M 264) kX12_forgedAt = true := by decide +kernel
def kX12_forged_0 : List sx_I := [(1, .aload_n 0, []), (1, .iconst 0, []), (3, .putfield 163, [12, 2, 0]), (1, .aload_n 0, []), (1, .iconst (-1), []), (3, .invokevirtual 506, [0, 264, 2, 12]), (1, .ireturn, [0])]
def kX12_forged : List (Nat × List sx_I) := [(0, kX12_forged_0)]
theorem kX12_forged_c0 : sx_cd kX12_forged 0 = kX12_forged_0 := rfl
theorem kX12_forged_ok : sx_okM 12 (sx_M 265) kX12_forged = true := by decide +kernel
def kX12_forgery_0 : List sx_I := [(1, .aload_n 0, []), (1, .iconst 0, []), (3, .putfield 163, [12, 2, 0]), (1, .iload_n 1, []), (3, .ifCond .ge 7, [13]), (1, .iconst (-1), []), (3, .goto 8, [18])]
def kX12_forgery_13 : List sx_I := [(1, .aload_n 0, []), (1, .iload_n 1, []), (3, .invokevirtual 506, [0, 264, 2, 12]), (0, .nop, [18])]
def kX12_forgery_18 : List sx_I := [(1, .ireturn, [0])]
def kX12_forgery : List (Nat × List sx_I) := [(0, kX12_forgery_0), (13, kX12_forgery_13), (18, kX12_forgery_18)]
theorem kX12_forgery_c0 : sx_cd kX12_forgery 0 = kX12_forgery_0 := rfl
theorem kX12_forgery_c13 : sx_cd kX12_forgery 13 = kX12_forgery_13 := rfl
theorem kX12_forgery_c18 : sx_cd kX12_forgery 18 = kX12_forgery_18 := rfl
theorem kX12_forgery_ok : sx_okM 12 (sx_M 266) kX12_forgery = true := by decide +kernel
def kX12_isThere_0 : List sx_I := [(1, .aload_n 0, []), (1, .iload_n 1, []), (3, .invokevirtual 454, [0, 222, 2, 12]), (3, .ifCond .eq 16, [21]), (1, .aload_n 0, []), (3, .getfield 91, [12, 61, 2]), (1, .iload_n 1, []), (1, .iaload, []), (3, .ifCond .le 7, [21]), (1, .iconst 1, []), (3, .goto 4, [22])]
def kX12_isThere_21 : List sx_I := [(1, .iconst 0, []), (0, .nop, [22])]
def kX12_isThere_22 : List sx_I := [(1, .ireturn, [1])]
def kX12_isThere : List (Nat × List sx_I) := [(0, kX12_isThere_0), (21, kX12_isThere_21), (22, kX12_isThere_22)]
theorem kX12_isThere_c0 : sx_cd kX12_isThere 0 = kX12_isThere_0 := rfl
theorem kX12_isThere_c21 : sx_cd kX12_isThere 21 = kX12_isThere_21 := rfl
theorem kX12_isThere_c22 : sx_cd kX12_isThere 22 = kX12_isThere_22 := rfl
theorem kX12_isThere_ok : sx_okM 12 (sx_M 267) kX12_isThere = true := by decide +kernel
def kX12_trail_0 : List sx_I := [(1, .aload_n 0, []), (1, .iconst 0, []), (3, .putfield 163, [12, 2, 0]), (1, .aload_n 0, []), (1, .iload_n 1, []), (3, .invokevirtual 509, [0, 267, 2, 12]), (3, .ifCond .ne 5, [15]), (1, .iconst (-1), []), (1, .ireturn, [0])]
def kX12_trail_15 : List sx_I := [(1, .iconst 0, []), (1, .istore_n 2, []), (1, .iload_n 1, []), (1, .istore_n 3, []), (0, .nop, [19])]
def kX12_trail_19 : List sx_I := [(1, .iload_n 3, []), (3, .ifCond .lt 15, [35]), (3, .iinc 2 1, []), (1, .aload_n 0, []), (1, .iload_n 3, []), (3, .invokevirtual 500, [0, 262, 2, 12]), (1, .istore_n 3, []), (3, .goto (-13), [19])]
def kX12_trail_35 : List sx_I := [(1, .iload_n 2, []), (1, .ireturn, [0])]
def kX12_trail : List (Nat × List sx_I) := [(0, kX12_trail_0), (15, kX12_trail_15), (19, kX12_trail_19), (35, kX12_trail_35)]
theorem kX12_trail_c0 : sx_cd kX12_trail 0 = kX12_trail_0 := rfl
theorem kX12_trail_c15 : sx_cd kX12_trail 15 = kX12_trail_15 := rfl
theorem kX12_trail_c19 : sx_cd kX12_trail 19 = kX12_trail_19 := rfl
theorem kX12_trail_c35 : sx_cd kX12_trail 35 = kX12_trail_35 := rfl
theorem kX12_trail_ok : sx_okM 12 (sx_M 268) kX12_trail = true := by decide +kernel
def kX12_trailed_0 : List sx_I := [(1, .aload_n 0, []), (1, .iconst 0, []), (3, .putfield 163, [12, 2, 0]), (1, .aload_n 0, []), (1, .iload_n 1, []), (3, .invokevirtual 509, [0, 267, 2, 12]), (3, .ifCond .eq 7, [17]), (1, .iload_n 2, []), (3, .ifCond .ge 5, [19]), (0, .nop, [17])]
def kX12_trailed_17 : List sx_I := [(1, .iconst (-1), []), (1, .ireturn, [0])]
def kX12_trailed_19 : List sx_I := [(1, .iload_n 1, []), (1, .istore_n 3, []), (1, .iconst 0, []), (2, .istore 4, []), (0, .nop, [24])]
def kX12_trailed_24 : List sx_I := [(2, .iload 4, []), (1, .iload_n 2, []), (3, .if_icmp .ge 19, [46]), (1, .iload_n 3, []), (3, .ifCond .lt 15, [46]), (1, .aload_n 0, []), (1, .iload_n 3, []), (3, .invokevirtual 500, [0, 262, 2, 12]), (1, .istore_n 3, []), (3, .iinc 4 1, []), (3, .goto (-19), [24])]
def kX12_trailed_46 : List sx_I := [(1, .iload_n 3, []), (3, .ifCond .ge 8, [55]), (2, .bipush (-2), []), (3, .goto 4, [56])]
def kX12_trailed_55 : List sx_I := [(1, .iload_n 3, []), (0, .nop, [56])]
def kX12_trailed_56 : List sx_I := [(1, .ireturn, [0])]
def kX12_trailed : List (Nat × List sx_I) := [(0, kX12_trailed_0), (17, kX12_trailed_17), (19, kX12_trailed_19), (24, kX12_trailed_24), (46, kX12_trailed_46), (55, kX12_trailed_55), (56, kX12_trailed_56)]
theorem kX12_trailed_c0 : sx_cd kX12_trailed 0 = kX12_trailed_0 := rfl
theorem kX12_trailed_c17 : sx_cd kX12_trailed 17 = kX12_trailed_17 := rfl
theorem kX12_trailed_c19 : sx_cd kX12_trailed 19 = kX12_trailed_19 := rfl
theorem kX12_trailed_c24 : sx_cd kX12_trailed 24 = kX12_trailed_24 := rfl
theorem kX12_trailed_c46 : sx_cd kX12_trailed 46 = kX12_trailed_46 := rfl
theorem kX12_trailed_c55 : sx_cd kX12_trailed 55 = kX12_trailed_55 := rfl
theorem kX12_trailed_c56 : sx_cd kX12_trailed 56 = kX12_trailed_56 := rfl
theorem kX12_trailed_ok : sx_okM 12 (sx_M 269) kX12_trailed = true := by decide +kernel
def kX12_newAt_0 : List sx_I := [(1, .aload_n 0, []), (3, .getfield 20, [12, 30, 2]), (1, .iload_n 1, []), (1, .iaload, []), (3, .ifCond .ne 16, [22]), (1, .aload_n 0, []), (1, .iconst 0, []), (1, .iload_n 1, []), (3, .invokevirtual 435, [0, 233, 3, 12]), (3, .ifCond .ge 7, [22]), (1, .iconst 1, []), (3, .goto 4, [23])]
def kX12_newAt_22 : List sx_I := [(1, .iconst 0, []), (0, .nop, [23])]
def kX12_newAt_23 : List sx_I := [(1, .ireturn, [0])]
def kX12_newAt : List (Nat × List sx_I) := [(0, kX12_newAt_0), (22, kX12_newAt_22), (23, kX12_newAt_23)]
theorem kX12_newAt_c0 : sx_cd kX12_newAt 0 = kX12_newAt_0 := rfl
theorem kX12_newAt_c22 : sx_cd kX12_newAt 22 = kX12_newAt_22 := rfl
theorem kX12_newAt_c23 : sx_cd kX12_newAt 23 = kX12_newAt_23 := rfl
theorem kX12_newAt_ok : sx_okM 12 (sx_M 270) kX12_newAt = true := by decide +kernel
def kX12_layQuiet_0 : List sx_I := [(1, .iconst 0, []), (1, .istore_n 2, []), (0, .nop, [2])]
def kX12_layQuiet_2 : List sx_I := [(1, .iload_n 2, []), (1, .aload_n 0, []), (3, .invokevirtual 395, [0, 218, 1, 12]), (3, .if_icmp .ge 17, [24]), (1, .aload_n 0, []), (3, .getfield 133, [12, 78, 2]), (1, .iload_n 2, []), (2, .ldc 201, [99999, 0]), (1, .iastore, []), (3, .iinc 2 1, []), (3, .goto (-19), [2])]
def kX12_layQuiet_24 : List sx_I := [(1, .aload_n 0, []), (3, .getfield 133, [12, 78, 2]), (1, .iload_n 1, []), (1, .iconst 0, []), (1, .iastore, []), (1, .aload_n 0, []), (3, .getfield 136, [12, 79, 2]), (1, .iload_n 1, []), (1, .iconst 0, []), (1, .iastore, []), (1, .iconst 1, []), (1, .istore_n 2, []), (0, .nop, [40])]
def kX12_layQuiet_40 : List sx_I := [(1, .iload_n 2, []), (3, .ifCond .eq 152, [193]), (1, .iconst 0, []), (1, .istore_n 2, []), (1, .iconst 0, []), (1, .istore_n 3, []), (0, .nop, [48])]
def kX12_layQuiet_48 : List sx_I := [(1, .iload_n 3, []), (1, .aload_n 0, []), (3, .invokevirtual 395, [0, 218, 1, 12]), (3, .if_icmp .ge 137, [190]), (1, .iconst 0, []), (2, .istore 4, []), (0, .nop, [59])]
def kX12_layQuiet_59 : List sx_I := [(2, .iload 4, []), (1, .iconst 4, []), (3, .if_icmp .ge 122, [184]), (1, .aload_n 0, []), (1, .iload_n 3, []), (2, .iload 4, []), (3, .invokevirtual 459, [0, 228, 3, 12]), (2, .istore 5, []), (2, .iload 5, []), (3, .ifCond .lt 102, [178]), (1, .aload_n 0, []), (3, .getfield 133, [12, 78, 2]), (2, .iload 5, []), (1, .iaload, []), (2, .ldc 201, [99999, 0]), (3, .if_icmp .ne 6, [94]), (3, .goto 87, [178])]
def kX12_layQuiet_94 : List sx_I := [(1, .aload_n 0, []), (3, .getfield 133, [12, 78, 2]), (2, .iload 5, []), (1, .iaload, []), (1, .aload_n 0, []), (2, .iload 5, []), (3, .invokevirtual 512, [0, 270, 2, 12]), (1, .iadd, []), (2, .istore 6, []), (2, .iload 6, []), (1, .aload_n 0, []), (3, .getfield 133, [12, 78, 2]), (1, .iload_n 3, []), (1, .iaload, []), (3, .if_icmp .gt 60, [178]), (2, .iload 6, []), (1, .aload_n 0, []), (3, .getfield 133, [12, 78, 2]), (1, .iload_n 3, []), (1, .iaload, []), (3, .if_icmp .ne 24, [153]), (1, .aload_n 0, []), (3, .getfield 136, [12, 79, 2]), (2, .iload 5, []), (1, .iaload, []), (1, .iconst 1, []), (1, .iadd, []), (1, .aload_n 0, []), (3, .getfield 136, [12, 79, 2]), (1, .iload_n 3, []), (1, .iaload, []), (3, .if_icmp .lt 6, [153]), (3, .goto 28, [178])]
def kX12_layQuiet_153 : List sx_I := [(1, .aload_n 0, []), (3, .getfield 133, [12, 78, 2]), (1, .iload_n 3, []), (2, .iload 6, []), (1, .iastore, []), (1, .aload_n 0, []), (3, .getfield 136, [12, 79, 2]), (1, .iload_n 3, []), (1, .aload_n 0, []), (3, .getfield 136, [12, 79, 2]), (2, .iload 5, []), (1, .iaload, []), (1, .iconst 1, []), (1, .iadd, []), (1, .iastore, []), (1, .iconst 1, []), (1, .istore_n 2, []), (0, .nop, [178])]
def kX12_layQuiet_178 : List sx_I := [(3, .iinc 4 1, []), (3, .goto (-122), [59])]
def kX12_layQuiet_184 : List sx_I := [(3, .iinc 3 1, []), (3, .goto (-139), [48])]
def kX12_layQuiet_190 : List sx_I := [(3, .goto (-150), [40])]
def kX12_layQuiet_193 : List sx_I := [(1, .return_, [])]
def kX12_layQuiet : List (Nat × List sx_I) := [(0, kX12_layQuiet_0), (2, kX12_layQuiet_2), (24, kX12_layQuiet_24), (40, kX12_layQuiet_40), (48, kX12_layQuiet_48), (59, kX12_layQuiet_59), (94, kX12_layQuiet_94), (153, kX12_layQuiet_153), (178, kX12_layQuiet_178), (184, kX12_layQuiet_184), (190, kX12_layQuiet_190), (193, kX12_layQuiet_193)]
theorem kX12_layQuiet_c0 : sx_cd kX12_layQuiet 0 = kX12_layQuiet_0 := rfl
theorem kX12_layQuiet_c2 : sx_cd kX12_layQuiet 2 = kX12_layQuiet_2 := rfl
theorem kX12_layQuiet_c24 : sx_cd kX12_layQuiet 24 = kX12_layQuiet_24 := rfl
theorem kX12_layQuiet_c40 : sx_cd kX12_layQuiet 40 = kX12_layQuiet_40 := rfl
theorem kX12_layQuiet_c48 : sx_cd kX12_layQuiet 48 = kX12_layQuiet_48 := rfl
theorem kX12_layQuiet_c59 : sx_cd kX12_layQuiet 59 = kX12_layQuiet_59 := rfl
theorem kX12_layQuiet_c94 : sx_cd kX12_layQuiet 94 = kX12_layQuiet_94 := rfl
theorem kX12_layQuiet_c153 : sx_cd kX12_layQuiet 153 = kX12_layQuiet_153 := rfl
theorem kX12_layQuiet_c178 : sx_cd kX12_layQuiet 178 = kX12_layQuiet_178 := rfl
theorem kX12_layQuiet_c184 : sx_cd kX12_layQuiet 184 = kX12_layQuiet_184 := rfl
theorem kX12_layQuiet_c190 : sx_cd kX12_layQuiet 190 = kX12_layQuiet_190 := rfl
theorem kX12_layQuiet_c193 : sx_cd kX12_layQuiet 193 = kX12_layQuiet_193 := rfl
theorem kX12_layQuiet_ok : sx_okM 12 (sx_M 271) kX12_layQuiet = true := by decide +kernel
def kX12_quiet_0 : List sx_I := [(1, .aload_n 0, []), (1, .iconst 0, []), (3, .putfield 163, [12, 2, 0]), (1, .aload_n 0, []), (1, .iload_n 1, []), (3, .invokevirtual 451, [0, 219, 2, 12]), (3, .ifCond .eq 20, [30]), (1, .aload_n 0, []), (1, .iload_n 2, []), (3, .invokevirtual 451, [0, 219, 2, 12]), (3, .ifCond .eq 12, [30]), (1, .iload_n 3, []), (1, .iconst 0, []), (1, .iconst 1, []), (3, .invokestatic 208, [4, 178, 3]), (3, .ifCond .ne 5, [32]), (0, .nop, [30])]
def kX12_quiet_30 : List sx_I := [(1, .iconst (-1), []), (1, .ireturn, [0])]
def kX12_quiet_32 : List sx_I := [(1, .aload_n 0, []), (1, .iload_n 2, []), (3, .invokevirtual 515, [0, 271, 2, 12]), (1, .iload_n 3, []), (3, .ifCond .ne 12, [50]), (1, .aload_n 0, []), (3, .getfield 133, [12, 78, 2]), (1, .iload_n 1, []), (1, .iaload, []), (3, .goto 9, [56])]
def kX12_quiet_50 : List sx_I := [(1, .aload_n 0, []), (3, .getfield 136, [12, 79, 2]), (1, .iload_n 1, []), (1, .iaload, []), (0, .nop, [56])]
def kX12_quiet_56 : List sx_I := [(1, .ireturn, [0])]
def kX12_quiet : List (Nat × List sx_I) := [(0, kX12_quiet_0), (30, kX12_quiet_30), (32, kX12_quiet_32), (50, kX12_quiet_50), (56, kX12_quiet_56)]
theorem kX12_quiet_c0 : sx_cd kX12_quiet 0 = kX12_quiet_0 := rfl
theorem kX12_quiet_c30 : sx_cd kX12_quiet 30 = kX12_quiet_30 := rfl
theorem kX12_quiet_c32 : sx_cd kX12_quiet 32 = kX12_quiet_32 := rfl
theorem kX12_quiet_c50 : sx_cd kX12_quiet 50 = kX12_quiet_50 := rfl
theorem kX12_quiet_c56 : sx_cd kX12_quiet 56 = kX12_quiet_56 := rfl
theorem kX12_quiet_ok : sx_okM 12 (sx_M 272) kX12_quiet = true := by decide +kernel
def kX12_isOn_0 : List sx_I := [(1, .iload_n 2, []), (3, .ifCond .lt 45, [46]), (1, .aload_n 0, []), (3, .getfield 133, [12, 78, 2]), (1, .iload_n 2, []), (1, .iaload, []), (1, .aload_n 0, []), (1, .iload_n 2, []), (3, .invokevirtual 512, [0, 270, 2, 12]), (1, .iadd, []), (1, .aload_n 0, []), (3, .getfield 133, [12, 78, 2]), (1, .iload_n 1, []), (1, .iaload, []), (3, .if_icmp .ne 24, [46]), (1, .aload_n 0, []), (3, .getfield 136, [12, 79, 2]), (1, .iload_n 2, []), (1, .iaload, []), (1, .iconst 1, []), (1, .iadd, []), (1, .aload_n 0, []), (3, .getfield 136, [12, 79, 2]), (1, .iload_n 1, []), (1, .iaload, []), (3, .if_icmp .ne 7, [46]), (1, .iconst 1, []), (3, .goto 4, [47])]
def kX12_isOn_46 : List sx_I := [(1, .iconst 0, []), (0, .nop, [47])]
def kX12_isOn_47 : List sx_I := [(1, .ireturn, [1])]
def kX12_isOn : List (Nat × List sx_I) := [(0, kX12_isOn_0), (46, kX12_isOn_46), (47, kX12_isOn_47)]
theorem kX12_isOn_c0 : sx_cd kX12_isOn 0 = kX12_isOn_0 := rfl
theorem kX12_isOn_c46 : sx_cd kX12_isOn 46 = kX12_isOn_46 := rfl
theorem kX12_isOn_c47 : sx_cd kX12_isOn 47 = kX12_isOn_47 := rfl
theorem kX12_isOn_ok : sx_okM 12 (sx_M 273) kX12_isOn = true := by decide +kernel
def kX12_hushed_0 : List sx_I := [(1, .aload_n 0, []), (1, .iconst 0, []), (3, .putfield 163, [12, 2, 0]), (1, .aload_n 0, []), (1, .iload_n 1, []), (3, .invokevirtual 451, [0, 219, 2, 12]), (3, .ifCond .eq 15, [25]), (1, .aload_n 0, []), (1, .iload_n 2, []), (3, .invokevirtual 451, [0, 219, 2, 12]), (3, .ifCond .eq 7, [25]), (1, .iload_n 3, []), (3, .ifCond .ge 5, [27]), (0, .nop, [25])]
def kX12_hushed_25 : List sx_I := [(1, .iconst (-1), []), (1, .ireturn, [0])]
def kX12_hushed_27 : List sx_I := [(1, .aload_n 0, []), (1, .iload_n 2, []), (3, .invokevirtual 515, [0, 271, 2, 12]), (1, .iload_n 3, []), (1, .aload_n 0, []), (3, .getfield 136, [12, 79, 2]), (1, .iload_n 1, []), (1, .iaload, []), (3, .if_icmp .le 6, [45]), (2, .bipush (-2), []), (1, .ireturn, [0])]
def kX12_hushed_45 : List sx_I := [(1, .iload_n 1, []), (2, .istore 4, []), (1, .iconst 0, []), (2, .istore 5, []), (0, .nop, [51])]
def kX12_hushed_51 : List sx_I := [(2, .iload 5, []), (1, .iload_n 3, []), (3, .if_icmp .ge 45, [99]), (1, .iconst 0, []), (2, .istore 6, []), (0, .nop, [60])]
def kX12_hushed_60 : List sx_I := [(1, .aload_n 0, []), (2, .iload 4, []), (1, .aload_n 0, []), (2, .iload 4, []), (2, .iload 6, []), (3, .invokevirtual 459, [0, 228, 3, 12]), (3, .invokevirtual 518, [0, 273, 3, 12]), (3, .ifCond .ne 9, [83]), (3, .iinc 6 1, []), (3, .goto (-20), [60])]
def kX12_hushed_83 : List sx_I := [(1, .aload_n 0, []), (2, .iload 4, []), (2, .iload 6, []), (3, .invokevirtual 459, [0, 228, 3, 12]), (2, .istore 4, []), (3, .iinc 5 1, []), (3, .goto (-45), [51])]
def kX12_hushed_99 : List sx_I := [(2, .iload 4, []), (1, .ireturn, [0])]
def kX12_hushed : List (Nat × List sx_I) := [(0, kX12_hushed_0), (25, kX12_hushed_25), (27, kX12_hushed_27), (45, kX12_hushed_45), (51, kX12_hushed_51), (60, kX12_hushed_60), (83, kX12_hushed_83), (99, kX12_hushed_99)]
theorem kX12_hushed_c0 : sx_cd kX12_hushed 0 = kX12_hushed_0 := rfl
theorem kX12_hushed_c25 : sx_cd kX12_hushed 25 = kX12_hushed_25 := rfl
theorem kX12_hushed_c27 : sx_cd kX12_hushed 27 = kX12_hushed_27 := rfl
theorem kX12_hushed_c45 : sx_cd kX12_hushed 45 = kX12_hushed_45 := rfl
theorem kX12_hushed_c51 : sx_cd kX12_hushed 51 = kX12_hushed_51 := rfl
theorem kX12_hushed_c60 : sx_cd kX12_hushed 60 = kX12_hushed_60 := rfl
theorem kX12_hushed_c83 : sx_cd kX12_hushed 83 = kX12_hushed_83 := rfl
theorem kX12_hushed_c99 : sx_cd kX12_hushed 99 = kX12_hushed_99 := rfl
theorem kX12_hushed_ok : sx_okM 12 (sx_M 274) kX12_hushed = true := by decide +kernel
def kX12_powerOf_0 : List sx_I := [(1, .iconst 1, []), (1, .istore_n 1, []), (1, .iconst 0, []), (1, .istore_n 2, []), (0, .nop, [4])]
def kX12_powerOf_4 : List sx_I := [(1, .iload_n 2, []), (1, .iload_n 0, []), (3, .if_icmp .ge 14, [20]), (1, .iload_n 1, []), (2, .bipush 100, []), (1, .imul, []), (1, .istore_n 1, []), (3, .iinc 2 1, []), (3, .goto (-13), [4])]
def kX12_powerOf_20 : List sx_I := [(1, .iload_n 1, []), (1, .ireturn, [0])]
def kX12_powerOf : List (Nat × List sx_I) := [(0, kX12_powerOf_0), (4, kX12_powerOf_4), (20, kX12_powerOf_20)]
theorem kX12_powerOf_c0 : sx_cd kX12_powerOf 0 = kX12_powerOf_0 := rfl
theorem kX12_powerOf_c4 : sx_cd kX12_powerOf 4 = kX12_powerOf_4 := rfl
theorem kX12_powerOf_c20 : sx_cd kX12_powerOf 20 = kX12_powerOf_20 := rfl
theorem kX12_powerOf_ok : sx_okM 12 (sx_M 275) kX12_powerOf = true := by decide +kernel
def kX12_coveredBy_0 : List sx_I := [(1, .iconst 1, []), (1, .istore_n 3, []), (1, .iconst 0, []), (2, .istore 4, []), (0, .nop, [5])]
def kX12_coveredBy_5 : List sx_I := [(2, .iload 4, []), (1, .iload_n 2, []), (3, .if_icmp .ge 37, [45]), (1, .iload_n 3, []), (2, .bipush 100, []), (1, .iload_n 1, []), (2, .iload 4, []), (1, .iadd, []), (2, .bipush 24, []), (3, .if_icmp .ge 15, [35]), (1, .aload_n 0, []), (3, .getfield 44, [12, 38, 2]), (1, .iload_n 1, []), (2, .iload 4, []), (1, .iadd, []), (1, .iaload, []), (3, .goto 4, [36])]
def kX12_coveredBy_35 : List sx_I := [(1, .iconst 0, []), (0, .nop, [36])]
def kX12_coveredBy_36 : List sx_I := [(1, .isub, []), (1, .imul, []), (1, .istore_n 3, []), (3, .iinc 4 1, []), (3, .goto (-37), [5])]
def kX12_coveredBy_45 : List sx_I := [(1, .iload_n 2, []), (3, .invokestatic 521, [4, 275, 1]), (1, .iload_n 3, []), (1, .isub, []), (1, .ireturn, [0])]
def kX12_coveredBy : List (Nat × List sx_I) := [(0, kX12_coveredBy_0), (5, kX12_coveredBy_5), (35, kX12_coveredBy_35), (36, kX12_coveredBy_36), (45, kX12_coveredBy_45)]
theorem kX12_coveredBy_c0 : sx_cd kX12_coveredBy 0 = kX12_coveredBy_0 := rfl
theorem kX12_coveredBy_c5 : sx_cd kX12_coveredBy 5 = kX12_coveredBy_5 := rfl
theorem kX12_coveredBy_c35 : sx_cd kX12_coveredBy 35 = kX12_coveredBy_35 := rfl
theorem kX12_coveredBy_c36 : sx_cd kX12_coveredBy 36 = kX12_coveredBy_36 := rfl
theorem kX12_coveredBy_c45 : sx_cd kX12_coveredBy 45 = kX12_coveredBy_45 := rfl
theorem kX12_coveredBy_ok : sx_okM 12 (sx_M 276) kX12_coveredBy = true := by decide +kernel
def kX12_common_0 : List sx_I := [(1, .iload_n 0, []), (1, .istore_n 2, []), (1, .iload_n 1, []), (1, .istore_n 3, []), (0, .nop, [4])]
def kX12_common_4 : List sx_I := [(1, .iload_n 3, []), (3, .ifCond .eq 16, [21]), (1, .iload_n 2, []), (1, .iload_n 3, []), (1, .irem, []), (2, .istore 4, []), (1, .iload_n 3, []), (1, .istore_n 2, []), (2, .iload 4, []), (1, .istore_n 3, []), (3, .goto (-14), [4])]
def kX12_common_21 : List sx_I := [(1, .iload_n 2, []), (1, .ireturn, [0])]
def kX12_common : List (Nat × List sx_I) := [(0, kX12_common_0), (4, kX12_common_4), (21, kX12_common_21)]
theorem kX12_common_c0 : sx_cd kX12_common 0 = kX12_common_0 := rfl
theorem kX12_common_c4 : sx_cd kX12_common 4 = kX12_common_4 := rfl
theorem kX12_common_c21 : sx_cd kX12_common 21 = kX12_common_21 := rfl
theorem kX12_common_ok : sx_okM 12 (sx_M 277) kX12_common = true := by decide +kernel
def kX12_covered_0 : List sx_I := [(1, .aload_n 0, []), (1, .iconst 0, []), (3, .putfield 163, [12, 2, 0]), (1, .iload_n 1, []), (1, .iconst 0, []), (2, .bipush 23, []), (3, .invokestatic 208, [4, 178, 3]), (3, .ifCond .eq 21, [33]), (1, .iload_n 2, []), (1, .iconst 1, []), (1, .iconst 4, []), (3, .invokestatic 208, [4, 178, 3]), (3, .ifCond .eq 12, [33]), (1, .iload_n 3, []), (1, .iconst 0, []), (1, .iconst 1, []), (3, .invokestatic 208, [4, 178, 3]), (3, .ifCond .ne 5, [35]), (0, .nop, [33])]
def kX12_covered_33 : List sx_I := [(1, .iconst (-1), []), (1, .ireturn, [0])]
def kX12_covered_35 : List sx_I := [(1, .aload_n 0, []), (1, .iload_n 1, []), (1, .iload_n 2, []), (3, .invokevirtual 524, [0, 276, 3, 12]), (2, .istore 4, []), (1, .iload_n 3, []), (3, .ifCond .ne 8, [52]), (2, .iload 4, []), (3, .goto 7, [56])]
def kX12_covered_52 : List sx_I := [(1, .iload_n 2, []), (3, .invokestatic 521, [4, 275, 1]), (0, .nop, [56])]
def kX12_covered_56 : List sx_I := [(2, .iload 4, []), (1, .iload_n 2, []), (3, .invokestatic 521, [4, 275, 1]), (3, .invokestatic 527, [4, 277, 2]), (1, .idiv, []), (1, .ireturn, [0])]
def kX12_covered : List (Nat × List sx_I) := [(0, kX12_covered_0), (33, kX12_covered_33), (35, kX12_covered_35), (52, kX12_covered_52), (56, kX12_covered_56)]
theorem kX12_covered_c0 : sx_cd kX12_covered 0 = kX12_covered_0 := rfl
theorem kX12_covered_c33 : sx_cd kX12_covered 33 = kX12_covered_33 := rfl
theorem kX12_covered_c35 : sx_cd kX12_covered 35 = kX12_covered_35 := rfl
theorem kX12_covered_c52 : sx_cd kX12_covered 52 = kX12_covered_52 := rfl
theorem kX12_covered_c56 : sx_cd kX12_covered 56 = kX12_covered_56 := rfl
theorem kX12_covered_ok : sx_okM 12 (sx_M 278) kX12_covered = true := by decide +kernel
def kX12_best_0 : List sx_I := [(1, .aload_n 0, []), (1, .iconst 0, []), (3, .putfield 163, [12, 2, 0]), (1, .iload_n 1, []), (1, .iconst 0, []), (2, .bipush 23, []), (3, .invokestatic 208, [4, 178, 3]), (3, .ifCond .eq 22, [34]), (1, .iload_n 2, []), (1, .iload_n 1, []), (2, .bipush 23, []), (3, .invokestatic 208, [4, 178, 3]), (3, .ifCond .eq 12, [34]), (1, .iload_n 3, []), (1, .iconst 1, []), (1, .iconst 4, []), (3, .invokestatic 208, [4, 178, 3]), (3, .ifCond .ne 5, [36]), (0, .nop, [34])]
def kX12_best_34 : List sx_I := [(1, .iconst (-1), []), (1, .ireturn, [0])]
def kX12_best_36 : List sx_I := [(1, .iload_n 1, []), (2, .istore 4, []), (1, .iload_n 1, []), (1, .iconst 1, []), (1, .iadd, []), (2, .istore 5, []), (0, .nop, [44])]
def kX12_best_44 : List sx_I := [(2, .iload 5, []), (1, .iload_n 2, []), (3, .if_icmp .gt 35, [82]), (1, .aload_n 0, []), (2, .iload 5, []), (1, .iload_n 3, []), (3, .invokevirtual 524, [0, 276, 3, 12]), (1, .aload_n 0, []), (2, .iload 4, []), (1, .iload_n 3, []), (3, .invokevirtual 524, [0, 276, 3, 12]), (3, .if_icmp .le 8, [72]), (2, .iload 5, []), (3, .goto 5, [74])]
def kX12_best_72 : List sx_I := [(2, .iload 4, []), (0, .nop, [74])]
def kX12_best_74 : List sx_I := [(2, .istore 4, []), (3, .iinc 5 1, []), (3, .goto (-35), [44])]
def kX12_best_82 : List sx_I := [(2, .iload 4, []), (1, .ireturn, [0])]
def kX12_best : List (Nat × List sx_I) := [(0, kX12_best_0), (34, kX12_best_34), (36, kX12_best_36), (44, kX12_best_44), (72, kX12_best_72), (74, kX12_best_74), (82, kX12_best_82)]
theorem kX12_best_c0 : sx_cd kX12_best 0 = kX12_best_0 := rfl
theorem kX12_best_c34 : sx_cd kX12_best 34 = kX12_best_34 := rfl
theorem kX12_best_c36 : sx_cd kX12_best 36 = kX12_best_36 := rfl
theorem kX12_best_c44 : sx_cd kX12_best 44 = kX12_best_44 := rfl
theorem kX12_best_c72 : sx_cd kX12_best 72 = kX12_best_72 := rfl
theorem kX12_best_c74 : sx_cd kX12_best 74 = kX12_best_74 := rfl
theorem kX12_best_c82 : sx_cd kX12_best 82 = kX12_best_82 := rfl
theorem kX12_best_ok : sx_okM 12 (sx_M 279) kX12_best = true := by decide +kernel
def kX12_has_0 : List sx_I := [(1, .iload_n 2, []), (1, .iload_n 1, []), (3, .if_icmp .ge 14, [16]), (1, .aload_n 0, []), (1, .iload_n 1, []), (1, .iconst 2, []), (3, .invokevirtual 524, [0, 276, 3, 12]), (1, .iconst 2, []), (1, .idiv, []), (3, .goto 9, [22])]
def kX12_has_16 : List sx_I := [(1, .aload_n 0, []), (1, .iload_n 1, []), (1, .iconst 2, []), (3, .invokevirtual 524, [0, 276, 3, 12]), (0, .nop, [22])]
def kX12_has_22 : List sx_I := [(1, .ireturn, [0])]
def kX12_has : List (Nat × List sx_I) := [(0, kX12_has_0), (16, kX12_has_16), (22, kX12_has_22)]
theorem kX12_has_c0 : sx_cd kX12_has 0 = kX12_has_0 := rfl
theorem kX12_has_c16 : sx_cd kX12_has 16 = kX12_has_16 := rfl
theorem kX12_has_c22 : sx_cd kX12_has 22 = kX12_has_22 := rfl
theorem kX12_has_ok : sx_okM 12 (sx_M 280) kX12_has = true := by decide +kernel
def kX12_isRest_0 : List sx_I := [(1, .iload_n 1, []), (2, .istore 5, []), (0, .nop, [3])]
def kX12_isRest_3 : List sx_I := [(2, .iload 5, []), (1, .iload_n 1, []), (1, .iload_n 2, []), (1, .iadd, []), (3, .if_icmp .ge 46, [54]), (1, .aload_n 0, []), (2, .iload 5, []), (2, .iload 4, []), (3, .invokevirtual 530, [0, 280, 3, 12]), (1, .aload_n 0, []), (1, .iload_n 3, []), (2, .iload 4, []), (3, .invokevirtual 530, [0, 280, 3, 12]), (3, .if_icmp .gt 20, [46]), (1, .aload_n 0, []), (2, .iload 5, []), (1, .iload_n 3, []), (3, .invokevirtual 530, [0, 280, 3, 12]), (1, .aload_n 0, []), (2, .iload 4, []), (1, .iload_n 3, []), (3, .invokevirtual 530, [0, 280, 3, 12]), (3, .if_icmp .le 5, [48]), (0, .nop, [46])]
def kX12_isRest_46 : List sx_I := [(1, .iconst 0, []), (1, .ireturn, [1])]
def kX12_isRest_48 : List sx_I := [(3, .iinc 5 1, []), (3, .goto (-48), [3])]
def kX12_isRest_54 : List sx_I := [(1, .iconst 1, []), (1, .ireturn, [1])]
def kX12_isRest : List (Nat × List sx_I) := [(0, kX12_isRest_0), (3, kX12_isRest_3), (46, kX12_isRest_46), (48, kX12_isRest_48), (54, kX12_isRest_54)]
theorem kX12_isRest_c0 : sx_cd kX12_isRest 0 = kX12_isRest_0 := rfl
theorem kX12_isRest_c3 : sx_cd kX12_isRest 3 = kX12_isRest_3 := rfl
theorem kX12_isRest_c46 : sx_cd kX12_isRest 46 = kX12_isRest_46 := rfl
theorem kX12_isRest_c48 : sx_cd kX12_isRest 48 = kX12_isRest_48 := rfl
theorem kX12_isRest_c54 : sx_cd kX12_isRest 54 = kX12_isRest_54 := rfl
theorem kX12_isRest_ok : sx_okM 12 (sx_M 281) kX12_isRest = true := by decide +kernel
def kX12_areHours_0 : List sx_I := [(1, .iload_n 1, []), (1, .iconst 0, []), (2, .bipush 23, []), (3, .invokestatic 208, [4, 178, 3]), (3, .ifCond .eq 25, [32]), (1, .iload_n 2, []), (1, .iconst 1, []), (2, .bipush 6, []), (3, .invokestatic 208, [4, 178, 3]), (3, .ifCond .eq 15, [32]), (1, .iload_n 1, []), (1, .iload_n 2, []), (1, .iadd, []), (2, .bipush 24, []), (3, .if_icmp .gt 7, [32]), (1, .iconst 1, []), (3, .goto 4, [33])]
def kX12_areHours_32 : List sx_I := [(1, .iconst 0, []), (0, .nop, [33])]
def kX12_areHours_33 : List sx_I := [(1, .ireturn, [1])]
def kX12_areHours : List (Nat × List sx_I) := [(0, kX12_areHours_0), (32, kX12_areHours_32), (33, kX12_areHours_33)]
theorem kX12_areHours_c0 : sx_cd kX12_areHours 0 = kX12_areHours_0 := rfl
theorem kX12_areHours_c32 : sx_cd kX12_areHours 32 = kX12_areHours_32 := rfl
theorem kX12_areHours_c33 : sx_cd kX12_areHours 33 = kX12_areHours_33 := rfl
theorem kX12_areHours_ok : sx_okM 12 (sx_M 282) kX12_areHours = true := by decide +kernel
def kX12_restAt_0 : List sx_I := [(1, .iconst 0, []), (2, .istore 4, []), (1, .iload_n 1, []), (2, .istore 5, []), (0, .nop, [6])]
def kX12_restAt_6 : List sx_I := [(2, .iload 5, []), (1, .iload_n 1, []), (1, .iload_n 2, []), (1, .iadd, []), (3, .if_icmp .ge 60, [71]), (1, .iload_n 1, []), (2, .istore 6, []), (0, .nop, [17])]
def kX12_restAt_17 : List sx_I := [(2, .iload 6, []), (1, .iload_n 1, []), (1, .iload_n 2, []), (1, .iadd, []), (3, .if_icmp .ge 43, [65]), (1, .aload_n 0, []), (1, .iload_n 1, []), (1, .iload_n 2, []), (2, .iload 5, []), (2, .iload 6, []), (3, .invokevirtual 533, [0, 281, 5, 12]), (3, .ifCond .ne 6, [41]), (3, .goto 21, [59])]
def kX12_restAt_41 : List sx_I := [(2, .iload 4, []), (1, .iload_n 3, []), (3, .if_icmp .ne 12, [56]), (2, .bipush 100, []), (2, .iload 5, []), (1, .imul, []), (2, .iload 6, []), (1, .iadd, []), (1, .ireturn, [0])]
def kX12_restAt_56 : List sx_I := [(3, .iinc 4 1, []), (0, .nop, [59])]
def kX12_restAt_59 : List sx_I := [(3, .iinc 6 1, []), (3, .goto (-45), [17])]
def kX12_restAt_65 : List sx_I := [(3, .iinc 5 1, []), (3, .goto (-62), [6])]
def kX12_restAt_71 : List sx_I := [(1, .iload_n 3, []), (3, .ifCond .ge 8, [80]), (2, .iload 4, []), (3, .goto 5, [82])]
def kX12_restAt_80 : List sx_I := [(2, .bipush (-2), []), (0, .nop, [82])]
def kX12_restAt_82 : List sx_I := [(1, .ireturn, [0])]
def kX12_restAt : List (Nat × List sx_I) := [(0, kX12_restAt_0), (6, kX12_restAt_6), (17, kX12_restAt_17), (41, kX12_restAt_41), (56, kX12_restAt_56), (59, kX12_restAt_59), (65, kX12_restAt_65), (71, kX12_restAt_71), (80, kX12_restAt_80), (82, kX12_restAt_82)]
theorem kX12_restAt_c0 : sx_cd kX12_restAt 0 = kX12_restAt_0 := rfl
theorem kX12_restAt_c6 : sx_cd kX12_restAt 6 = kX12_restAt_6 := rfl
theorem kX12_restAt_c17 : sx_cd kX12_restAt 17 = kX12_restAt_17 := rfl
theorem kX12_restAt_c41 : sx_cd kX12_restAt 41 = kX12_restAt_41 := rfl
theorem kX12_restAt_c56 : sx_cd kX12_restAt 56 = kX12_restAt_56 := rfl
theorem kX12_restAt_c59 : sx_cd kX12_restAt 59 = kX12_restAt_59 := rfl
theorem kX12_restAt_c65 : sx_cd kX12_restAt 65 = kX12_restAt_65 := rfl
theorem kX12_restAt_c71 : sx_cd kX12_restAt 71 = kX12_restAt_71 := rfl
theorem kX12_restAt_c80 : sx_cd kX12_restAt 80 = kX12_restAt_80 := rfl
theorem kX12_restAt_c82 : sx_cd kX12_restAt 82 = kX12_restAt_82 := rfl
theorem kX12_restAt_ok : sx_okM 12 (sx_M 283) kX12_restAt = true := by decide +kernel
def kX12_rests_0 : List sx_I := [(1, .aload_n 0, []), (1, .iconst 0, []), (3, .putfield 163, [12, 2, 0]), (1, .aload_n 0, []), (1, .iload_n 1, []), (1, .iload_n 2, []), (3, .invokevirtual 537, [0, 282, 3, 12]), (3, .ifCond .eq 13, [24]), (1, .aload_n 0, []), (1, .iload_n 1, []), (1, .iload_n 2, []), (1, .iconst (-1), []), (3, .invokevirtual 540, [0, 283, 4, 12]), (3, .goto 4, [25])]
def kX12_rests_24 : List sx_I := [(1, .iconst (-1), []), (0, .nop, [25])]
def kX12_rests_25 : List sx_I := [(1, .ireturn, [0])]
def kX12_rests : List (Nat × List sx_I) := [(0, kX12_rests_0), (24, kX12_rests_24), (25, kX12_rests_25)]
theorem kX12_rests_c0 : sx_cd kX12_rests 0 = kX12_rests_0 := rfl
theorem kX12_rests_c24 : sx_cd kX12_rests 24 = kX12_rests_24 := rfl
theorem kX12_rests_c25 : sx_cd kX12_rests 25 = kX12_rests_25 := rfl
theorem kX12_rests_ok : sx_okM 12 (sx_M 284) kX12_rests = true := by decide +kernel
def kX12_rest_0 : List sx_I := [(1, .aload_n 0, []), (1, .iconst 0, []), (3, .putfield 163, [12, 2, 0]), (1, .aload_n 0, []), (1, .iload_n 1, []), (1, .iload_n 2, []), (3, .invokevirtual 537, [0, 282, 3, 12]), (3, .ifCond .eq 17, [28]), (1, .iload_n 3, []), (3, .ifCond .lt 13, [28]), (1, .aload_n 0, []), (1, .iload_n 1, []), (1, .iload_n 2, []), (1, .iload_n 3, []), (3, .invokevirtual 540, [0, 283, 4, 12]), (3, .goto 4, [29])]
def kX12_rest_28 : List sx_I := [(1, .iconst (-1), []), (0, .nop, [29])]
def kX12_rest_29 : List sx_I := [(1, .ireturn, [0])]
def kX12_rest : List (Nat × List sx_I) := [(0, kX12_rest_0), (28, kX12_rest_28), (29, kX12_rest_29)]
theorem kX12_rest_c0 : sx_cd kX12_rest 0 = kX12_rest_0 := rfl
theorem kX12_rest_c28 : sx_cd kX12_rest 28 = kX12_rest_28 := rfl
theorem kX12_rest_c29 : sx_cd kX12_rest 29 = kX12_rest_29 := rfl
theorem kX12_rest_ok : sx_okM 12 (sx_M 285) kX12_rest = true := by decide +kernel
def kX12_seenBy_0 : List sx_I := [(1, .lconst 1, []), (1, .iload_n 1, []), (1, .lshl, []), (1, .lstore_n 2, []), (1, .iconst 0, []), (2, .istore 4, []), (0, .nop, [7])]
def kX12_seenBy_7 : List sx_I := [(2, .iload 4, []), (1, .iconst 4, []), (3, .if_icmp .ge 54, [64]), (1, .aload_n 0, []), (1, .iload_n 1, []), (2, .iload 4, []), (3, .invokevirtual 459, [0, 228, 3, 12]), (2, .istore 5, []), (0, .nop, [22])]
def kX12_seenBy_22 : List sx_I := [(2, .iload 5, []), (3, .ifCond .lt 34, [58]), (1, .aload_n 0, []), (3, .getfield 20, [12, 30, 2]), (2, .iload 5, []), (1, .iaload, []), (1, .iconst 1, []), (3, .if_icmp .eq 23, [58]), (1, .lload_n 2, []), (1, .lconst 1, []), (2, .iload 5, []), (1, .lshl, []), (1, .lor, []), (1, .lstore_n 2, []), (1, .aload_n 0, []), (2, .iload 5, []), (2, .iload 4, []), (3, .invokevirtual 459, [0, 228, 3, 12]), (2, .istore 5, []), (3, .goto (-33), [22])]
def kX12_seenBy_58 : List sx_I := [(3, .iinc 4 1, []), (3, .goto (-54), [7])]
def kX12_seenBy_64 : List sx_I := [(1, .lload_n 2, []), (1, .lreturn, [])]
def kX12_seenBy : List (Nat × List sx_I) := [(0, kX12_seenBy_0), (7, kX12_seenBy_7), (22, kX12_seenBy_22), (58, kX12_seenBy_58), (64, kX12_seenBy_64)]
theorem kX12_seenBy_c0 : sx_cd kX12_seenBy 0 = kX12_seenBy_0 := rfl
theorem kX12_seenBy_c7 : sx_cd kX12_seenBy 7 = kX12_seenBy_7 := rfl
theorem kX12_seenBy_c22 : sx_cd kX12_seenBy 22 = kX12_seenBy_22 := rfl
theorem kX12_seenBy_c58 : sx_cd kX12_seenBy 58 = kX12_seenBy_58 := rfl
theorem kX12_seenBy_c64 : sx_cd kX12_seenBy 64 = kX12_seenBy_64 := rfl
theorem kX12_seenBy_ok : sx_okM 12 (sx_M 286) kX12_seenBy = true := by decide +kernel
def kX12_sees_0 : List sx_I := [(1, .aload_n 0, []), (1, .iconst 0, []), (3, .putfield 163, [12, 2, 0]), (1, .aload_n 0, []), (1, .iload_n 1, []), (3, .invokevirtual 451, [0, 219, 2, 12]), (3, .ifCond .eq 21, [31]), (1, .aload_n 0, []), (3, .getfield 20, [12, 30, 2]), (1, .iload_n 1, []), (1, .iaload, []), (1, .iconst 1, []), (3, .if_icmp .eq 11, [31]), (1, .aload_n 0, []), (1, .iload_n 1, []), (3, .invokevirtual 544, [0, 286, 2, 12]), (3, .goto 6, [34])]
def kX12_sees_31 : List sx_I := [(3, .ldc2_w 547, [1, 1]), (0, .nop, [34])]
def kX12_sees_34 : List sx_I := [(1, .lreturn, [])]
def kX12_sees : List (Nat × List sx_I) := [(0, kX12_sees_0), (31, kX12_sees_31), (34, kX12_sees_34)]
theorem kX12_sees_c0 : sx_cd kX12_sees 0 = kX12_sees_0 := rfl
theorem kX12_sees_c31 : sx_cd kX12_sees 31 = kX12_sees_31 := rfl
theorem kX12_sees_c34 : sx_cd kX12_sees 34 = kX12_sees_34 := rfl
theorem kX12_sees_ok : sx_okM 12 (sx_M 287) kX12_sees = true := by decide +kernel
def kX12_isGround_0 : List sx_I := [(1, .lload_n 1, []), (1, .lconst 0, []), (1, .lcmp, []), (3, .ifCond .lt 14, [17]), (1, .lload_n 1, []), (1, .aload_n 0, []), (3, .invokevirtual 395, [0, 218, 1, 12]), (1, .lshr, []), (1, .lconst 0, []), (1, .lcmp, []), (3, .ifCond .eq 5, [19]), (0, .nop, [17])]
def kX12_isGround_17 : List sx_I := [(1, .iconst 0, []), (1, .ireturn, [1])]
def kX12_isGround_19 : List sx_I := [(1, .iconst 0, []), (1, .istore_n 3, []), (0, .nop, [21])]
def kX12_isGround_21 : List sx_I := [(1, .iload_n 3, []), (1, .aload_n 0, []), (3, .invokevirtual 395, [0, 218, 1, 12]), (3, .if_icmp .ge 31, [57]), (1, .lload_n 1, []), (1, .iload_n 3, []), (1, .lshr, []), (1, .lconst 1, []), (1, .land, []), (1, .lconst 1, []), (1, .lcmp, []), (3, .ifCond .ne 15, [51]), (1, .aload_n 0, []), (3, .getfield 20, [12, 30, 2]), (1, .iload_n 3, []), (1, .iaload, []), (1, .iconst 1, []), (3, .if_icmp .ne 5, [51]), (1, .iconst 0, []), (1, .ireturn, [1])]
def kX12_isGround_51 : List sx_I := [(3, .iinc 3 1, []), (3, .goto (-33), [21])]
def kX12_isGround_57 : List sx_I := [(1, .iconst 1, []), (1, .ireturn, [1])]
def kX12_isGround : List (Nat × List sx_I) := [(0, kX12_isGround_0), (17, kX12_isGround_17), (19, kX12_isGround_19), (21, kX12_isGround_21), (51, kX12_isGround_51), (57, kX12_isGround_57)]
theorem kX12_isGround_c0 : sx_cd kX12_isGround 0 = kX12_isGround_0 := rfl
theorem kX12_isGround_c17 : sx_cd kX12_isGround 17 = kX12_isGround_17 := rfl
theorem kX12_isGround_c19 : sx_cd kX12_isGround 19 = kX12_isGround_19 := rfl
theorem kX12_isGround_c21 : sx_cd kX12_isGround 21 = kX12_isGround_21 := rfl
theorem kX12_isGround_c51 : sx_cd kX12_isGround 51 = kX12_isGround_51 := rfl
theorem kX12_isGround_c57 : sx_cd kX12_isGround 57 = kX12_isGround_57 := rfl
theorem kX12_isGround_ok : sx_okM 12 (sx_M 288) kX12_isGround = true := by decide +kernel
def kX12_layUmpires_0 : List sx_I := [(1, .aload_n 0, []), (1, .iconst (-1), []), (3, .putfield 549, [12, 81, 0]), (1, .lload_n 1, []), (1, .lconst 0, []), (1, .lcmp, []), (3, .ifCond .ne 9, [17]), (1, .aload_n 0, []), (1, .iconst 0, []), (3, .putfield 549, [12, 81, 0]), (1, .return_, [])]
def kX12_layUmpires_17 : List sx_I := [(1, .iconst 0, []), (1, .istore_n 3, []), (0, .nop, [19])]
def kX12_layUmpires_19 : List sx_I := [(1, .iload_n 3, []), (1, .aload_n 0, []), (3, .invokevirtual 395, [0, 218, 1, 12]), (3, .if_icmp .ge 34, [58]), (1, .aload_n 0, []), (3, .getfield 139, [12, 80, 2]), (1, .iload_n 3, []), (1, .aload_n 0, []), (3, .getfield 20, [12, 30, 2]), (1, .iload_n 3, []), (1, .iaload, []), (1, .iconst 1, []), (3, .if_icmp .ne 7, [46]), (1, .lconst 0, []), (3, .goto 8, [51])]
def kX12_layUmpires_46 : List sx_I := [(1, .aload_n 0, []), (1, .iload_n 3, []), (3, .invokevirtual 544, [0, 286, 2, 12]), (0, .nop, [51])]
def kX12_layUmpires_51 : List sx_I := [(1, .lastore, []), (3, .iinc 3 1, []), (3, .goto (-36), [19])]
def kX12_layUmpires_58 : List sx_I := [(1, .iconst 1, []), (1, .istore_n 3, []), (0, .nop, [60])]
def kX12_layUmpires_60 : List sx_I := [(1, .iload_n 3, []), (1, .iconst 4, []), (3, .if_icmp .ge 22, [84]), (1, .aload_n 0, []), (3, .getfield 549, [12, 81, 0]), (3, .ifCond .ge 15, [84]), (1, .aload_n 0, []), (1, .lload_n 1, []), (1, .iload_n 3, []), (3, .invokevirtual 552, [0, 290, 3, 12]), (3, .iinc 3 1, []), (3, .goto (-21), [60])]
def kX12_layUmpires_84 : List sx_I := [(1, .return_, [])]
def kX12_layUmpires : List (Nat × List sx_I) := [(0, kX12_layUmpires_0), (17, kX12_layUmpires_17), (19, kX12_layUmpires_19), (46, kX12_layUmpires_46), (51, kX12_layUmpires_51), (58, kX12_layUmpires_58), (60, kX12_layUmpires_60), (84, kX12_layUmpires_84)]
theorem kX12_layUmpires_c0 : sx_cd kX12_layUmpires 0 = kX12_layUmpires_0 := rfl
theorem kX12_layUmpires_c17 : sx_cd kX12_layUmpires 17 = kX12_layUmpires_17 := rfl
theorem kX12_layUmpires_c19 : sx_cd kX12_layUmpires 19 = kX12_layUmpires_19 := rfl
theorem kX12_layUmpires_c46 : sx_cd kX12_layUmpires 46 = kX12_layUmpires_46 := rfl
theorem kX12_layUmpires_c51 : sx_cd kX12_layUmpires 51 = kX12_layUmpires_51 := rfl
theorem kX12_layUmpires_c58 : sx_cd kX12_layUmpires 58 = kX12_layUmpires_58 := rfl
theorem kX12_layUmpires_c60 : sx_cd kX12_layUmpires 60 = kX12_layUmpires_60 := rfl
theorem kX12_layUmpires_c84 : sx_cd kX12_layUmpires 84 = kX12_layUmpires_84 := rfl
theorem kX12_layUmpires_ok : sx_okM 12 (sx_M 289) kX12_layUmpires = true := by decide +kernel
def kX12_takeUmpires_0 : List sx_I := [(1, .iconst 0, []), (2, .istore 4, []), (0, .nop, [3])]
def kX12_takeUmpires_3 : List sx_I := [(2, .iload 4, []), (1, .aload_n 0, []), (3, .invokevirtual 395, [0, 218, 1, 12]), (3, .if_icmp .ge 226, [235]), (1, .iload_n 3, []), (1, .iconst 1, []), (3, .if_icmp .le 10, [24]), (2, .iload 4, []), (1, .iconst 1, []), (1, .iadd, []), (3, .goto 5, [26])]
def kX12_takeUmpires_24 : List sx_I := [(2, .bipush 47, []), (0, .nop, [26])]
def kX12_takeUmpires_26 : List sx_I := [(2, .istore 5, []), (0, .nop, [28])]
def kX12_takeUmpires_28 : List sx_I := [(2, .iload 5, []), (1, .iload_n 3, []), (1, .iconst 1, []), (3, .if_icmp .le 10, [42]), (1, .aload_n 0, []), (3, .invokevirtual 395, [0, 218, 1, 12]), (3, .goto 5, [44])]
def kX12_takeUmpires_42 : List sx_I := [(2, .bipush 48, []), (0, .nop, [44])]
def kX12_takeUmpires_44 : List sx_I := [(3, .if_icmp .ge 185, [229]), (1, .iload_n 3, []), (1, .iconst 2, []), (3, .if_icmp .le 10, [59]), (2, .iload 5, []), (1, .iconst 1, []), (1, .iadd, []), (3, .goto 5, [61])]
def kX12_takeUmpires_59 : List sx_I := [(2, .bipush 47, []), (0, .nop, [61])]
def kX12_takeUmpires_61 : List sx_I := [(2, .istore 6, []), (0, .nop, [63])]
def kX12_takeUmpires_63 : List sx_I := [(2, .iload 6, []), (1, .iload_n 3, []), (1, .iconst 2, []), (3, .if_icmp .le 10, [77]), (1, .aload_n 0, []), (3, .invokevirtual 395, [0, 218, 1, 12]), (3, .goto 5, [79])]
def kX12_takeUmpires_77 : List sx_I := [(2, .bipush 48, []), (0, .nop, [79])]
def kX12_takeUmpires_79 : List sx_I := [(3, .if_icmp .ge 144, [223]), (1, .aload_n 0, []), (3, .getfield 20, [12, 30, 2]), (2, .iload 4, []), (1, .iaload, []), (1, .iconst 1, []), (3, .if_icmp .eq 127, [217]), (1, .iload_n 3, []), (1, .iconst 1, []), (3, .if_icmp .le 14, [109]), (1, .aload_n 0, []), (3, .getfield 20, [12, 30, 2]), (2, .iload 5, []), (1, .iaload, []), (1, .iconst 1, []), (3, .if_icmp .eq 111, [217]), (0, .nop, [109])]
def kX12_takeUmpires_109 : List sx_I := [(1, .iload_n 3, []), (1, .iconst 2, []), (3, .if_icmp .le 17, [128]), (1, .aload_n 0, []), (3, .getfield 20, [12, 30, 2]), (2, .iload 6, []), (1, .iaload, []), (1, .iconst 1, []), (3, .if_icmp .ne 6, [128]), (3, .goto 92, [217])]
def kX12_takeUmpires_128 : List sx_I := [(1, .aload_n 0, []), (3, .getfield 139, [12, 80, 2]), (2, .iload 4, []), (1, .laload, []), (1, .iload_n 3, []), (1, .iconst 1, []), (3, .if_icmp .le 13, [150]), (1, .aload_n 0, []), (3, .getfield 139, [12, 80, 2]), (2, .iload 5, []), (1, .laload, []), (3, .goto 4, [151])]
def kX12_takeUmpires_150 : List sx_I := [(1, .lconst 0, []), (0, .nop, [151])]
def kX12_takeUmpires_151 : List sx_I := [(1, .lor, []), (1, .iload_n 3, []), (1, .iconst 2, []), (3, .if_icmp .le 13, [167]), (1, .aload_n 0, []), (3, .getfield 139, [12, 80, 2]), (2, .iload 6, []), (1, .laload, []), (3, .goto 4, [168])]
def kX12_takeUmpires_167 : List sx_I := [(1, .lconst 0, []), (0, .nop, [168])]
def kX12_takeUmpires_168 : List sx_I := [(1, .lor, []), (2, .lstore 7, []), (1, .lload_n 1, []), (2, .lload 7, []), (3, .ldc2_w 547, [1, 1]), (1, .lxor, []), (1, .land, []), (1, .lconst 0, []), (1, .lcmp, []), (3, .ifCond .eq 6, [187]), (3, .goto 33, [217])]
def kX12_takeUmpires_187 : List sx_I := [(1, .aload_n 0, []), (1, .iload_n 3, []), (3, .putfield 549, [12, 81, 0]), (1, .aload_n 0, []), (3, .getfield 142, [12, 82, 2]), (1, .iconst 0, []), (2, .iload 4, []), (1, .iastore, []), (1, .aload_n 0, []), (3, .getfield 142, [12, 82, 2]), (1, .iconst 1, []), (2, .iload 5, []), (1, .iastore, []), (1, .aload_n 0, []), (3, .getfield 142, [12, 82, 2]), (1, .iconst 2, []), (2, .iload 6, []), (1, .iastore, []), (1, .return_, [])]
def kX12_takeUmpires_217 : List sx_I := [(3, .iinc 6 1, []), (3, .goto (-157), [63])]
def kX12_takeUmpires_223 : List sx_I := [(3, .iinc 5 1, []), (3, .goto (-198), [28])]
def kX12_takeUmpires_229 : List sx_I := [(3, .iinc 4 1, []), (3, .goto (-229), [3])]
def kX12_takeUmpires_235 : List sx_I := [(1, .return_, [])]
def kX12_takeUmpires : List (Nat × List sx_I) := [(0, kX12_takeUmpires_0), (3, kX12_takeUmpires_3), (24, kX12_takeUmpires_24), (26, kX12_takeUmpires_26), (28, kX12_takeUmpires_28), (42, kX12_takeUmpires_42), (44, kX12_takeUmpires_44), (59, kX12_takeUmpires_59), (61, kX12_takeUmpires_61), (63, kX12_takeUmpires_63), (77, kX12_takeUmpires_77), (79, kX12_takeUmpires_79), (109, kX12_takeUmpires_109), (128, kX12_takeUmpires_128), (150, kX12_takeUmpires_150), (151, kX12_takeUmpires_151), (167, kX12_takeUmpires_167), (168, kX12_takeUmpires_168), (187, kX12_takeUmpires_187), (217, kX12_takeUmpires_217), (223, kX12_takeUmpires_223), (229, kX12_takeUmpires_229), (235, kX12_takeUmpires_235)]
theorem kX12_takeUmpires_c0 : sx_cd kX12_takeUmpires 0 = kX12_takeUmpires_0 := rfl
theorem kX12_takeUmpires_c3 : sx_cd kX12_takeUmpires 3 = kX12_takeUmpires_3 := rfl
theorem kX12_takeUmpires_c24 : sx_cd kX12_takeUmpires 24 = kX12_takeUmpires_24 := rfl
theorem kX12_takeUmpires_c26 : sx_cd kX12_takeUmpires 26 = kX12_takeUmpires_26 := rfl
theorem kX12_takeUmpires_c28 : sx_cd kX12_takeUmpires 28 = kX12_takeUmpires_28 := rfl
theorem kX12_takeUmpires_c42 : sx_cd kX12_takeUmpires 42 = kX12_takeUmpires_42 := rfl
theorem kX12_takeUmpires_c44 : sx_cd kX12_takeUmpires 44 = kX12_takeUmpires_44 := rfl
theorem kX12_takeUmpires_c59 : sx_cd kX12_takeUmpires 59 = kX12_takeUmpires_59 := rfl
theorem kX12_takeUmpires_c61 : sx_cd kX12_takeUmpires 61 = kX12_takeUmpires_61 := rfl
theorem kX12_takeUmpires_c63 : sx_cd kX12_takeUmpires 63 = kX12_takeUmpires_63 := rfl
theorem kX12_takeUmpires_c77 : sx_cd kX12_takeUmpires 77 = kX12_takeUmpires_77 := rfl
theorem kX12_takeUmpires_c79 : sx_cd kX12_takeUmpires 79 = kX12_takeUmpires_79 := rfl
theorem kX12_takeUmpires_c109 : sx_cd kX12_takeUmpires 109 = kX12_takeUmpires_109 := rfl
theorem kX12_takeUmpires_c128 : sx_cd kX12_takeUmpires 128 = kX12_takeUmpires_128 := rfl
theorem kX12_takeUmpires_c150 : sx_cd kX12_takeUmpires 150 = kX12_takeUmpires_150 := rfl
theorem kX12_takeUmpires_c151 : sx_cd kX12_takeUmpires 151 = kX12_takeUmpires_151 := rfl
theorem kX12_takeUmpires_c167 : sx_cd kX12_takeUmpires 167 = kX12_takeUmpires_167 := rfl
theorem kX12_takeUmpires_c168 : sx_cd kX12_takeUmpires 168 = kX12_takeUmpires_168 := rfl
theorem kX12_takeUmpires_c187 : sx_cd kX12_takeUmpires 187 = kX12_takeUmpires_187 := rfl
theorem kX12_takeUmpires_c217 : sx_cd kX12_takeUmpires 217 = kX12_takeUmpires_217 := rfl
theorem kX12_takeUmpires_c223 : sx_cd kX12_takeUmpires 223 = kX12_takeUmpires_223 := rfl
theorem kX12_takeUmpires_c229 : sx_cd kX12_takeUmpires 229 = kX12_takeUmpires_229 := rfl
theorem kX12_takeUmpires_c235 : sx_cd kX12_takeUmpires 235 = kX12_takeUmpires_235 := rfl
theorem kX12_takeUmpires_ok : sx_okM 12 (sx_M 290) kX12_takeUmpires = true := by decide +kernel
def kX12_umpires_0 : List sx_I := [(1, .aload_n 0, []), (1, .iconst 0, []), (3, .putfield 163, [12, 2, 0]), (1, .aload_n 0, []), (1, .lload_n 1, []), (3, .invokevirtual 556, [0, 288, 2, 12]), (3, .ifCond .ne 5, [15]), (1, .iconst (-1), []), (1, .ireturn, [0])]
def kX12_umpires_15 : List sx_I := [(1, .aload_n 0, []), (1, .lload_n 1, []), (3, .invokevirtual 560, [0, 289, 2, 12]), (1, .aload_n 0, []), (3, .getfield 549, [12, 81, 0]), (3, .ifCond .ge 8, [32]), (2, .bipush (-2), []), (3, .goto 7, [36])]
def kX12_umpires_32 : List sx_I := [(1, .aload_n 0, []), (3, .getfield 549, [12, 81, 0]), (0, .nop, [36])]
def kX12_umpires_36 : List sx_I := [(1, .ireturn, [0])]
def kX12_umpires : List (Nat × List sx_I) := [(0, kX12_umpires_0), (15, kX12_umpires_15), (32, kX12_umpires_32), (36, kX12_umpires_36)]
theorem kX12_umpires_c0 : sx_cd kX12_umpires 0 = kX12_umpires_0 := rfl
theorem kX12_umpires_c15 : sx_cd kX12_umpires 15 = kX12_umpires_15 := rfl
theorem kX12_umpires_c32 : sx_cd kX12_umpires 32 = kX12_umpires_32 := rfl
theorem kX12_umpires_c36 : sx_cd kX12_umpires 36 = kX12_umpires_36 := rfl
theorem kX12_umpires_ok : sx_okM 12 (sx_M 291) kX12_umpires = true := by decide +kernel
def kX12_umpire_0 : List sx_I := [(1, .aload_n 0, []), (1, .iconst 0, []), (3, .putfield 163, [12, 2, 0]), (1, .aload_n 0, []), (1, .lload_n 1, []), (3, .invokevirtual 556, [0, 288, 2, 12]), (3, .ifCond .eq 7, [17]), (1, .iload_n 3, []), (3, .ifCond .ge 5, [19]), (0, .nop, [17])]
def kX12_umpire_17 : List sx_I := [(1, .iconst (-1), []), (1, .ireturn, [0])]
def kX12_umpire_19 : List sx_I := [(1, .aload_n 0, []), (1, .lload_n 1, []), (3, .invokevirtual 560, [0, 289, 2, 12]), (1, .iload_n 3, []), (1, .aload_n 0, []), (3, .getfield 549, [12, 81, 0]), (3, .if_icmp .lt 8, [37]), (2, .bipush (-2), []), (3, .goto 9, [43])]
def kX12_umpire_37 : List sx_I := [(1, .aload_n 0, []), (3, .getfield 142, [12, 82, 2]), (1, .iload_n 3, []), (1, .iaload, []), (0, .nop, [43])]
def kX12_umpire_43 : List sx_I := [(1, .ireturn, [0])]
def kX12_umpire : List (Nat × List sx_I) := [(0, kX12_umpire_0), (17, kX12_umpire_17), (19, kX12_umpire_19), (37, kX12_umpire_37), (43, kX12_umpire_43)]
theorem kX12_umpire_c0 : sx_cd kX12_umpire 0 = kX12_umpire_0 := rfl
theorem kX12_umpire_c17 : sx_cd kX12_umpire 17 = kX12_umpire_17 := rfl
theorem kX12_umpire_c19 : sx_cd kX12_umpire 19 = kX12_umpire_19 := rfl
theorem kX12_umpire_c37 : sx_cd kX12_umpire 37 = kX12_umpire_37 := rfl
theorem kX12_umpire_c43 : sx_cd kX12_umpire 43 = kX12_umpire_43 := rfl
theorem kX12_umpire_ok : sx_okM 12 (sx_M 292) kX12_umpire = true := by decide +kernel
def kX12_readMany_0 : List sx_I := [(1, .iconst 0, []), (1, .istore_n 2, []), (1, .iconst 0, []), (1, .istore_n 3, []), (0, .nop, [4])]
def kX12_readMany_4 : List sx_I := [(1, .iload_n 3, []), (1, .aload_n 0, []), (3, .invokevirtual 395, [0, 218, 1, 12]), (3, .if_icmp .ge 26, [35]), (1, .iload_n 2, []), (1, .aload_n 0, []), (1, .iload_n 1, []), (1, .iload_n 3, []), (3, .invokevirtual 435, [0, 233, 3, 12]), (3, .ifCond .lt 7, [26]), (1, .iconst 1, []), (3, .goto 4, [27])]
def kX12_readMany_26 : List sx_I := [(1, .iconst 0, []), (0, .nop, [27])]
def kX12_readMany_27 : List sx_I := [(1, .iadd, []), (1, .istore_n 2, []), (3, .iinc 3 1, []), (3, .goto (-28), [4])]
def kX12_readMany_35 : List sx_I := [(1, .iload_n 2, []), (1, .ireturn, [0])]
def kX12_readMany : List (Nat × List sx_I) := [(0, kX12_readMany_0), (4, kX12_readMany_4), (26, kX12_readMany_26), (27, kX12_readMany_27), (35, kX12_readMany_35)]
theorem kX12_readMany_c0 : sx_cd kX12_readMany 0 = kX12_readMany_0 := rfl
theorem kX12_readMany_c4 : sx_cd kX12_readMany 4 = kX12_readMany_4 := rfl
theorem kX12_readMany_c26 : sx_cd kX12_readMany 26 = kX12_readMany_26 := rfl
theorem kX12_readMany_c27 : sx_cd kX12_readMany 27 = kX12_readMany_27 := rfl
theorem kX12_readMany_c35 : sx_cd kX12_readMany 35 = kX12_readMany_35 := rfl
theorem kX12_readMany_ok : sx_okM 12 (sx_M 293) kX12_readMany = true := by decide +kernel
def kX12_below_0 : List sx_I := [(1, .aload_n 0, []), (1, .iconst 0, []), (3, .putfield 163, [12, 2, 0]), (1, .iload_n 1, []), (1, .iconst 0, []), (3, .sipush 999, []), (3, .invokestatic 208, [4, 178, 3]), (3, .ifCond .ne 5, [18]), (1, .iconst (-1), []), (1, .ireturn, [0])]
def kX12_below_18 : List sx_I := [(1, .aload_n 0, []), (3, .invokevirtual 564, [0, 226, 1, 12]), (1, .aload_n 0, []), (1, .iconst 1, []), (1, .iload_n 1, []), (3, .invokevirtual 471, [0, 245, 3, 12]), (1, .pop, []), (1, .aload_n 0, []), (1, .iconst 1, []), (3, .invokevirtual 567, [0, 293, 2, 12]), (1, .ireturn, [0])]
def kX12_below : List (Nat × List sx_I) := [(0, kX12_below_0), (18, kX12_below_18)]
theorem kX12_below_c0 : sx_cd kX12_below 0 = kX12_below_0 := rfl
theorem kX12_below_c18 : sx_cd kX12_below 18 = kX12_below_18 := rfl
theorem kX12_below_ok : sx_okM 12 (sx_M 294) kX12_below = true := by decide +kernel
def kX12_coverAbove_0 : List sx_I := [(1, .iconst (-1), []), (1, .istore_n 2, []), (1, .iconst 0, []), (1, .istore_n 3, []), (0, .nop, [4])]
def kX12_coverAbove_4 : List sx_I := [(1, .iload_n 3, []), (1, .aload_n 0, []), (3, .getfield 103, [12, 65, 2]), (1, .iconst 0, []), (1, .iaload, []), (3, .if_icmp .ge 49, [60]), (1, .aload_n 0, []), (3, .getfield 91, [12, 61, 2]), (1, .iload_n 3, []), (1, .iaload, []), (3, .ifCond .le 34, [54]), (1, .aload_n 0, []), (3, .getfield 94, [12, 62, 2]), (1, .iload_n 3, []), (1, .iaload, []), (1, .iload_n 1, []), (3, .if_icmp .le 24, [54]), (1, .iload_n 2, []), (3, .ifCond .lt 13, [47]), (1, .aload_n 0, []), (3, .getfield 94, [12, 62, 2]), (1, .iload_n 3, []), (1, .iaload, []), (1, .iload_n 2, []), (3, .if_icmp .ge 10, [54]), (0, .nop, [47])]
def kX12_coverAbove_47 : List sx_I := [(1, .aload_n 0, []), (3, .getfield 94, [12, 62, 2]), (1, .iload_n 3, []), (1, .iaload, []), (1, .istore_n 2, []), (0, .nop, [54])]
def kX12_coverAbove_54 : List sx_I := [(3, .iinc 3 1, []), (3, .goto (-53), [4])]
def kX12_coverAbove_60 : List sx_I := [(1, .iload_n 2, []), (1, .ireturn, [0])]
def kX12_coverAbove : List (Nat × List sx_I) := [(0, kX12_coverAbove_0), (4, kX12_coverAbove_4), (47, kX12_coverAbove_47), (54, kX12_coverAbove_54), (60, kX12_coverAbove_60)]
theorem kX12_coverAbove_c0 : sx_cd kX12_coverAbove 0 = kX12_coverAbove_0 := rfl
theorem kX12_coverAbove_c4 : sx_cd kX12_coverAbove 4 = kX12_coverAbove_4 := rfl
theorem kX12_coverAbove_c47 : sx_cd kX12_coverAbove 47 = kX12_coverAbove_47 := rfl
theorem kX12_coverAbove_c54 : sx_cd kX12_coverAbove 54 = kX12_coverAbove_54 := rfl
theorem kX12_coverAbove_c60 : sx_cd kX12_coverAbove 60 = kX12_coverAbove_60 := rfl
theorem kX12_coverAbove_ok : sx_okM 12 (sx_M 295) kX12_coverAbove = true := by decide +kernel
def kX12_layers_0 : List sx_I := [(1, .aload_n 0, []), (1, .iconst 0, []), (3, .putfield 163, [12, 2, 0]), (1, .iconst 0, []), (1, .istore_n 1, []), (1, .aload_n 0, []), (1, .iconst (-1), []), (3, .invokevirtual 570, [0, 295, 2, 12]), (1, .istore_n 2, []), (0, .nop, [13])]
def kX12_layers_13 : List sx_I := [(1, .iload_n 2, []), (3, .ifCond .lt 15, [29]), (3, .iinc 1 1, []), (1, .aload_n 0, []), (1, .iload_n 2, []), (3, .invokevirtual 570, [0, 295, 2, 12]), (1, .istore_n 2, []), (3, .goto (-13), [13])]
def kX12_layers_29 : List sx_I := [(1, .iload_n 1, []), (1, .ireturn, [0])]
def kX12_layers : List (Nat × List sx_I) := [(0, kX12_layers_0), (13, kX12_layers_13), (29, kX12_layers_29)]
theorem kX12_layers_c0 : sx_cd kX12_layers 0 = kX12_layers_0 := rfl
theorem kX12_layers_c13 : sx_cd kX12_layers 13 = kX12_layers_13 := rfl
theorem kX12_layers_c29 : sx_cd kX12_layers 29 = kX12_layers_29 := rfl
theorem kX12_layers_ok : sx_okM 12 (sx_M 296) kX12_layers = true := by decide +kernel
def kX12_layer_0 : List sx_I := [(1, .aload_n 0, []), (1, .iconst 0, []), (3, .putfield 163, [12, 2, 0]), (1, .iload_n 1, []), (3, .ifCond .ge 5, [11]), (1, .iconst (-1), []), (1, .ireturn, [0])]
def kX12_layer_11 : List sx_I := [(1, .aload_n 0, []), (1, .iconst (-1), []), (3, .invokevirtual 570, [0, 295, 2, 12]), (1, .istore_n 2, []), (1, .iconst 0, []), (1, .istore_n 3, []), (0, .nop, [19])]
def kX12_layer_19 : List sx_I := [(1, .iload_n 3, []), (1, .iload_n 1, []), (3, .if_icmp .ge 19, [40]), (1, .iload_n 2, []), (3, .ifCond .lt 15, [40]), (1, .aload_n 0, []), (1, .iload_n 2, []), (3, .invokevirtual 570, [0, 295, 2, 12]), (1, .istore_n 2, []), (3, .iinc 3 1, []), (3, .goto (-18), [19])]
def kX12_layer_40 : List sx_I := [(1, .iload_n 2, []), (3, .ifCond .ge 8, [49]), (2, .bipush (-2), []), (3, .goto 4, [50])]
def kX12_layer_49 : List sx_I := [(1, .iload_n 2, []), (0, .nop, [50])]
def kX12_layer_50 : List sx_I := [(1, .ireturn, [0])]
def kX12_layer : List (Nat × List sx_I) := [(0, kX12_layer_0), (11, kX12_layer_11), (19, kX12_layer_19), (40, kX12_layer_40), (49, kX12_layer_49), (50, kX12_layer_50)]
theorem kX12_layer_c0 : sx_cd kX12_layer 0 = kX12_layer_0 := rfl
theorem kX12_layer_c11 : sx_cd kX12_layer 11 = kX12_layer_11 := rfl
theorem kX12_layer_c19 : sx_cd kX12_layer 19 = kX12_layer_19 := rfl
theorem kX12_layer_c40 : sx_cd kX12_layer 40 = kX12_layer_40 := rfl
theorem kX12_layer_c49 : sx_cd kX12_layer 49 = kX12_layer_49 := rfl
theorem kX12_layer_c50 : sx_cd kX12_layer 50 = kX12_layer_50 := rfl
theorem kX12_layer_ok : sx_okM 12 (sx_M 297) kX12_layer = true := by decide +kernel
def kX12_chance_0 : List sx_I := [(1, .aload_n 0, []), (1, .iconst 0, []), (3, .putfield 163, [12, 2, 0]), (1, .iload_n 1, []), (3, .ifCond .lt 47, [53]), (1, .iload_n 2, []), (1, .iconst 1, []), (2, .bipush 9, []), (3, .invokestatic 208, [4, 178, 3]), (3, .ifCond .eq 37, [53]), (1, .aload_n 0, []), (1, .iload_n 3, []), (3, .invokevirtual 491, [0, 221, 2, 12]), (3, .ifCond .eq 29, [53]), (2, .iload 4, []), (1, .iconst 0, []), (3, .sipush 9999, []), (3, .invokestatic 208, [4, 178, 3]), (3, .ifCond .eq 17, [53]), (1, .aload_n 0, []), (3, .getfield 109, [12, 67, 2]), (1, .iconst 0, []), (1, .iaload, []), (1, .iload_n 2, []), (1, .iadd, []), (3, .sipush 9999, []), (3, .if_icmp .le 5, [55]), (0, .nop, [53])]
def kX12_chance_53 : List sx_I := [(1, .iconst (-1), []), (1, .ireturn, [0])]
def kX12_chance_55 : List sx_I := [(1, .aload_n 0, []), (3, .getfield 404, [12, 73, 1]), (2, .lstore 5, []), (1, .aload_n 0, []), (1, .iload_n 1, []), (1, .i2l, []), (3, .putfield 404, [12, 73, 1]), (1, .iconst 0, []), (2, .istore 7, []), (1, .iconst 0, []), (2, .istore 8, []), (0, .nop, [73])]
def kX12_chance_73 : List sx_I := [(2, .iload 8, []), (2, .bipush 10, []), (3, .if_icmp .ge 55, [132]), (1, .aload_n 0, []), (3, .invokevirtual 564, [0, 226, 1, 12]), (1, .iconst 0, []), (2, .istore 9, []), (0, .nop, [87])]
def kX12_chance_87 : List sx_I := [(2, .iload 9, []), (1, .iload_n 2, []), (3, .if_icmp .ge 15, [105]), (1, .aload_n 0, []), (1, .iconst 1, []), (3, .invokevirtual 485, [0, 250, 2, 12]), (1, .pop, []), (3, .iinc 9 1, []), (3, .goto (-15), [87])]
def kX12_chance_105 : List sx_I := [(2, .iload 7, []), (1, .aload_n 0, []), (1, .iconst 1, []), (1, .iload_n 3, []), (3, .invokevirtual 488, [0, 234, 3, 12]), (2, .iload 4, []), (3, .if_icmp .lt 7, [122]), (1, .iconst 1, []), (3, .goto 4, [123])]
def kX12_chance_122 : List sx_I := [(1, .iconst 0, []), (0, .nop, [123])]
def kX12_chance_123 : List sx_I := [(1, .iadd, []), (2, .istore 7, []), (3, .iinc 8 1, []), (3, .goto (-56), [73])]
def kX12_chance_132 : List sx_I := [(1, .aload_n 0, []), (2, .lload 5, []), (3, .putfield 404, [12, 73, 1]), (2, .iload 7, []), (1, .ireturn, [0])]
def kX12_chance : List (Nat × List sx_I) := [(0, kX12_chance_0), (53, kX12_chance_53), (55, kX12_chance_55), (73, kX12_chance_73), (87, kX12_chance_87), (105, kX12_chance_105), (122, kX12_chance_122), (123, kX12_chance_123), (132, kX12_chance_132)]
theorem kX12_chance_c0 : sx_cd kX12_chance 0 = kX12_chance_0 := rfl
theorem kX12_chance_c53 : sx_cd kX12_chance 53 = kX12_chance_53 := rfl
theorem kX12_chance_c55 : sx_cd kX12_chance 55 = kX12_chance_55 := rfl
theorem kX12_chance_c73 : sx_cd kX12_chance 73 = kX12_chance_73 := rfl
theorem kX12_chance_c87 : sx_cd kX12_chance 87 = kX12_chance_87 := rfl
theorem kX12_chance_c105 : sx_cd kX12_chance 105 = kX12_chance_105 := rfl
theorem kX12_chance_c122 : sx_cd kX12_chance 122 = kX12_chance_122 := rfl
theorem kX12_chance_c123 : sx_cd kX12_chance 123 = kX12_chance_123 := rfl
theorem kX12_chance_c132 : sx_cd kX12_chance 132 = kX12_chance_132 := rfl
theorem kX12_chance_ok : sx_okM 12 (sx_M 298) kX12_chance = true := by decide +kernel
def kX12_tried_0 : List sx_I := [(1, .aload_n 0, []), (1, .iconst 0, []), (3, .putfield 163, [12, 2, 0]), (1, .aload_n 0, []), (1, .iload_n 1, []), (3, .invokevirtual 491, [0, 221, 2, 12]), (3, .ifCond .eq 12, [22]), (1, .iload_n 2, []), (1, .iconst 0, []), (1, .iconst 4, []), (3, .invokestatic 208, [4, 178, 3]), (3, .ifCond .ne 5, [24]), (0, .nop, [22])]
def kX12_tried_22 : List sx_I := [(1, .iconst (-1), []), (1, .ireturn, [0])]
def kX12_tried_24 : List sx_I := [(1, .iload_n 2, []), (1, .iconst 1, []), (3, .if_icmp .ne 14, [40]), (1, .aload_n 0, []), (1, .iload_n 3, []), (3, .invokevirtual 445, [0, 220, 2, 12]), (3, .ifCond .ne 30, [64]), (3, .goto 25, [62])]
def kX12_tried_40 : List sx_I := [(1, .iload_n 2, []), (1, .iconst 4, []), (3, .if_icmp .ne 16, [58]), (1, .iload_n 3, []), (1, .iconst 0, []), (2, .bipush 99, []), (3, .invokestatic 208, [4, 178, 3]), (3, .ifCond .ne 12, [64]), (3, .goto 7, [62])]
def kX12_tried_58 : List sx_I := [(1, .iload_n 3, []), (3, .ifCond .eq 5, [64]), (0, .nop, [62])]
def kX12_tried_62 : List sx_I := [(1, .iconst (-1), []), (1, .ireturn, [0])]
def kX12_tried_64 : List sx_I := [(1, .aload_n 0, []), (3, .invokevirtual 564, [0, 226, 1, 12]), (2, .bipush 90, []), (2, .istore 4, []), (0, .nop, [72])]
def kX12_tried_72 : List sx_I := [(2, .iload 4, []), (2, .bipush 90, []), (1, .aload_n 0, []), (3, .getfield 103, [12, 65, 2]), (1, .iconst 1, []), (1, .iaload, []), (1, .iadd, []), (3, .if_icmp .ge 77, [160]), (1, .iload_n 2, []), (3, .ifCond .ne 11, [98]), (1, .aload_n 0, []), (3, .getfield 94, [12, 62, 2]), (2, .iload 4, []), (1, .iconst 0, []), (1, .iastore, []), (0, .nop, [98])]
def kX12_tried_98 : List sx_I := [(1, .iload_n 2, []), (1, .iconst 1, []), (3, .if_icmp .ne 22, [122]), (1, .aload_n 0, []), (3, .getfield 79, [12, 57, 2]), (2, .iload 4, []), (1, .iaload, []), (1, .iload_n 3, []), (3, .if_icmp .ne 11, [122]), (1, .aload_n 0, []), (3, .getfield 91, [12, 61, 2]), (2, .iload 4, []), (1, .iconst 0, []), (1, .iastore, []), (0, .nop, [122])]
def kX12_tried_122 : List sx_I := [(1, .iload_n 2, []), (1, .iconst 2, []), (3, .if_icmp .ne 11, [135]), (1, .aload_n 0, []), (3, .getfield 100, [12, 64, 2]), (2, .iload 4, []), (1, .iconst 0, []), (1, .bastore, [4]), (0, .nop, [135])]
def kX12_tried_135 : List sx_I := [(1, .iload_n 2, []), (1, .iconst 3, []), (3, .if_icmp .ne 17, [154]), (1, .aload_n 0, []), (3, .getfield 79, [12, 57, 2]), (2, .iload 4, []), (1, .aload_n 0, []), (3, .getfield 97, [12, 63, 2]), (2, .iload 4, []), (1, .iaload, []), (1, .iastore, []), (0, .nop, [154])]
def kX12_tried_154 : List sx_I := [(3, .iinc 4 1, []), (3, .goto (-85), [72])]
def kX12_tried_160 : List sx_I := [(1, .iload_n 2, []), (1, .iconst 4, []), (3, .if_icmp .ne 10, [172]), (1, .aload_n 0, []), (1, .iconst 1, []), (1, .iload_n 3, []), (3, .invokevirtual 471, [0, 245, 3, 12]), (1, .pop, []), (0, .nop, [172])]
def kX12_tried_172 : List sx_I := [(1, .aload_n 0, []), (1, .iconst 1, []), (1, .iload_n 1, []), (3, .invokevirtual 488, [0, 234, 3, 12]), (1, .ireturn, [0])]
def kX12_tried : List (Nat × List sx_I) := [(0, kX12_tried_0), (22, kX12_tried_22), (24, kX12_tried_24), (40, kX12_tried_40), (58, kX12_tried_58), (62, kX12_tried_62), (64, kX12_tried_64), (72, kX12_tried_72), (98, kX12_tried_98), (122, kX12_tried_122), (135, kX12_tried_135), (154, kX12_tried_154), (160, kX12_tried_160), (172, kX12_tried_172)]
theorem kX12_tried_c0 : sx_cd kX12_tried 0 = kX12_tried_0 := rfl
theorem kX12_tried_c22 : sx_cd kX12_tried 22 = kX12_tried_22 := rfl
theorem kX12_tried_c24 : sx_cd kX12_tried 24 = kX12_tried_24 := rfl
theorem kX12_tried_c40 : sx_cd kX12_tried 40 = kX12_tried_40 := rfl
theorem kX12_tried_c58 : sx_cd kX12_tried 58 = kX12_tried_58 := rfl
theorem kX12_tried_c62 : sx_cd kX12_tried 62 = kX12_tried_62 := rfl
theorem kX12_tried_c64 : sx_cd kX12_tried 64 = kX12_tried_64 := rfl
theorem kX12_tried_c72 : sx_cd kX12_tried 72 = kX12_tried_72 := rfl
theorem kX12_tried_c98 : sx_cd kX12_tried 98 = kX12_tried_98 := rfl
theorem kX12_tried_c122 : sx_cd kX12_tried 122 = kX12_tried_122 := rfl
theorem kX12_tried_c135 : sx_cd kX12_tried 135 = kX12_tried_135 := rfl
theorem kX12_tried_c154 : sx_cd kX12_tried 154 = kX12_tried_154 := rfl
theorem kX12_tried_c160 : sx_cd kX12_tried 160 = kX12_tried_160 := rfl
theorem kX12_tried_c172 : sx_cd kX12_tried 172 = kX12_tried_172 := rfl
theorem kX12_tried_ok : sx_okM 12 (sx_M 299) kX12_tried = true := by decide +kernel
def kX12_keepWalkers_0 : List sx_I := [(1, .iconst 0, []), (1, .istore_n 3, []), (0, .nop, [2])]
def kX12_keepWalkers_2 : List sx_I := [(1, .iload_n 3, []), (1, .iconst 5, []), (3, .if_icmp .ge 47, [51]), (1, .aload_n 1, []), (1, .iload_n 2, []), (1, .iload_n 3, []), (1, .iadd, []), (1, .aload_n 0, []), (3, .getfield 112, [12, 68, 2]), (1, .iload_n 3, []), (1, .iaload, []), (1, .iastore, []), (1, .aload_n 1, []), (1, .iload_n 2, []), (1, .iconst 5, []), (1, .iadd, []), (1, .iload_n 3, []), (1, .iadd, []), (1, .aload_n 0, []), (3, .getfield 115, [12, 69, 2]), (1, .iload_n 3, []), (1, .iaload, []), (1, .iastore, []), (1, .aload_n 1, []), (1, .iload_n 2, []), (2, .bipush 10, []), (1, .iadd, []), (1, .iload_n 3, []), (1, .iadd, []), (1, .aload_n 0, []), (3, .getfield 118, [12, 70, 2]), (1, .iload_n 3, []), (1, .iaload, []), (1, .iastore, []), (3, .iinc 3 1, []), (3, .goto (-46), [2])]
def kX12_keepWalkers_51 : List sx_I := [(1, .aload_n 1, []), (1, .iload_n 2, []), (2, .bipush 15, []), (1, .iadd, []), (1, .aload_n 0, []), (3, .getfield 103, [12, 65, 2]), (1, .iconst 0, []), (1, .iaload, []), (1, .iastore, []), (1, .return_, [])]
def kX12_keepWalkers : List (Nat × List sx_I) := [(0, kX12_keepWalkers_0), (2, kX12_keepWalkers_2), (51, kX12_keepWalkers_51)]
theorem kX12_keepWalkers_c0 : sx_cd kX12_keepWalkers 0 = kX12_keepWalkers_0 := rfl
theorem kX12_keepWalkers_c2 : sx_cd kX12_keepWalkers 2 = kX12_keepWalkers_2 := rfl
theorem kX12_keepWalkers_c51 : sx_cd kX12_keepWalkers 51 = kX12_keepWalkers_51 := rfl
theorem kX12_keepWalkers_ok : sx_okM 12 (sx_M 300) kX12_keepWalkers = true := by decide +kernel
def kX12_takeWalkers_0 : List sx_I := [(1, .iconst 0, []), (1, .istore_n 3, []), (0, .nop, [2])]
def kX12_takeWalkers_2 : List sx_I := [(1, .iload_n 3, []), (1, .iconst 5, []), (3, .if_icmp .ge 47, [51]), (1, .aload_n 0, []), (3, .getfield 112, [12, 68, 2]), (1, .iload_n 3, []), (1, .aload_n 1, []), (1, .iload_n 2, []), (1, .iload_n 3, []), (1, .iadd, []), (1, .iaload, []), (1, .iastore, []), (1, .aload_n 0, []), (3, .getfield 115, [12, 69, 2]), (1, .iload_n 3, []), (1, .aload_n 1, []), (1, .iload_n 2, []), (1, .iconst 5, []), (1, .iadd, []), (1, .iload_n 3, []), (1, .iadd, []), (1, .iaload, []), (1, .iastore, []), (1, .aload_n 0, []), (3, .getfield 118, [12, 70, 2]), (1, .iload_n 3, []), (1, .aload_n 1, []), (1, .iload_n 2, []), (2, .bipush 10, []), (1, .iadd, []), (1, .iload_n 3, []), (1, .iadd, []), (1, .iaload, []), (1, .iastore, []), (3, .iinc 3 1, []), (3, .goto (-46), [2])]
def kX12_takeWalkers_51 : List sx_I := [(1, .aload_n 0, []), (3, .getfield 103, [12, 65, 2]), (1, .iconst 0, []), (1, .aload_n 1, []), (1, .iload_n 2, []), (2, .bipush 15, []), (1, .iadd, []), (1, .iaload, []), (1, .iastore, []), (1, .return_, [])]
def kX12_takeWalkers : List (Nat × List sx_I) := [(0, kX12_takeWalkers_0), (2, kX12_takeWalkers_2), (51, kX12_takeWalkers_51)]
theorem kX12_takeWalkers_c0 : sx_cd kX12_takeWalkers 0 = kX12_takeWalkers_0 := rfl
theorem kX12_takeWalkers_c2 : sx_cd kX12_takeWalkers 2 = kX12_takeWalkers_2 := rfl
theorem kX12_takeWalkers_c51 : sx_cd kX12_takeWalkers 51 = kX12_takeWalkers_51 := rfl
theorem kX12_takeWalkers_ok : sx_okM 12 (sx_M 301) kX12_takeWalkers = true := by decide +kernel
def kX12_remember_0 : List sx_I := [(1, .aload_n 0, []), (3, .getfield 411, [12, 83, 0]), (2, .bipush 20, []), (3, .if_icmp .ne 43, [49]), (1, .iconst 0, []), (1, .istore_n 1, []), (0, .nop, [11])]
def kX12_remember_11 : List sx_I := [(1, .iload_n 1, []), (3, .sipush 2014, []), (3, .if_icmp .ge 24, [39]), (1, .aload_n 0, []), (3, .getfield 145, [12, 84, 2]), (1, .iload_n 1, []), (1, .aload_n 0, []), (3, .getfield 145, [12, 84, 2]), (1, .iload_n 1, []), (2, .bipush 106, []), (1, .iadd, []), (1, .iaload, []), (1, .iastore, []), (3, .iinc 1 1, []), (3, .goto (-25), [11])]
def kX12_remember_39 : List sx_I := [(1, .aload_n 0, []), (1, .dup, []), (3, .getfield 411, [12, 83, 0]), (1, .iconst 1, []), (1, .isub, []), (3, .putfield 411, [12, 83, 0]), (0, .nop, [49])]
def kX12_remember_49 : List sx_I := [(2, .bipush 106, []), (1, .aload_n 0, []), (3, .getfield 411, [12, 83, 0]), (1, .imul, []), (1, .istore_n 1, []), (1, .aload_n 0, []), (1, .aload_n 0, []), (3, .getfield 145, [12, 84, 2]), (1, .iload_n 1, []), (3, .invokevirtual 573, [0, 300, 3, 12]), (1, .iconst 0, []), (1, .istore_n 2, []), (0, .nop, [68])]
def kX12_remember_68 : List sx_I := [(1, .iload_n 2, []), (1, .aload_n 0, []), (3, .getfield 103, [12, 65, 2]), (1, .iconst 0, []), (1, .iaload, []), (3, .if_icmp .ge 34, [109]), (1, .aload_n 0, []), (3, .getfield 145, [12, 84, 2]), (1, .iload_n 1, []), (2, .bipush 16, []), (1, .iadd, []), (1, .iload_n 2, []), (1, .iadd, []), (1, .aload_n 0, []), (3, .getfield 100, [12, 64, 2]), (1, .iload_n 2, []), (1, .baload, [4]), (3, .ifCond .eq 7, [101]), (1, .iconst 1, []), (3, .goto 4, [102])]
def kX12_remember_101 : List sx_I := [(1, .iconst 0, []), (0, .nop, [102])]
def kX12_remember_102 : List sx_I := [(1, .iastore, []), (3, .iinc 2 1, []), (3, .goto (-38), [68])]
def kX12_remember_109 : List sx_I := [(1, .aload_n 0, []), (1, .dup, []), (3, .getfield 411, [12, 83, 0]), (1, .iconst 1, []), (1, .iadd, []), (3, .putfield 411, [12, 83, 0]), (1, .return_, [])]
def kX12_remember : List (Nat × List sx_I) := [(0, kX12_remember_0), (11, kX12_remember_11), (39, kX12_remember_39), (49, kX12_remember_49), (68, kX12_remember_68), (101, kX12_remember_101), (102, kX12_remember_102), (109, kX12_remember_109)]
theorem kX12_remember_c0 : sx_cd kX12_remember 0 = kX12_remember_0 := rfl
theorem kX12_remember_c11 : sx_cd kX12_remember 11 = kX12_remember_11 := rfl
theorem kX12_remember_c39 : sx_cd kX12_remember 39 = kX12_remember_39 := rfl
theorem kX12_remember_c49 : sx_cd kX12_remember 49 = kX12_remember_49 := rfl
theorem kX12_remember_c68 : sx_cd kX12_remember 68 = kX12_remember_68 := rfl
theorem kX12_remember_c101 : sx_cd kX12_remember 101 = kX12_remember_101 := rfl
theorem kX12_remember_c102 : sx_cd kX12_remember 102 = kX12_remember_102 := rfl
theorem kX12_remember_c109 : sx_cd kX12_remember 109 = kX12_remember_109 := rfl
theorem kX12_remember_ok : sx_okM 12 (sx_M 302) kX12_remember = true := by decide +kernel
def kX12_undo_0 : List sx_I := [(1, .aload_n 0, []), (1, .iconst 0, []), (3, .putfield 163, [12, 2, 0]), (1, .aload_n 0, []), (3, .getfield 411, [12, 83, 0]), (3, .ifCond .ne 5, [14]), (1, .iconst (-1), []), (1, .ireturn, [0])]
def kX12_undo_14 : List sx_I := [(1, .aload_n 0, []), (1, .dup, []), (3, .getfield 411, [12, 83, 0]), (1, .iconst 1, []), (1, .isub, []), (3, .putfield 411, [12, 83, 0]), (2, .bipush 106, []), (1, .aload_n 0, []), (3, .getfield 411, [12, 83, 0]), (1, .imul, []), (1, .istore_n 1, []), (1, .aload_n 0, []), (1, .aload_n 0, []), (3, .getfield 145, [12, 84, 2]), (1, .iload_n 1, []), (3, .invokevirtual 576, [0, 301, 3, 12]), (1, .iconst 0, []), (1, .istore_n 2, []), (0, .nop, [43])]
def kX12_undo_43 : List sx_I := [(1, .iload_n 2, []), (1, .aload_n 0, []), (3, .getfield 103, [12, 65, 2]), (1, .iconst 0, []), (1, .iaload, []), (3, .if_icmp .ge 35, [85]), (1, .aload_n 0, []), (3, .getfield 100, [12, 64, 2]), (1, .iload_n 2, []), (1, .aload_n 0, []), (3, .getfield 145, [12, 84, 2]), (1, .iload_n 1, []), (2, .bipush 16, []), (1, .iadd, []), (1, .iload_n 2, []), (1, .iadd, []), (1, .iaload, []), (1, .iconst 1, []), (3, .if_icmp .ne 7, [77]), (1, .iconst 1, []), (3, .goto 4, [78])]
def kX12_undo_77 : List sx_I := [(1, .iconst 0, []), (0, .nop, [78])]
def kX12_undo_78 : List sx_I := [(1, .bastore, [4]), (3, .iinc 2 1, []), (3, .goto (-39), [43])]
def kX12_undo_85 : List sx_I := [(1, .aload_n 0, []), (3, .getfield 411, [12, 83, 0]), (1, .ireturn, [0])]
def kX12_undo : List (Nat × List sx_I) := [(0, kX12_undo_0), (14, kX12_undo_14), (43, kX12_undo_43), (77, kX12_undo_77), (78, kX12_undo_78), (85, kX12_undo_85)]
theorem kX12_undo_c0 : sx_cd kX12_undo 0 = kX12_undo_0 := rfl
theorem kX12_undo_c14 : sx_cd kX12_undo 14 = kX12_undo_14 := rfl
theorem kX12_undo_c43 : sx_cd kX12_undo 43 = kX12_undo_43 := rfl
theorem kX12_undo_c77 : sx_cd kX12_undo 77 = kX12_undo_77 := rfl
theorem kX12_undo_c78 : sx_cd kX12_undo 78 = kX12_undo_78 := rfl
theorem kX12_undo_c85 : sx_cd kX12_undo 85 = kX12_undo_85 := rfl
theorem kX12_undo_ok : sx_okM 12 (sx_M 303) kX12_undo = true := by decide +kernel
def kX12_keep_0 : List sx_I := [(1, .aload_n 0, []), (1, .iconst 0, []), (3, .putfield 163, [12, 2, 0]), (1, .aload_n 0, []), (1, .iconst 1, []), (3, .putfield 414, [12, 85, 3]), (1, .aload_n 0, []), (1, .aload_n 0, []), (3, .getfield 148, [12, 86, 2]), (1, .iconst 0, []), (3, .invokevirtual 573, [0, 300, 3, 12]), (1, .iconst 0, []), (1, .istore_n 1, []), (0, .nop, [21])]
def kX12_keep_21 : List sx_I := [(1, .iload_n 1, []), (1, .aload_n 0, []), (3, .getfield 103, [12, 65, 2]), (1, .iconst 0, []), (1, .iaload, []), (3, .if_icmp .ge 153, [181]), (1, .aload_n 0, []), (3, .getfield 151, [12, 87, 2]), (2, .bipush 8, []), (1, .iload_n 1, []), (1, .imul, []), (1, .aload_n 0, []), (3, .getfield 79, [12, 57, 2]), (1, .iload_n 1, []), (1, .iaload, []), (1, .iastore, []), (1, .aload_n 0, []), (3, .getfield 151, [12, 87, 2]), (2, .bipush 8, []), (1, .iload_n 1, []), (1, .imul, []), (1, .iconst 1, []), (1, .iadd, []), (1, .aload_n 0, []), (3, .getfield 82, [12, 58, 2]), (1, .iload_n 1, []), (1, .iaload, []), (1, .iastore, []), (1, .aload_n 0, []), (3, .getfield 151, [12, 87, 2]), (2, .bipush 8, []), (1, .iload_n 1, []), (1, .imul, []), (1, .iconst 2, []), (1, .iadd, []), (1, .aload_n 0, []), (3, .getfield 85, [12, 59, 2]), (1, .iload_n 1, []), (1, .iaload, []), (1, .iastore, []), (1, .aload_n 0, []), (3, .getfield 151, [12, 87, 2]), (2, .bipush 8, []), (1, .iload_n 1, []), (1, .imul, []), (1, .iconst 3, []), (1, .iadd, []), (1, .aload_n 0, []), (3, .getfield 88, [12, 60, 2]), (1, .iload_n 1, []), (1, .iaload, []), (1, .iastore, []), (1, .aload_n 0, []), (3, .getfield 151, [12, 87, 2]), (2, .bipush 8, []), (1, .iload_n 1, []), (1, .imul, []), (1, .iconst 4, []), (1, .iadd, []), (1, .aload_n 0, []), (3, .getfield 91, [12, 61, 2]), (1, .iload_n 1, []), (1, .iaload, []), (1, .iastore, []), (1, .aload_n 0, []), (3, .getfield 151, [12, 87, 2]), (2, .bipush 8, []), (1, .iload_n 1, []), (1, .imul, []), (1, .iconst 5, []), (1, .iadd, []), (1, .aload_n 0, []), (3, .getfield 94, [12, 62, 2]), (1, .iload_n 1, []), (1, .iaload, []), (1, .iastore, []), (1, .aload_n 0, []), (3, .getfield 151, [12, 87, 2]), (2, .bipush 8, []), (1, .iload_n 1, []), (1, .imul, []), (2, .bipush 6, []), (1, .iadd, []), (1, .aload_n 0, []), (3, .getfield 97, [12, 63, 2]), (1, .iload_n 1, []), (1, .iaload, []), (1, .iastore, []), (1, .aload_n 0, []), (3, .getfield 151, [12, 87, 2]), (2, .bipush 8, []), (1, .iload_n 1, []), (1, .imul, []), (2, .bipush 7, []), (1, .iadd, []), (1, .aload_n 0, []), (3, .getfield 100, [12, 64, 2]), (1, .iload_n 1, []), (1, .baload, [4]), (3, .ifCond .eq 7, [173]), (1, .iconst 1, []), (3, .goto 4, [174])]
def kX12_keep_173 : List sx_I := [(1, .iconst 0, []), (0, .nop, [174])]
def kX12_keep_174 : List sx_I := [(1, .iastore, []), (3, .iinc 1 1, []), (3, .goto (-157), [21])]
def kX12_keep_181 : List sx_I := [(1, .iconst 0, []), (1, .istore_n 1, []), (0, .nop, [183])]
def kX12_keep_183 : List sx_I := [(1, .iload_n 1, []), (1, .iconst 3, []), (3, .if_icmp .ge 21, [206]), (1, .aload_n 0, []), (3, .getfield 154, [12, 88, 2]), (1, .iload_n 1, []), (1, .aload_n 0, []), (3, .getfield 121, [12, 71, 2]), (1, .iload_n 1, []), (1, .iaload, []), (1, .iastore, []), (3, .iinc 1 1, []), (3, .goto (-20), [183])]
def kX12_keep_206 : List sx_I := [(1, .aload_n 0, []), (1, .aload_n 0, []), (3, .getfield 106, [12, 66, 2]), (1, .iconst 0, []), (1, .iaload, []), (3, .putfield 579, [12, 89, 0]), (1, .aload_n 0, []), (1, .aload_n 0, []), (3, .getfield 109, [12, 67, 2]), (1, .iconst 0, []), (1, .iaload, []), (3, .putfield 582, [12, 90, 0]), (1, .aload_n 0, []), (1, .aload_n 0, []), (3, .getfield 401, [12, 72, 0]), (3, .putfield 585, [12, 91, 0]), (1, .aload_n 0, []), (1, .aload_n 0, []), (3, .getfield 404, [12, 73, 1]), (3, .putfield 588, [12, 92, 1]), (1, .aload_n 0, []), (3, .getfield 109, [12, 67, 2]), (1, .iconst 0, []), (1, .iaload, []), (1, .ireturn, [0])]
def kX12_keep : List (Nat × List sx_I) := [(0, kX12_keep_0), (21, kX12_keep_21), (173, kX12_keep_173), (174, kX12_keep_174), (181, kX12_keep_181), (183, kX12_keep_183), (206, kX12_keep_206)]
theorem kX12_keep_c0 : sx_cd kX12_keep 0 = kX12_keep_0 := rfl
theorem kX12_keep_c21 : sx_cd kX12_keep 21 = kX12_keep_21 := rfl
theorem kX12_keep_c173 : sx_cd kX12_keep 173 = kX12_keep_173 := rfl
theorem kX12_keep_c174 : sx_cd kX12_keep 174 = kX12_keep_174 := rfl
theorem kX12_keep_c181 : sx_cd kX12_keep 181 = kX12_keep_181 := rfl
theorem kX12_keep_c183 : sx_cd kX12_keep 183 = kX12_keep_183 := rfl
theorem kX12_keep_c206 : sx_cd kX12_keep 206 = kX12_keep_206 := rfl
theorem kX12_keep_ok : sx_okM 12 (sx_M 304) kX12_keep = true := by decide +kernel
def kX12_back_0 : List sx_I := [(1, .aload_n 0, []), (1, .iconst 0, []), (3, .putfield 163, [12, 2, 0]), (1, .aload_n 0, []), (3, .getfield 414, [12, 85, 3]), (3, .ifCond .ne 5, [14]), (1, .iconst (-1), []), (1, .ireturn, [0])]
def kX12_back_14 : List sx_I := [(1, .aload_n 0, []), (1, .aload_n 0, []), (3, .getfield 148, [12, 86, 2]), (1, .iconst 0, []), (3, .invokevirtual 576, [0, 301, 3, 12]), (1, .iconst 0, []), (1, .istore_n 1, []), (0, .nop, [25])]
def kX12_back_25 : List sx_I := [(1, .iload_n 1, []), (1, .aload_n 0, []), (3, .getfield 103, [12, 65, 2]), (1, .iconst 0, []), (1, .iaload, []), (3, .if_icmp .ge 154, [186]), (1, .aload_n 0, []), (3, .getfield 79, [12, 57, 2]), (1, .iload_n 1, []), (1, .aload_n 0, []), (3, .getfield 151, [12, 87, 2]), (2, .bipush 8, []), (1, .iload_n 1, []), (1, .imul, []), (1, .iaload, []), (1, .iastore, []), (1, .aload_n 0, []), (3, .getfield 82, [12, 58, 2]), (1, .iload_n 1, []), (1, .aload_n 0, []), (3, .getfield 151, [12, 87, 2]), (2, .bipush 8, []), (1, .iload_n 1, []), (1, .imul, []), (1, .iconst 1, []), (1, .iadd, []), (1, .iaload, []), (1, .iastore, []), (1, .aload_n 0, []), (3, .getfield 85, [12, 59, 2]), (1, .iload_n 1, []), (1, .aload_n 0, []), (3, .getfield 151, [12, 87, 2]), (2, .bipush 8, []), (1, .iload_n 1, []), (1, .imul, []), (1, .iconst 2, []), (1, .iadd, []), (1, .iaload, []), (1, .iastore, []), (1, .aload_n 0, []), (3, .getfield 88, [12, 60, 2]), (1, .iload_n 1, []), (1, .aload_n 0, []), (3, .getfield 151, [12, 87, 2]), (2, .bipush 8, []), (1, .iload_n 1, []), (1, .imul, []), (1, .iconst 3, []), (1, .iadd, []), (1, .iaload, []), (1, .iastore, []), (1, .aload_n 0, []), (3, .getfield 91, [12, 61, 2]), (1, .iload_n 1, []), (1, .aload_n 0, []), (3, .getfield 151, [12, 87, 2]), (2, .bipush 8, []), (1, .iload_n 1, []), (1, .imul, []), (1, .iconst 4, []), (1, .iadd, []), (1, .iaload, []), (1, .iastore, []), (1, .aload_n 0, []), (3, .getfield 94, [12, 62, 2]), (1, .iload_n 1, []), (1, .aload_n 0, []), (3, .getfield 151, [12, 87, 2]), (2, .bipush 8, []), (1, .iload_n 1, []), (1, .imul, []), (1, .iconst 5, []), (1, .iadd, []), (1, .iaload, []), (1, .iastore, []), (1, .aload_n 0, []), (3, .getfield 97, [12, 63, 2]), (1, .iload_n 1, []), (1, .aload_n 0, []), (3, .getfield 151, [12, 87, 2]), (2, .bipush 8, []), (1, .iload_n 1, []), (1, .imul, []), (2, .bipush 6, []), (1, .iadd, []), (1, .iaload, []), (1, .iastore, []), (1, .aload_n 0, []), (3, .getfield 100, [12, 64, 2]), (1, .iload_n 1, []), (1, .aload_n 0, []), (3, .getfield 151, [12, 87, 2]), (2, .bipush 8, []), (1, .iload_n 1, []), (1, .imul, []), (2, .bipush 7, []), (1, .iadd, []), (1, .iaload, []), (1, .iconst 1, []), (3, .if_icmp .ne 7, [178]), (1, .iconst 1, []), (3, .goto 4, [179])]
def kX12_back_178 : List sx_I := [(1, .iconst 0, []), (0, .nop, [179])]
def kX12_back_179 : List sx_I := [(1, .bastore, [4]), (3, .iinc 1 1, []), (3, .goto (-158), [25])]
def kX12_back_186 : List sx_I := [(1, .iconst 0, []), (1, .istore_n 1, []), (0, .nop, [188])]
def kX12_back_188 : List sx_I := [(1, .iload_n 1, []), (1, .iconst 3, []), (3, .if_icmp .ge 21, [211]), (1, .aload_n 0, []), (3, .getfield 121, [12, 71, 2]), (1, .iload_n 1, []), (1, .aload_n 0, []), (3, .getfield 154, [12, 88, 2]), (1, .iload_n 1, []), (1, .iaload, []), (1, .iastore, []), (3, .iinc 1 1, []), (3, .goto (-20), [188])]
def kX12_back_211 : List sx_I := [(1, .aload_n 0, []), (3, .getfield 106, [12, 66, 2]), (1, .iconst 0, []), (1, .aload_n 0, []), (3, .getfield 579, [12, 89, 0]), (1, .iastore, []), (1, .aload_n 0, []), (3, .getfield 109, [12, 67, 2]), (1, .iconst 0, []), (1, .aload_n 0, []), (3, .getfield 582, [12, 90, 0]), (1, .iastore, []), (1, .aload_n 0, []), (1, .aload_n 0, []), (3, .getfield 585, [12, 91, 0]), (3, .putfield 401, [12, 72, 0]), (1, .aload_n 0, []), (1, .aload_n 0, []), (3, .getfield 588, [12, 92, 1]), (3, .putfield 404, [12, 73, 1]), (1, .aload_n 0, []), (1, .iconst 0, []), (3, .putfield 411, [12, 83, 0]), (1, .aload_n 0, []), (3, .getfield 109, [12, 67, 2]), (1, .iconst 0, []), (1, .iaload, []), (1, .ireturn, [0])]
def kX12_back : List (Nat × List sx_I) := [(0, kX12_back_0), (14, kX12_back_14), (25, kX12_back_25), (178, kX12_back_178), (179, kX12_back_179), (186, kX12_back_186), (188, kX12_back_188), (211, kX12_back_211)]
theorem kX12_back_c0 : sx_cd kX12_back 0 = kX12_back_0 := rfl
theorem kX12_back_c14 : sx_cd kX12_back 14 = kX12_back_14 := rfl
theorem kX12_back_c25 : sx_cd kX12_back 25 = kX12_back_25 := rfl
theorem kX12_back_c178 : sx_cd kX12_back 178 = kX12_back_178 := rfl
theorem kX12_back_c179 : sx_cd kX12_back 179 = kX12_back_179 := rfl
theorem kX12_back_c186 : sx_cd kX12_back 186 = kX12_back_186 := rfl
theorem kX12_back_c188 : sx_cd kX12_back 188 = kX12_back_188 := rfl
theorem kX12_back_c211 : sx_cd kX12_back 211 = kX12_back_211 := rfl
theorem kX12_back_ok : sx_okM 12 (sx_M 305) kX12_back = true := by decide +kernel
def kX12_thereMany_0 : List sx_I := [(1, .iconst 0, []), (1, .istore_n 1, []), (1, .iconst 0, []), (1, .istore_n 2, []), (0, .nop, [4])]
def kX12_thereMany_4 : List sx_I := [(1, .iload_n 2, []), (1, .aload_n 0, []), (3, .getfield 103, [12, 65, 2]), (1, .iconst 0, []), (1, .iaload, []), (3, .if_icmp .ge 26, [37]), (1, .iload_n 1, []), (1, .aload_n 0, []), (3, .getfield 91, [12, 61, 2]), (1, .iload_n 2, []), (1, .iaload, []), (3, .ifCond .le 7, [28]), (1, .iconst 1, []), (3, .goto 4, [29])]
def kX12_thereMany_28 : List sx_I := [(1, .iconst 0, []), (0, .nop, [29])]
def kX12_thereMany_29 : List sx_I := [(1, .iadd, []), (1, .istore_n 1, []), (3, .iinc 2 1, []), (3, .goto (-30), [4])]
def kX12_thereMany_37 : List sx_I := [(1, .iload_n 1, []), (1, .ireturn, [0])]
def kX12_thereMany : List (Nat × List sx_I) := [(0, kX12_thereMany_0), (4, kX12_thereMany_4), (28, kX12_thereMany_28), (29, kX12_thereMany_29), (37, kX12_thereMany_37)]
theorem kX12_thereMany_c0 : sx_cd kX12_thereMany 0 = kX12_thereMany_0 := rfl
theorem kX12_thereMany_c4 : sx_cd kX12_thereMany 4 = kX12_thereMany_4 := rfl
theorem kX12_thereMany_c28 : sx_cd kX12_thereMany 28 = kX12_thereMany_28 := rfl
theorem kX12_thereMany_c29 : sx_cd kX12_thereMany 29 = kX12_thereMany_29 := rfl
theorem kX12_thereMany_c37 : sx_cd kX12_thereMany 37 = kX12_thereMany_37 := rfl
theorem kX12_thereMany_ok : sx_okM 12 (sx_M 306) kX12_thereMany = true := by decide +kernel
def kX12_count_0 : List sx_I := [(1, .aload_n 0, []), (1, .iconst 0, []), (3, .putfield 163, [12, 2, 0]), (1, .iload_n 1, []), (70, .tableswitch 147 0 13 #[70, 75, 80, 85, 90, 95, 102, 109, 116, 121, 127, 132, 137, 142], [153, 76, 81, 86, 91, 96, 101, 108, 115, 122, 127, 133, 138, 143, 148])]
def kX12_count_76 : List sx_I := [(1, .aload_n 0, []), (3, .getfield 265, [12, 12, 0]), (1, .ireturn, [0])]
def kX12_count_81 : List sx_I := [(1, .aload_n 0, []), (3, .getfield 268, [12, 13, 0]), (1, .ireturn, [0])]
def kX12_count_86 : List sx_I := [(1, .aload_n 0, []), (3, .getfield 271, [12, 14, 0]), (1, .ireturn, [0])]
def kX12_count_91 : List sx_I := [(1, .aload_n 0, []), (3, .getfield 274, [12, 15, 0]), (1, .ireturn, [0])]
def kX12_count_96 : List sx_I := [(1, .aload_n 0, []), (3, .getfield 277, [12, 16, 0]), (1, .ireturn, [0])]
def kX12_count_101 : List sx_I := [(1, .aload_n 0, []), (3, .getfield 109, [12, 67, 2]), (1, .iconst 0, []), (1, .iaload, []), (1, .ireturn, [0])]
def kX12_count_108 : List sx_I := [(1, .aload_n 0, []), (3, .getfield 106, [12, 66, 2]), (1, .iconst 0, []), (1, .iaload, []), (1, .ireturn, [0])]
def kX12_count_115 : List sx_I := [(1, .aload_n 0, []), (3, .getfield 103, [12, 65, 2]), (1, .iconst 0, []), (1, .iaload, []), (1, .ireturn, [0])]
def kX12_count_122 : List sx_I := [(1, .aload_n 0, []), (3, .invokevirtual 591, [0, 306, 1, 12]), (1, .ireturn, [0])]
def kX12_count_127 : List sx_I := [(1, .aload_n 0, []), (1, .iconst 0, []), (3, .invokevirtual 567, [0, 293, 2, 12]), (1, .ireturn, [0])]
def kX12_count_133 : List sx_I := [(1, .aload_n 0, []), (3, .getfield 401, [12, 72, 0]), (1, .ireturn, [0])]
def kX12_count_138 : List sx_I := [(1, .aload_n 0, []), (3, .getfield 408, [12, 74, 0]), (1, .ireturn, [0])]
def kX12_count_143 : List sx_I := [(1, .aload_n 0, []), (3, .invokevirtual 497, [0, 260, 1, 12]), (1, .ireturn, [0])]
def kX12_count_148 : List sx_I := [(1, .aload_n 0, []), (3, .getfield 411, [12, 83, 0]), (1, .ireturn, [0])]
def kX12_count_153 : List sx_I := [(1, .iconst (-1), []), (1, .ireturn, [0])]
def kX12_count : List (Nat × List sx_I) := [(0, kX12_count_0), (76, kX12_count_76), (81, kX12_count_81), (86, kX12_count_86), (91, kX12_count_91), (96, kX12_count_96), (101, kX12_count_101), (108, kX12_count_108), (115, kX12_count_115), (122, kX12_count_122), (127, kX12_count_127), (133, kX12_count_133), (138, kX12_count_138), (143, kX12_count_143), (148, kX12_count_148), (153, kX12_count_153)]
theorem kX12_count_c0 : sx_cd kX12_count 0 = kX12_count_0 := rfl
theorem kX12_count_c76 : sx_cd kX12_count 76 = kX12_count_76 := rfl
theorem kX12_count_c81 : sx_cd kX12_count 81 = kX12_count_81 := rfl
theorem kX12_count_c86 : sx_cd kX12_count 86 = kX12_count_86 := rfl
theorem kX12_count_c91 : sx_cd kX12_count 91 = kX12_count_91 := rfl
theorem kX12_count_c96 : sx_cd kX12_count 96 = kX12_count_96 := rfl
theorem kX12_count_c101 : sx_cd kX12_count 101 = kX12_count_101 := rfl
theorem kX12_count_c108 : sx_cd kX12_count 108 = kX12_count_108 := rfl
theorem kX12_count_c115 : sx_cd kX12_count 115 = kX12_count_115 := rfl
theorem kX12_count_c122 : sx_cd kX12_count 122 = kX12_count_122 := rfl
theorem kX12_count_c127 : sx_cd kX12_count 127 = kX12_count_127 := rfl
theorem kX12_count_c133 : sx_cd kX12_count 133 = kX12_count_133 := rfl
theorem kX12_count_c138 : sx_cd kX12_count 138 = kX12_count_138 := rfl
theorem kX12_count_c143 : sx_cd kX12_count 143 = kX12_count_143 := rfl
theorem kX12_count_c148 : sx_cd kX12_count 148 = kX12_count_148 := rfl
theorem kX12_count_c153 : sx_cd kX12_count 153 = kX12_count_153 := rfl
theorem kX12_count_ok : sx_okM 12 (sx_M 307) kX12_count = true := by decide +kernel
