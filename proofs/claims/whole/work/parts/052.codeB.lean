def kX10_begin_0 : List sx_I := [(1, .aload_n 0, []), (1, .aload_n 3, []), (3, .putfield 37, [10, 4, 2]), (1, .aload_n 0, []), (3, .getfield 37, [10, 4, 2]), (3, .invokevirtual 41, [0, 44, 1, 5]), (1, .aload_n 0, []), (1, .iconst 0, []), (3, .putfield 9, [10, 0, 0]), (1, .aload_n 0, []), (1, .iconst (-1), []), (3, .putfield 15, [10, 1, 0]), (1, .aload_n 0, []), (1, .iconst 0, []), (3, .putfield 18, [10, 2, 0]), (1, .aload_n 0, []), (3, .getfield 30, [10, 5, 2]), (1, .iconst 0, []), (3, .invokestatic 46, [4, 308, 2]), (1, .aload_n 0, []), (1, .iconst 0, []), (3, .putfield 52, [10, 6, 3]), (1, .aload_n 0, []), (1, .iconst 0, []), (3, .putfield 56, [10, 7, 3]), (1, .aload_n 0, []), (1, .iconst 0, []), (3, .putfield 59, [10, 8, 3]), (1, .aload_n 0, []), (1, .iconst 0, []), (3, .putfield 62, [10, 9, 3]), (1, .aload_n 0, []), (1, .iconst 0, []), (3, .putfield 65, [10, 14, 0]), (1, .aload_n 0, []), (3, .getfield 26, [10, 3, 2]), (1, .aload_n 1, []), (1, .iload_n 2, []), (3, .invokevirtual 68, [0, 14, 3, 2]), (1, .return_, [])]
def kX10_begin : List (Nat × List sx_I) := [(0, kX10_begin_0)]
theorem kX10_begin_c0 : sx_cd kX10_begin 0 = kX10_begin_0 := rfl
theorem kX10_begin_ok : sx_okM 10 (sx_M 99) kX10_begin = true := by decide +kernel
def kX10_hasMore_0 : List sx_I := [(1, .aload_n 0, []), (3, .getfield 26, [10, 3, 2]), (3, .getfield 72, [2, 3, 0]), (2, .bipush 36, []), (3, .if_icmp .eq 14, [23]), (1, .aload_n 0, []), (3, .getfield 9, [10, 0, 0]), (3, .ifCond .ne 7, [23]), (1, .iconst 1, []), (3, .goto 4, [24])]
def kX10_hasMore_23 : List sx_I := [(1, .iconst 0, []), (0, .nop, [24])]
def kX10_hasMore_24 : List sx_I := [(1, .ireturn, [1])]
def kX10_hasMore : List (Nat × List sx_I) := [(0, kX10_hasMore_0), (23, kX10_hasMore_23), (24, kX10_hasMore_24)]
theorem kX10_hasMore_c0 : sx_cd kX10_hasMore 0 = kX10_hasMore_0 := rfl
theorem kX10_hasMore_c23 : sx_cd kX10_hasMore 23 = kX10_hasMore_23 := rfl
theorem kX10_hasMore_c24 : sx_cd kX10_hasMore 24 = kX10_hasMore_24 := rfl
theorem kX10_hasMore_ok : sx_okM 10 (sx_M 100) kX10_hasMore = true := by decide +kernel
def kX10_fail_0 : List sx_I := [(1, .aload_n 0, []), (3, .getfield 9, [10, 0, 0]), (3, .ifCond .ne 19, [23]), (1, .aload_n 0, []), (1, .iload_n 1, []), (3, .putfield 9, [10, 0, 0]), (1, .aload_n 0, []), (1, .aload_n 0, []), (3, .getfield 26, [10, 3, 2]), (3, .getfield 75, [2, 4, 0]), (3, .putfield 15, [10, 1, 0]), (0, .nop, [23])]
def kX10_fail_23 : List sx_I := [(1, .return_, [])]
def kX10_fail : List (Nat × List sx_I) := [(0, kX10_fail_0), (23, kX10_fail_23)]
theorem kX10_fail_c0 : sx_cd kX10_fail 0 = kX10_fail_0 := rfl
theorem kX10_fail_c23 : sx_cd kX10_fail 23 = kX10_fail_23 := rfl
theorem kX10_fail_ok : sx_okM 10 (sx_M 101) kX10_fail = true := by decide +kernel
def kX10_tellLine_0 : List sx_I := [(1, .aload_n 0, []), (3, .getfield 26, [10, 3, 2]), (3, .getfield 72, [2, 3, 0]), (45, .tableswitch 103 0 7 #[45, 52, 60, 68, 75, 82, 89, 96], [110, 52, 59, 67, 75, 82, 89, 96, 103])]
def kX10_tellLine_52 : List sx_I := [(1, .aload_n 0, []), (3, .invokevirtual 78, [0, 106, 1, 10]), (3, .goto 59, [115])]
def kX10_tellLine_59 : List sx_I := [(1, .aload_n 0, []), (1, .iconst 1, []), (3, .invokevirtual 81, [0, 107, 2, 10]), (3, .goto 51, [115])]
def kX10_tellLine_67 : List sx_I := [(1, .aload_n 0, []), (1, .iconst 2, []), (3, .invokevirtual 81, [0, 107, 2, 10]), (3, .goto 43, [115])]
def kX10_tellLine_75 : List sx_I := [(1, .aload_n 0, []), (3, .invokevirtual 85, [0, 108, 1, 10]), (3, .goto 36, [115])]
def kX10_tellLine_82 : List sx_I := [(1, .aload_n 0, []), (3, .invokevirtual 88, [0, 109, 1, 10]), (3, .goto 29, [115])]
def kX10_tellLine_89 : List sx_I := [(1, .aload_n 0, []), (3, .invokevirtual 91, [0, 110, 1, 10]), (3, .goto 22, [115])]
def kX10_tellLine_96 : List sx_I := [(1, .aload_n 0, []), (3, .invokevirtual 94, [0, 111, 1, 10]), (3, .goto 15, [115])]
def kX10_tellLine_103 : List sx_I := [(1, .aload_n 0, []), (3, .invokevirtual 97, [0, 112, 1, 10]), (3, .goto 8, [115])]
def kX10_tellLine_110 : List sx_I := [(1, .aload_n 0, []), (1, .iconst 1, []), (3, .invokevirtual 100, [0, 101, 2, 10]), (0, .nop, [115])]
def kX10_tellLine_115 : List sx_I := [(1, .aload_n 0, []), (3, .getfield 26, [10, 3, 2]), (3, .getfield 72, [2, 3, 0]), (2, .bipush 22, []), (3, .if_icmp .eq 8, [132]), (1, .aload_n 0, []), (1, .iconst 1, []), (3, .invokevirtual 100, [0, 101, 2, 10]), (0, .nop, [132])]
def kX10_tellLine_132 : List sx_I := [(1, .aload_n 0, []), (3, .getfield 26, [10, 3, 2]), (3, .invokevirtual 103, [0, 16, 1, 2]), (1, .aload_n 0, []), (1, .dup, []), (3, .getfield 18, [10, 2, 0]), (1, .iconst 1, []), (1, .iadd, []), (3, .putfield 18, [10, 2, 0]), (1, .return_, [])]
def kX10_tellLine : List (Nat × List sx_I) := [(0, kX10_tellLine_0), (52, kX10_tellLine_52), (59, kX10_tellLine_59), (67, kX10_tellLine_67), (75, kX10_tellLine_75), (82, kX10_tellLine_82), (89, kX10_tellLine_89), (96, kX10_tellLine_96), (103, kX10_tellLine_103), (110, kX10_tellLine_110), (115, kX10_tellLine_115), (132, kX10_tellLine_132)]
theorem kX10_tellLine_c0 : sx_cd kX10_tellLine 0 = kX10_tellLine_0 := rfl
theorem kX10_tellLine_c52 : sx_cd kX10_tellLine 52 = kX10_tellLine_52 := rfl
theorem kX10_tellLine_c59 : sx_cd kX10_tellLine 59 = kX10_tellLine_59 := rfl
theorem kX10_tellLine_c67 : sx_cd kX10_tellLine 67 = kX10_tellLine_67 := rfl
theorem kX10_tellLine_c75 : sx_cd kX10_tellLine 75 = kX10_tellLine_75 := rfl
theorem kX10_tellLine_c82 : sx_cd kX10_tellLine 82 = kX10_tellLine_82 := rfl
theorem kX10_tellLine_c89 : sx_cd kX10_tellLine 89 = kX10_tellLine_89 := rfl
theorem kX10_tellLine_c96 : sx_cd kX10_tellLine 96 = kX10_tellLine_96 := rfl
theorem kX10_tellLine_c103 : sx_cd kX10_tellLine 103 = kX10_tellLine_103 := rfl
theorem kX10_tellLine_c110 : sx_cd kX10_tellLine 110 = kX10_tellLine_110 := rfl
theorem kX10_tellLine_c115 : sx_cd kX10_tellLine 115 = kX10_tellLine_115 := rfl
theorem kX10_tellLine_c132 : sx_cd kX10_tellLine 132 = kX10_tellLine_132 := rfl
theorem kX10_tellLine_ok : sx_okM 10 (sx_M 102) kX10_tellLine = true := by decide +kernel
def kX10_numberHere_0 : List sx_I := [(1, .aload_n 0, []), (3, .getfield 26, [10, 3, 2]), (3, .getfield 72, [2, 3, 0]), (2, .bipush 21, []), (3, .if_icmp .eq 10, [19]), (1, .aload_n 0, []), (1, .iconst 1, []), (3, .invokevirtual 100, [0, 101, 2, 10]), (1, .iload_n 1, []), (1, .ireturn, [0])]
def kX10_numberHere_19 : List sx_I := [(1, .aload_n 0, []), (3, .getfield 26, [10, 3, 2]), (3, .getfield 106, [2, 5, 0]), (1, .iload_n 1, []), (3, .if_icmp .lt 14, [41]), (1, .aload_n 0, []), (3, .getfield 26, [10, 3, 2]), (3, .getfield 106, [2, 5, 0]), (1, .iload_n 2, []), (3, .if_icmp .le 10, [48]), (0, .nop, [41])]
def kX10_numberHere_41 : List sx_I := [(1, .aload_n 0, []), (1, .iconst 2, []), (3, .invokevirtual 100, [0, 101, 2, 10]), (1, .iload_n 1, []), (1, .ireturn, [0])]
def kX10_numberHere_48 : List sx_I := [(1, .aload_n 0, []), (3, .getfield 26, [10, 3, 2]), (3, .getfield 106, [2, 5, 0]), (1, .ireturn, [0])]
def kX10_numberHere : List (Nat × List sx_I) := [(0, kX10_numberHere_0), (19, kX10_numberHere_19), (41, kX10_numberHere_41), (48, kX10_numberHere_48)]
theorem kX10_numberHere_c0 : sx_cd kX10_numberHere 0 = kX10_numberHere_0 := rfl
theorem kX10_numberHere_c19 : sx_cd kX10_numberHere 19 = kX10_numberHere_19 := rfl
theorem kX10_numberHere_c41 : sx_cd kX10_numberHere 41 = kX10_numberHere_41 := rfl
theorem kX10_numberHere_c48 : sx_cd kX10_numberHere 48 = kX10_numberHere_48 := rfl
theorem kX10_numberHere_ok : sx_okM 10 (sx_M 103) kX10_numberHere = true := by decide +kernel
def kX10_nextNumber_0 : List sx_I := [(1, .aload_n 0, []), (3, .getfield 26, [10, 3, 2]), (3, .invokevirtual 103, [0, 16, 1, 2]), (1, .aload_n 0, []), (1, .iload_n 1, []), (1, .iload_n 2, []), (3, .invokevirtual 109, [0, 103, 3, 10]), (1, .ireturn, [0])]
def kX10_nextNumber : List (Nat × List sx_I) := [(0, kX10_nextNumber_0)]
theorem kX10_nextNumber_c0 : sx_cd kX10_nextNumber 0 = kX10_nextNumber_0 := rfl
theorem kX10_nextNumber_ok : sx_okM 10 (sx_M 104) kX10_nextNumber = true := by decide +kernel
def kX10_nextName_0 : List sx_I := [(1, .aload_n 0, []), (3, .getfield 26, [10, 3, 2]), (3, .invokevirtual 103, [0, 16, 1, 2]), (1, .aload_n 0, []), (3, .getfield 26, [10, 3, 2]), (3, .getfield 72, [2, 3, 0]), (2, .bipush 20, []), (3, .if_icmp .eq 10, [26]), (1, .aload_n 0, []), (1, .iconst 1, []), (3, .invokevirtual 100, [0, 101, 2, 10]), (1, .iconst 0, []), (1, .ireturn, [0])]
def kX10_nextName_26 : List sx_I := [(1, .aload_n 0, []), (3, .getfield 26, [10, 3, 2]), (3, .getfield 113, [2, 6, 0]), (1, .ireturn, [0])]
def kX10_nextName : List (Nat × List sx_I) := [(0, kX10_nextName_0), (26, kX10_nextName_26)]
theorem kX10_nextName_c0 : sx_cd kX10_nextName 0 = kX10_nextName_0 := rfl
theorem kX10_nextName_c26 : sx_cd kX10_nextName 26 = kX10_nextName_26 := rfl
theorem kX10_nextName_ok : sx_okM 10 (sx_M 105) kX10_nextName = true := by decide +kernel
def kX10_tellField_0 : List sx_I := [(1, .aload_n 0, []), (3, .getfield 52, [10, 6, 3]), (3, .ifCond .eq 8, [12]), (1, .aload_n 0, []), (1, .iconst 3, []), (3, .invokevirtual 100, [0, 101, 2, 10]), (0, .nop, [12])]
def kX10_tellField_12 : List sx_I := [(1, .aload_n 0, []), (3, .getfield 62, [10, 9, 3]), (3, .ifCond .eq 8, [24]), (1, .aload_n 0, []), (1, .iconst 4, []), (3, .invokevirtual 100, [0, 101, 2, 10]), (0, .nop, [24])]
def kX10_tellField_24 : List sx_I := [(1, .aload_n 0, []), (1, .iconst 1, []), (3, .putfield 52, [10, 6, 3]), (1, .aload_n 0, []), (3, .getfield 37, [10, 4, 2]), (1, .aload_n 0, []), (1, .iconst 1, []), (2, .bipush 8, []), (3, .invokevirtual 116, [0, 104, 3, 10]), (3, .putfield 119, [5, 0, 0]), (1, .aload_n 0, []), (3, .getfield 37, [10, 4, 2]), (1, .aload_n 0, []), (1, .iconst 1, []), (2, .bipush 6, []), (3, .invokevirtual 116, [0, 104, 3, 10]), (3, .putfield 122, [5, 1, 0]), (1, .aload_n 0, []), (3, .getfield 26, [10, 3, 2]), (3, .invokevirtual 103, [0, 16, 1, 2]), (1, .return_, [])]
def kX10_tellField : List (Nat × List sx_I) := [(0, kX10_tellField_0), (12, kX10_tellField_12), (24, kX10_tellField_24)]
theorem kX10_tellField_c0 : sx_cd kX10_tellField 0 = kX10_tellField_0 := rfl
theorem kX10_tellField_c12 : sx_cd kX10_tellField 12 = kX10_tellField_12 := rfl
theorem kX10_tellField_c24 : sx_cd kX10_tellField 24 = kX10_tellField_24 := rfl
theorem kX10_tellField_ok : sx_okM 10 (sx_M 106) kX10_tellField = true := by decide +kernel
def kX10_tellKind_0 : List sx_I := [(1, .aload_n 0, []), (3, .getfield 30, [10, 5, 2]), (1, .iload_n 1, []), (1, .iaload, []), (2, .bipush 12, []), (3, .if_icmp .lt 8, [16]), (1, .aload_n 0, []), (1, .iconst 2, []), (3, .invokevirtual 100, [0, 101, 2, 10]), (0, .nop, [16])]
def kX10_tellKind_16 : List sx_I := [(1, .aload_n 0, []), (1, .iconst 1, []), (3, .putfield 62, [10, 9, 3]), (1, .aload_n 0, []), (1, .iconst 0, []), (1, .aload_n 0, []), (3, .getfield 37, [10, 4, 2]), (3, .getfield 119, [5, 0, 0]), (1, .iconst 1, []), (1, .isub, []), (3, .invokevirtual 116, [0, 104, 3, 10]), (1, .istore_n 2, []), (1, .aload_n 0, []), (1, .iconst 0, []), (1, .aload_n 0, []), (3, .getfield 37, [10, 4, 2]), (3, .getfield 122, [5, 1, 0]), (1, .iconst 1, []), (1, .isub, []), (3, .invokevirtual 116, [0, 104, 3, 10]), (1, .istore_n 3, []), (1, .iload_n 3, []), (1, .aload_n 0, []), (3, .getfield 37, [10, 4, 2]), (3, .getfield 119, [5, 0, 0]), (1, .imul, []), (1, .iload_n 2, []), (1, .iadd, []), (2, .istore 4, []), (1, .aload_n 0, []), (3, .getfield 37, [10, 4, 2]), (3, .getfield 125, [5, 2, 2]), (2, .iload 4, []), (1, .iaload, []), (3, .ifCond .eq 8, [82]), (1, .aload_n 0, []), (1, .iconst 3, []), (3, .invokevirtual 100, [0, 101, 2, 10]), (0, .nop, [82])]
def kX10_tellKind_82 : List sx_I := [(1, .aload_n 0, []), (3, .getfield 37, [10, 4, 2]), (3, .getfield 125, [5, 2, 2]), (2, .iload 4, []), (1, .iload_n 1, []), (1, .iastore, []), (1, .aload_n 0, []), (3, .getfield 30, [10, 5, 2]), (1, .iload_n 1, []), (1, .dup2, []), (1, .iaload, []), (1, .iconst 1, []), (1, .iadd, []), (1, .iastore, []), (1, .aload_n 0, []), (3, .getfield 26, [10, 3, 2]), (3, .invokevirtual 103, [0, 16, 1, 2]), (1, .return_, [])]
def kX10_tellKind : List (Nat × List sx_I) := [(0, kX10_tellKind_0), (16, kX10_tellKind_16), (82, kX10_tellKind_82)]
theorem kX10_tellKind_c0 : sx_cd kX10_tellKind 0 = kX10_tellKind_0 := rfl
theorem kX10_tellKind_c16 : sx_cd kX10_tellKind 16 = kX10_tellKind_16 := rfl
theorem kX10_tellKind_c82 : sx_cd kX10_tellKind 82 = kX10_tellKind_82 := rfl
theorem kX10_tellKind_ok : sx_okM 10 (sx_M 107) kX10_tellKind = true := by decide +kernel
def kX10_tellFarm_0 : List sx_I := [(1, .aload_n 0, []), (3, .getfield 37, [10, 4, 2]), (3, .getfield 128, [5, 4, 0]), (1, .iconst 3, []), (3, .if_icmp .lt 9, [17]), (1, .aload_n 0, []), (1, .iconst 2, []), (3, .invokevirtual 100, [0, 101, 2, 10]), (1, .return_, [])]
def kX10_tellFarm_17 : List sx_I := [(1, .aload_n 0, []), (1, .iconst 1, []), (3, .putfield 62, [10, 9, 3]), (1, .aload_n 0, []), (3, .invokevirtual 131, [0, 105, 1, 10]), (1, .istore_n 1, []), (1, .aload_n 0, []), (3, .getfield 37, [10, 4, 2]), (1, .iload_n 1, []), (3, .invokevirtual 135, [0, 49, 2, 5]), (1, .iconst (-1), []), (3, .if_icmp .eq 8, [44]), (1, .aload_n 0, []), (1, .iconst 3, []), (3, .invokevirtual 100, [0, 101, 2, 10]), (0, .nop, [44])]
def kX10_tellFarm_44 : List sx_I := [(1, .aload_n 0, []), (1, .iconst 0, []), (1, .aload_n 0, []), (3, .getfield 37, [10, 4, 2]), (3, .getfield 119, [5, 0, 0]), (1, .iconst 1, []), (1, .isub, []), (3, .invokevirtual 116, [0, 104, 3, 10]), (1, .istore_n 2, []), (1, .aload_n 0, []), (1, .iconst 0, []), (1, .aload_n 0, []), (3, .getfield 37, [10, 4, 2]), (3, .getfield 122, [5, 1, 0]), (1, .iconst 1, []), (1, .isub, []), (3, .invokevirtual 116, [0, 104, 3, 10]), (1, .istore_n 3, []), (1, .aload_n 0, []), (1, .iload_n 2, []), (1, .aload_n 0, []), (3, .getfield 37, [10, 4, 2]), (3, .getfield 119, [5, 0, 0]), (1, .iconst 1, []), (1, .isub, []), (3, .invokevirtual 116, [0, 104, 3, 10]), (2, .istore 4, []), (1, .aload_n 0, []), (1, .iload_n 3, []), (1, .aload_n 0, []), (3, .getfield 37, [10, 4, 2]), (3, .getfield 122, [5, 1, 0]), (1, .iconst 1, []), (1, .isub, []), (3, .invokevirtual 116, [0, 104, 3, 10]), (2, .istore 5, []), (1, .iload_n 3, []), (2, .istore 6, []), (0, .nop, [109])]
def kX10_tellFarm_109 : List sx_I := [(2, .iload 6, []), (2, .iload 5, []), (3, .if_icmp .gt 53, [166]), (1, .iload_n 2, []), (2, .istore 7, []), (0, .nop, [119])]
def kX10_tellFarm_119 : List sx_I := [(2, .iload 7, []), (2, .iload 4, []), (3, .if_icmp .gt 37, [160]), (1, .aload_n 0, []), (3, .getfield 37, [10, 4, 2]), (3, .getfield 139, [5, 3, 2]), (2, .iload 6, []), (1, .aload_n 0, []), (3, .getfield 37, [10, 4, 2]), (3, .getfield 119, [5, 0, 0]), (1, .imul, []), (2, .iload 7, []), (1, .iadd, []), (1, .aload_n 0, []), (3, .getfield 37, [10, 4, 2]), (3, .getfield 128, [5, 4, 0]), (1, .iastore, []), (3, .iinc 7 1, []), (3, .goto (-38), [119])]
def kX10_tellFarm_160 : List sx_I := [(3, .iinc 6 1, []), (3, .goto (-54), [109])]
def kX10_tellFarm_166 : List sx_I := [(1, .aload_n 0, []), (3, .getfield 37, [10, 4, 2]), (3, .getfield 142, [5, 5, 2]), (1, .aload_n 0, []), (3, .getfield 37, [10, 4, 2]), (3, .getfield 128, [5, 4, 0]), (1, .iload_n 1, []), (1, .iastore, []), (1, .aload_n 0, []), (3, .getfield 37, [10, 4, 2]), (1, .dup, []), (3, .getfield 128, [5, 4, 0]), (1, .iconst 1, []), (1, .iadd, []), (3, .putfield 128, [5, 4, 0]), (1, .aload_n 0, []), (3, .getfield 26, [10, 3, 2]), (3, .invokevirtual 103, [0, 16, 1, 2]), (1, .return_, [])]
def kX10_tellFarm : List (Nat × List sx_I) := [(0, kX10_tellFarm_0), (17, kX10_tellFarm_17), (44, kX10_tellFarm_44), (109, kX10_tellFarm_109), (119, kX10_tellFarm_119), (160, kX10_tellFarm_160), (166, kX10_tellFarm_166)]
theorem kX10_tellFarm_c0 : sx_cd kX10_tellFarm 0 = kX10_tellFarm_0 := rfl
theorem kX10_tellFarm_c17 : sx_cd kX10_tellFarm 17 = kX10_tellFarm_17 := rfl
theorem kX10_tellFarm_c44 : sx_cd kX10_tellFarm 44 = kX10_tellFarm_44 := rfl
theorem kX10_tellFarm_c109 : sx_cd kX10_tellFarm 109 = kX10_tellFarm_109 := rfl
theorem kX10_tellFarm_c119 : sx_cd kX10_tellFarm 119 = kX10_tellFarm_119 := rfl
theorem kX10_tellFarm_c160 : sx_cd kX10_tellFarm 160 = kX10_tellFarm_160 := rfl
theorem kX10_tellFarm_c166 : sx_cd kX10_tellFarm 166 = kX10_tellFarm_166 := rfl
theorem kX10_tellFarm_ok : sx_okM 10 (sx_M 108) kX10_tellFarm = true := by decide +kernel
def kX10_tellWalker_0 : List sx_I := [(1, .aload_n 0, []), (3, .getfield 37, [10, 4, 2]), (3, .getfield 145, [5, 6, 0]), (1, .istore_n 1, []), (1, .iload_n 1, []), (1, .iconst 5, []), (3, .if_icmp .lt 9, [19]), (1, .aload_n 0, []), (1, .iconst 2, []), (3, .invokevirtual 100, [0, 101, 2, 10]), (1, .return_, [])]
def kX10_tellWalker_19 : List sx_I := [(1, .aload_n 0, []), (1, .iconst 1, []), (3, .putfield 62, [10, 9, 3]), (1, .aload_n 0, []), (3, .invokevirtual 131, [0, 105, 1, 10]), (1, .istore_n 2, []), (1, .aload_n 0, []), (3, .getfield 37, [10, 4, 2]), (1, .iload_n 2, []), (3, .invokevirtual 148, [0, 50, 2, 5]), (1, .iconst (-1), []), (3, .if_icmp .eq 8, [46]), (1, .aload_n 0, []), (1, .iconst 3, []), (3, .invokevirtual 100, [0, 101, 2, 10]), (0, .nop, [46])]
def kX10_tellWalker_46 : List sx_I := [(1, .aload_n 0, []), (3, .getfield 37, [10, 4, 2]), (1, .aload_n 0, []), (3, .invokevirtual 131, [0, 105, 1, 10]), (3, .invokevirtual 135, [0, 49, 2, 5]), (1, .istore_n 3, []), (1, .iload_n 3, []), (1, .iconst (-1), []), (3, .if_icmp .ne 8, [68]), (1, .aload_n 0, []), (1, .iconst 4, []), (3, .invokevirtual 100, [0, 101, 2, 10]), (0, .nop, [68])]
def kX10_tellWalker_68 : List sx_I := [(1, .aload_n 0, []), (3, .getfield 37, [10, 4, 2]), (3, .getfield 151, [5, 7, 2]), (1, .iload_n 1, []), (1, .iload_n 2, []), (1, .iastore, []), (1, .aload_n 0, []), (3, .getfield 37, [10, 4, 2]), (3, .getfield 154, [5, 8, 2]), (1, .iload_n 1, []), (1, .iload_n 3, []), (1, .iastore, []), (1, .aload_n 0, []), (3, .getfield 37, [10, 4, 2]), (3, .getfield 157, [5, 9, 2]), (1, .iload_n 1, []), (1, .aload_n 0, []), (1, .iconst 1, []), (2, .bipush 60, []), (3, .invokevirtual 116, [0, 104, 3, 10]), (1, .iastore, []), (1, .aload_n 0, []), (3, .getfield 37, [10, 4, 2]), (3, .getfield 160, [5, 10, 2]), (1, .iload_n 1, []), (1, .aload_n 0, []), (1, .iconst 1, []), (1, .iconst 3, []), (3, .invokevirtual 116, [0, 104, 3, 10]), (1, .iastore, []), (1, .aload_n 0, []), (1, .iconst 0, []), (1, .aload_n 0, []), (3, .getfield 37, [10, 4, 2]), (3, .getfield 119, [5, 0, 0]), (1, .iconst 1, []), (1, .isub, []), (3, .invokevirtual 116, [0, 104, 3, 10]), (2, .istore 4, []), (1, .aload_n 0, []), (1, .iconst 0, []), (1, .aload_n 0, []), (3, .getfield 37, [10, 4, 2]), (3, .getfield 122, [5, 1, 0]), (1, .iconst 1, []), (1, .isub, []), (3, .invokevirtual 116, [0, 104, 3, 10]), (2, .istore 5, []), (1, .aload_n 0, []), (3, .getfield 37, [10, 4, 2]), (3, .getfield 163, [5, 11, 2]), (1, .iload_n 1, []), (2, .iload 5, []), (1, .aload_n 0, []), (3, .getfield 37, [10, 4, 2]), (3, .getfield 119, [5, 0, 0]), (1, .imul, []), (2, .iload 4, []), (1, .iadd, []), (1, .iastore, []), (1, .aload_n 0, []), (3, .getfield 37, [10, 4, 2]), (1, .dup, []), (3, .getfield 145, [5, 6, 0]), (1, .iconst 1, []), (1, .iadd, []), (3, .putfield 145, [5, 6, 0]), (1, .aload_n 0, []), (3, .getfield 26, [10, 3, 2]), (3, .invokevirtual 103, [0, 16, 1, 2]), (1, .return_, [])]
def kX10_tellWalker : List (Nat × List sx_I) := [(0, kX10_tellWalker_0), (19, kX10_tellWalker_19), (46, kX10_tellWalker_46), (68, kX10_tellWalker_68)]
theorem kX10_tellWalker_c0 : sx_cd kX10_tellWalker 0 = kX10_tellWalker_0 := rfl
theorem kX10_tellWalker_c19 : sx_cd kX10_tellWalker 19 = kX10_tellWalker_19 := rfl
theorem kX10_tellWalker_c46 : sx_cd kX10_tellWalker 46 = kX10_tellWalker_46 := rfl
theorem kX10_tellWalker_c68 : sx_cd kX10_tellWalker 68 = kX10_tellWalker_68 := rfl
theorem kX10_tellWalker_ok : sx_okM 10 (sx_M 109) kX10_tellWalker = true := by decide +kernel
def kX10_tellCast_0 : List sx_I := [(1, .aload_n 0, []), (3, .getfield 56, [10, 7, 3]), (3, .ifCond .eq 8, [12]), (1, .aload_n 0, []), (1, .iconst 3, []), (3, .invokevirtual 100, [0, 101, 2, 10]), (0, .nop, [12])]
def kX10_tellCast_12 : List sx_I := [(1, .aload_n 0, []), (1, .iconst 1, []), (3, .putfield 56, [10, 7, 3]), (1, .aload_n 0, []), (3, .getfield 37, [10, 4, 2]), (3, .getfield 166, [5, 12, 2]), (3, .getfield 170, [1, 0, 2]), (1, .iconst 0, []), (1, .aload_n 0, []), (1, .iconst 0, []), (2, .bipush 100, []), (3, .invokevirtual 116, [0, 104, 3, 10]), (1, .iastore, []), (1, .aload_n 0, []), (3, .getfield 26, [10, 3, 2]), (3, .invokevirtual 103, [0, 16, 1, 2]), (1, .iconst 1, []), (1, .istore_n 1, []), (0, .nop, [45])]
def kX10_tellCast_45 : List sx_I := [(1, .iload_n 1, []), (2, .bipush 24, []), (3, .if_icmp .ge 47, [95]), (1, .aload_n 0, []), (3, .getfield 26, [10, 3, 2]), (3, .getfield 72, [2, 3, 0]), (2, .bipush 21, []), (3, .if_icmp .ne 35, [95]), (1, .aload_n 0, []), (3, .getfield 37, [10, 4, 2]), (3, .getfield 166, [5, 12, 2]), (3, .getfield 170, [1, 0, 2]), (1, .iload_n 1, []), (1, .aload_n 0, []), (1, .iconst 0, []), (2, .bipush 100, []), (3, .invokevirtual 109, [0, 103, 3, 10]), (1, .iastore, []), (1, .aload_n 0, []), (3, .getfield 26, [10, 3, 2]), (3, .invokevirtual 103, [0, 16, 1, 2]), (3, .iinc 1 1, []), (3, .goto (-47), [45])]
def kX10_tellCast_95 : List sx_I := [(1, .aload_n 0, []), (3, .getfield 26, [10, 3, 2]), (3, .getfield 72, [2, 3, 0]), (2, .bipush 21, []), (3, .if_icmp .ne 8, [112]), (1, .aload_n 0, []), (1, .iconst 2, []), (3, .invokevirtual 100, [0, 101, 2, 10]), (0, .nop, [112])]
def kX10_tellCast_112 : List sx_I := [(1, .return_, [])]
def kX10_tellCast : List (Nat × List sx_I) := [(0, kX10_tellCast_0), (12, kX10_tellCast_12), (45, kX10_tellCast_45), (95, kX10_tellCast_95), (112, kX10_tellCast_112)]
theorem kX10_tellCast_c0 : sx_cd kX10_tellCast 0 = kX10_tellCast_0 := rfl
theorem kX10_tellCast_c12 : sx_cd kX10_tellCast 12 = kX10_tellCast_12 := rfl
theorem kX10_tellCast_c45 : sx_cd kX10_tellCast 45 = kX10_tellCast_45 := rfl
theorem kX10_tellCast_c95 : sx_cd kX10_tellCast 95 = kX10_tellCast_95 := rfl
theorem kX10_tellCast_c112 : sx_cd kX10_tellCast 112 = kX10_tellCast_112 := rfl
theorem kX10_tellCast_ok : sx_okM 10 (sx_M 110) kX10_tellCast = true := by decide +kernel
def kX10_tellSeed_0 : List sx_I := [(1, .aload_n 0, []), (3, .getfield 59, [10, 8, 3]), (3, .ifCond .eq 8, [12]), (1, .aload_n 0, []), (1, .iconst 3, []), (3, .invokevirtual 100, [0, 101, 2, 10]), (0, .nop, [12])]
def kX10_tellSeed_12 : List sx_I := [(1, .aload_n 0, []), (1, .iconst 1, []), (3, .putfield 59, [10, 8, 3]), (1, .aload_n 0, []), (3, .getfield 37, [10, 4, 2]), (1, .aload_n 0, []), (1, .iconst 0, []), (2, .ldc 175, [99999, 0]), (3, .invokevirtual 116, [0, 104, 3, 10]), (3, .putfield 176, [5, 13, 0]), (1, .aload_n 0, []), (3, .getfield 26, [10, 3, 2]), (3, .invokevirtual 103, [0, 16, 1, 2]), (1, .return_, [])]
def kX10_tellSeed : List (Nat × List sx_I) := [(0, kX10_tellSeed_0), (12, kX10_tellSeed_12)]
theorem kX10_tellSeed_c0 : sx_cd kX10_tellSeed 0 = kX10_tellSeed_0 := rfl
theorem kX10_tellSeed_c12 : sx_cd kX10_tellSeed 12 = kX10_tellSeed_12 := rfl
theorem kX10_tellSeed_ok : sx_okM 10 (sx_M 111) kX10_tellSeed = true := by decide +kernel
def kX10_tellLaw_0 : List sx_I := [(1, .aload_n 0, []), (3, .getfield 26, [10, 3, 2]), (3, .invokevirtual 103, [0, 16, 1, 2]), (1, .aload_n 0, []), (3, .getfield 26, [10, 3, 2]), (3, .getfield 72, [2, 3, 0]), (2, .bipush 8, []), (1, .isub, []), (1, .istore_n 1, []), (1, .iload_n 1, []), (3, .ifCond .lt 8, [27]), (1, .iload_n 1, []), (1, .iconst 3, []), (3, .if_icmp .lt 9, [33]), (0, .nop, [27])]
def kX10_tellLaw_27 : List sx_I := [(1, .aload_n 0, []), (1, .iconst 1, []), (3, .invokevirtual 100, [0, 101, 2, 10]), (1, .return_, [])]
def kX10_tellLaw_33 : List sx_I := [(1, .aload_n 0, []), (3, .getfield 37, [10, 4, 2]), (3, .getfield 179, [5, 18, 2]), (1, .iload_n 1, []), (1, .iaload, []), (1, .aload_n 0, []), (3, .getfield 37, [10, 4, 2]), (3, .getfield 182, [5, 17, 2]), (1, .iload_n 1, []), (1, .iaload, []), (3, .if_icmp .le 9, [60]), (1, .aload_n 0, []), (1, .iconst 3, []), (3, .invokevirtual 100, [0, 101, 2, 10]), (1, .return_, [])]
def kX10_tellLaw_60 : List sx_I := [(1, .aload_n 0, []), (3, .getfield 37, [10, 4, 2]), (3, .getfield 182, [5, 17, 2]), (1, .iload_n 1, []), (1, .aload_n 0, []), (3, .getfield 65, [10, 14, 0]), (1, .iastore, []), (1, .aload_n 0, []), (3, .getfield 26, [10, 3, 2]), (3, .invokevirtual 103, [0, 16, 1, 2]), (1, .aload_n 0, []), (3, .invokevirtual 185, [0, 113, 1, 10]), (1, .aload_n 0, []), (3, .getfield 37, [10, 4, 2]), (3, .getfield 179, [5, 18, 2]), (1, .iload_n 1, []), (1, .aload_n 0, []), (3, .getfield 65, [10, 14, 0]), (1, .iastore, []), (1, .return_, [])]
def kX10_tellLaw : List (Nat × List sx_I) := [(0, kX10_tellLaw_0), (27, kX10_tellLaw_27), (33, kX10_tellLaw_33), (60, kX10_tellLaw_60)]
theorem kX10_tellLaw_c0 : sx_cd kX10_tellLaw 0 = kX10_tellLaw_0 := rfl
theorem kX10_tellLaw_c27 : sx_cd kX10_tellLaw 27 = kX10_tellLaw_27 := rfl
theorem kX10_tellLaw_c33 : sx_cd kX10_tellLaw 33 = kX10_tellLaw_33 := rfl
theorem kX10_tellLaw_c60 : sx_cd kX10_tellLaw 60 = kX10_tellLaw_60 := rfl
theorem kX10_tellLaw_ok : sx_okM 10 (sx_M 112) kX10_tellLaw = true := by decide +kernel
def kX10_tellExpression_0 : List sx_I := [(1, .aload_n 0, []), (1, .iconst 0, []), (3, .putfield 188, [10, 11, 0]), (1, .aload_n 0, []), (1, .iconst 0, []), (3, .putfield 191, [10, 12, 0]), (1, .aload_n 0, []), (1, .iconst 1, []), (3, .putfield 194, [10, 13, 3]), (1, .iconst 0, []), (1, .istore_n 1, []), (0, .nop, [17])]
def kX10_tellExpression_17 : List sx_I := [(1, .iload_n 1, []), (3, .sipush 700, []), (3, .if_icmp .ge 82, [103]), (1, .aload_n 0, []), (3, .getfield 9, [10, 0, 0]), (3, .ifCond .ne 75, [103]), (1, .aload_n 0, []), (3, .getfield 26, [10, 3, 2]), (3, .getfield 72, [2, 3, 0]), (2, .bipush 36, []), (3, .if_icmp .eq 63, [103]), (1, .aload_n 0, []), (3, .getfield 26, [10, 3, 2]), (3, .getfield 72, [2, 3, 0]), (2, .bipush 22, []), (3, .if_icmp .ne 20, [72]), (1, .aload_n 0, []), (3, .getfield 194, [10, 13, 3]), (3, .ifCond .ne 13, [72]), (1, .aload_n 0, []), (3, .getfield 191, [10, 12, 0]), (3, .ifCond .ne 6, [72]), (3, .goto 34, [103])]
def kX10_tellExpression_72 : List sx_I := [(1, .aload_n 0, []), (3, .getfield 194, [10, 13, 3]), (3, .ifCond .eq 10, [86]), (1, .aload_n 0, []), (3, .invokevirtual 197, [0, 114, 1, 10]), (3, .goto 7, [90])]
def kX10_tellExpression_86 : List sx_I := [(1, .aload_n 0, []), (3, .invokevirtual 200, [0, 115, 1, 10]), (0, .nop, [90])]
def kX10_tellExpression_90 : List sx_I := [(1, .aload_n 0, []), (3, .getfield 26, [10, 3, 2]), (3, .invokevirtual 103, [0, 16, 1, 2]), (3, .iinc 1 1, []), (3, .goto (-83), [17])]
def kX10_tellExpression_103 : List sx_I := [(1, .aload_n 0, []), (1, .iconst 1, []), (3, .invokevirtual 203, [0, 120, 2, 10]), (1, .return_, [])]
def kX10_tellExpression : List (Nat × List sx_I) := [(0, kX10_tellExpression_0), (17, kX10_tellExpression_17), (72, kX10_tellExpression_72), (86, kX10_tellExpression_86), (90, kX10_tellExpression_90), (103, kX10_tellExpression_103)]
theorem kX10_tellExpression_c0 : sx_cd kX10_tellExpression 0 = kX10_tellExpression_0 := rfl
theorem kX10_tellExpression_c17 : sx_cd kX10_tellExpression 17 = kX10_tellExpression_17 := rfl
theorem kX10_tellExpression_c72 : sx_cd kX10_tellExpression 72 = kX10_tellExpression_72 := rfl
theorem kX10_tellExpression_c86 : sx_cd kX10_tellExpression 86 = kX10_tellExpression_86 := rfl
theorem kX10_tellExpression_c90 : sx_cd kX10_tellExpression 90 = kX10_tellExpression_90 := rfl
theorem kX10_tellExpression_c103 : sx_cd kX10_tellExpression 103 = kX10_tellExpression_103 := rfl
theorem kX10_tellExpression_ok : sx_okM 10 (sx_M 113) kX10_tellExpression = true := by decide +kernel
def kX10_takeOperand_0 : List sx_I := [(1, .aload_n 0, []), (3, .getfield 26, [10, 3, 2]), (3, .getfield 72, [2, 3, 0]), (1, .istore_n 1, []), (1, .iload_n 1, []), (2, .bipush 21, []), (3, .if_icmp .ne 31, [42]), (1, .aload_n 0, []), (1, .iconst 0, []), (3, .sipush 9999, []), (3, .invokevirtual 109, [0, 103, 3, 10]), (1, .istore_n 2, []), (1, .aload_n 0, []), (3, .invokevirtual 206, [0, 117, 1, 10]), (1, .aload_n 0, []), (2, .bipush 21, []), (1, .iload_n 2, []), (3, .invokevirtual 209, [0, 121, 3, 10]), (1, .aload_n 0, []), (1, .iconst 0, []), (3, .putfield 194, [10, 13, 3]), (3, .goto 104, [143])]
def kX10_takeOperand_42 : List sx_I := [(1, .iload_n 1, []), (2, .bipush 10, []), (3, .if_icmp .lt 27, [72]), (1, .iload_n 1, []), (2, .bipush 16, []), (3, .if_icmp .gt 21, [72]), (1, .aload_n 0, []), (3, .invokevirtual 206, [0, 117, 1, 10]), (1, .aload_n 0, []), (1, .iload_n 1, []), (1, .iconst 0, []), (3, .invokevirtual 209, [0, 121, 3, 10]), (1, .aload_n 0, []), (1, .iconst 0, []), (3, .putfield 194, [10, 13, 3]), (3, .goto 74, [143])]
def kX10_takeOperand_72 : List sx_I := [(1, .iload_n 1, []), (2, .bipush 23, []), (3, .if_icmp .ne 36, [111]), (1, .aload_n 0, []), (3, .getfield 191, [10, 12, 0]), (2, .bipush 8, []), (3, .if_icmp .lt 8, [92]), (1, .aload_n 0, []), (1, .iconst 2, []), (3, .invokevirtual 100, [0, 101, 2, 10]), (0, .nop, [92])]
def kX10_takeOperand_92 : List sx_I := [(1, .aload_n 0, []), (1, .dup, []), (3, .getfield 191, [10, 12, 0]), (1, .iconst 1, []), (1, .iadd, []), (3, .putfield 191, [10, 12, 0]), (1, .aload_n 0, []), (2, .bipush 23, []), (3, .invokevirtual 213, [0, 118, 2, 10]), (3, .goto 35, [143])]
def kX10_takeOperand_111 : List sx_I := [(1, .iload_n 1, []), (2, .bipush 19, []), (3, .if_icmp .ne 24, [138]), (1, .aload_n 0, []), (3, .invokevirtual 216, [0, 119, 1, 10]), (1, .iconst 3, []), (3, .if_icmp .gt 16, [138]), (1, .aload_n 0, []), (3, .invokevirtual 206, [0, 117, 1, 10]), (1, .aload_n 0, []), (2, .bipush 19, []), (3, .invokevirtual 213, [0, 118, 2, 10]), (3, .goto 8, [143])]
def kX10_takeOperand_138 : List sx_I := [(1, .aload_n 0, []), (1, .iconst 1, []), (3, .invokevirtual 100, [0, 101, 2, 10]), (0, .nop, [143])]
def kX10_takeOperand_143 : List sx_I := [(1, .return_, [])]
def kX10_takeOperand : List (Nat × List sx_I) := [(0, kX10_takeOperand_0), (42, kX10_takeOperand_42), (72, kX10_takeOperand_72), (92, kX10_takeOperand_92), (111, kX10_takeOperand_111), (138, kX10_takeOperand_138), (143, kX10_takeOperand_143)]
theorem kX10_takeOperand_c0 : sx_cd kX10_takeOperand 0 = kX10_takeOperand_0 := rfl
theorem kX10_takeOperand_c42 : sx_cd kX10_takeOperand 42 = kX10_takeOperand_42 := rfl
theorem kX10_takeOperand_c72 : sx_cd kX10_takeOperand 72 = kX10_takeOperand_72 := rfl
theorem kX10_takeOperand_c92 : sx_cd kX10_takeOperand 92 = kX10_takeOperand_92 := rfl
theorem kX10_takeOperand_c111 : sx_cd kX10_takeOperand 111 = kX10_takeOperand_111 := rfl
theorem kX10_takeOperand_c138 : sx_cd kX10_takeOperand 138 = kX10_takeOperand_138 := rfl
theorem kX10_takeOperand_c143 : sx_cd kX10_takeOperand 143 = kX10_takeOperand_143 := rfl
theorem kX10_takeOperand_ok : sx_okM 10 (sx_M 114) kX10_takeOperand = true := by decide +kernel
def kX10_takeOperator_0 : List sx_I := [(1, .aload_n 0, []), (3, .getfield 26, [10, 3, 2]), (3, .getfield 72, [2, 3, 0]), (1, .istore_n 1, []), (1, .iload_n 1, []), (2, .bipush 24, []), (3, .if_icmp .ne 40, [51]), (1, .aload_n 0, []), (3, .getfield 191, [10, 12, 0]), (3, .ifCond .le 33, [51]), (1, .aload_n 0, []), (1, .iconst 1, []), (3, .invokevirtual 203, [0, 120, 2, 10]), (1, .aload_n 0, []), (1, .iconst 0, []), (1, .aload_n 0, []), (3, .getfield 188, [10, 11, 0]), (1, .iconst 1, []), (1, .isub, []), (3, .invokestatic 219, [1, 0]), (3, .putfield 188, [10, 11, 0]), (1, .aload_n 0, []), (1, .dup, []), (3, .getfield 191, [10, 12, 0]), (1, .iconst 1, []), (1, .isub, []), (3, .putfield 191, [10, 12, 0]), (1, .return_, [])]
def kX10_takeOperator_51 : List sx_I := [(1, .iload_n 1, []), (3, .invokestatic 224, [4, 116, 1]), (1, .istore_n 2, []), (1, .iload_n 2, []), (1, .iconst 1, []), (3, .if_icmp .lt 9, [67]), (1, .iload_n 1, []), (2, .bipush 19, []), (3, .if_icmp .ne 9, [73]), (0, .nop, [67])]
def kX10_takeOperator_67 : List sx_I := [(1, .aload_n 0, []), (1, .iconst 1, []), (3, .invokevirtual 100, [0, 101, 2, 10]), (1, .return_, [])]
def kX10_takeOperator_73 : List sx_I := [(1, .aload_n 0, []), (1, .iload_n 2, []), (1, .iconst 4, []), (3, .if_icmp .ne 9, [85]), (1, .iload_n 2, []), (1, .iconst 1, []), (1, .iadd, []), (3, .goto 4, [86])]
def kX10_takeOperator_85 : List sx_I := [(1, .iload_n 2, []), (0, .nop, [86])]
def kX10_takeOperator_86 : List sx_I := [(3, .invokevirtual 203, [0, 120, 2, 10]), (1, .iload_n 2, []), (1, .iconst 4, []), (3, .if_icmp .ne 16, [107]), (1, .aload_n 0, []), (3, .invokevirtual 216, [0, 119, 1, 10]), (1, .iload_n 2, []), (3, .if_icmp .ne 8, [107]), (1, .aload_n 0, []), (1, .iconst 1, []), (3, .invokevirtual 100, [0, 101, 2, 10]), (0, .nop, [107])]
def kX10_takeOperator_107 : List sx_I := [(1, .aload_n 0, []), (3, .invokevirtual 206, [0, 117, 1, 10]), (1, .aload_n 0, []), (1, .iload_n 1, []), (3, .invokevirtual 213, [0, 118, 2, 10]), (1, .aload_n 0, []), (1, .iconst 1, []), (3, .putfield 194, [10, 13, 3]), (1, .return_, [])]
def kX10_takeOperator : List (Nat × List sx_I) := [(0, kX10_takeOperator_0), (51, kX10_takeOperator_51), (67, kX10_takeOperator_67), (73, kX10_takeOperator_73), (85, kX10_takeOperator_85), (86, kX10_takeOperator_86), (107, kX10_takeOperator_107)]
theorem kX10_takeOperator_c0 : sx_cd kX10_takeOperator 0 = kX10_takeOperator_0 := rfl
theorem kX10_takeOperator_c51 : sx_cd kX10_takeOperator 51 = kX10_takeOperator_51 := rfl
theorem kX10_takeOperator_c67 : sx_cd kX10_takeOperator 67 = kX10_takeOperator_67 := rfl
theorem kX10_takeOperator_c73 : sx_cd kX10_takeOperator 73 = kX10_takeOperator_73 := rfl
theorem kX10_takeOperator_c85 : sx_cd kX10_takeOperator 85 = kX10_takeOperator_85 := rfl
theorem kX10_takeOperator_c86 : sx_cd kX10_takeOperator 86 = kX10_takeOperator_86 := rfl
theorem kX10_takeOperator_c107 : sx_cd kX10_takeOperator 107 = kX10_takeOperator_107 := rfl
theorem kX10_takeOperator_ok : sx_okM 10 (sx_M 115) kX10_takeOperator = true := by decide +kernel
def kX10_rank_0 : List sx_I := [(1, .iload_n 0, []), (87, .tableswitch 100 17 34 #[87, 89, 91, 100, 100, 100, 100, 100, 93, 93, 93, 93, 93, 93, 95, 95, 97, 97], [101, 88, 90, 92, 101, 101, 101, 101, 101, 94, 94, 94, 94, 94, 94, 96, 96, 98, 98])]
def kX10_rank_88 : List sx_I := [(1, .iconst 1, []), (1, .ireturn, [0])]
def kX10_rank_90 : List sx_I := [(1, .iconst 2, []), (1, .ireturn, [0])]
def kX10_rank_92 : List sx_I := [(1, .iconst 3, []), (1, .ireturn, [0])]
def kX10_rank_94 : List sx_I := [(1, .iconst 4, []), (1, .ireturn, [0])]
def kX10_rank_96 : List sx_I := [(1, .iconst 5, []), (1, .ireturn, [0])]
def kX10_rank_98 : List sx_I := [(2, .bipush 6, []), (1, .ireturn, [0])]
def kX10_rank_101 : List sx_I := [(1, .iconst 0, []), (1, .ireturn, [0])]
def kX10_rank : List (Nat × List sx_I) := [(0, kX10_rank_0), (88, kX10_rank_88), (90, kX10_rank_90), (92, kX10_rank_92), (94, kX10_rank_94), (96, kX10_rank_96), (98, kX10_rank_98), (101, kX10_rank_101)]
theorem kX10_rank_c0 : sx_cd kX10_rank 0 = kX10_rank_0 := rfl
theorem kX10_rank_c88 : sx_cd kX10_rank 88 = kX10_rank_88 := rfl
theorem kX10_rank_c90 : sx_cd kX10_rank 90 = kX10_rank_90 := rfl
theorem kX10_rank_c92 : sx_cd kX10_rank 92 = kX10_rank_92 := rfl
theorem kX10_rank_c94 : sx_cd kX10_rank 94 = kX10_rank_94 := rfl
theorem kX10_rank_c96 : sx_cd kX10_rank 96 = kX10_rank_96 := rfl
theorem kX10_rank_c98 : sx_cd kX10_rank 98 = kX10_rank_98 := rfl
theorem kX10_rank_c101 : sx_cd kX10_rank 101 = kX10_rank_101 := rfl
theorem kX10_rank_ok : sx_okM 10 (sx_M 116) kX10_rank = true := by decide +kernel
def kX10_addKnot_0 : List sx_I := [(1, .aload_n 0, []), (3, .getfield 37, [10, 4, 2]), (3, .getfield 227, [5, 14, 0]), (2, .bipush 64, []), (3, .if_icmp .lt 11, [20]), (1, .aload_n 0, []), (1, .iconst 2, []), (3, .invokevirtual 100, [0, 101, 2, 10]), (3, .goto 16, [33])]
def kX10_addKnot_20 : List sx_I := [(1, .aload_n 0, []), (3, .getfield 37, [10, 4, 2]), (1, .dup, []), (3, .getfield 227, [5, 14, 0]), (1, .iconst 1, []), (1, .iadd, []), (3, .putfield 227, [5, 14, 0]), (0, .nop, [33])]
def kX10_addKnot_33 : List sx_I := [(1, .return_, [])]
def kX10_addKnot : List (Nat × List sx_I) := [(0, kX10_addKnot_0), (20, kX10_addKnot_20), (33, kX10_addKnot_33)]
theorem kX10_addKnot_c0 : sx_cd kX10_addKnot 0 = kX10_addKnot_0 := rfl
theorem kX10_addKnot_c20 : sx_cd kX10_addKnot 20 = kX10_addKnot_20 := rfl
theorem kX10_addKnot_c33 : sx_cd kX10_addKnot 33 = kX10_addKnot_33 := rfl
theorem kX10_addKnot_ok : sx_okM 10 (sx_M 117) kX10_addKnot = true := by decide +kernel
def kX10_hold_0 : List sx_I := [(1, .aload_n 0, []), (3, .getfield 188, [10, 11, 0]), (1, .aload_n 0, []), (3, .getfield 34, [10, 10, 2]), (1, .arraylength, []), (3, .if_icmp .ge 23, [32]), (1, .aload_n 0, []), (3, .getfield 34, [10, 10, 2]), (1, .aload_n 0, []), (3, .getfield 188, [10, 11, 0]), (1, .iload_n 1, []), (1, .iastore, []), (1, .aload_n 0, []), (1, .dup, []), (3, .getfield 188, [10, 11, 0]), (1, .iconst 1, []), (1, .iadd, []), (3, .putfield 188, [10, 11, 0]), (0, .nop, [32])]
def kX10_hold_32 : List sx_I := [(1, .return_, [])]
def kX10_hold : List (Nat × List sx_I) := [(0, kX10_hold_0), (32, kX10_hold_32)]
theorem kX10_hold_c0 : sx_cd kX10_hold 0 = kX10_hold_0 := rfl
theorem kX10_hold_c32 : sx_cd kX10_hold 32 = kX10_hold_32 := rfl
theorem kX10_hold_ok : sx_okM 10 (sx_M 118) kX10_hold = true := by decide +kernel
def kX10_heldRank_0 : List sx_I := [(1, .aload_n 0, []), (3, .getfield 188, [10, 11, 0]), (3, .ifCond .le 32, [36]), (1, .aload_n 0, []), (3, .getfield 188, [10, 11, 0]), (1, .aload_n 0, []), (3, .getfield 34, [10, 10, 2]), (1, .arraylength, []), (3, .if_icmp .gt 20, [36]), (1, .aload_n 0, []), (3, .getfield 34, [10, 10, 2]), (1, .aload_n 0, []), (3, .getfield 188, [10, 11, 0]), (1, .iconst 1, []), (1, .isub, []), (1, .iaload, []), (3, .invokestatic 224, [4, 116, 1]), (3, .goto 4, [37])]
def kX10_heldRank_36 : List sx_I := [(1, .iconst 0, []), (0, .nop, [37])]
def kX10_heldRank_37 : List sx_I := [(1, .ireturn, [0])]
def kX10_heldRank : List (Nat × List sx_I) := [(0, kX10_heldRank_0), (36, kX10_heldRank_36), (37, kX10_heldRank_37)]
theorem kX10_heldRank_c0 : sx_cd kX10_heldRank 0 = kX10_heldRank_0 := rfl
theorem kX10_heldRank_c36 : sx_cd kX10_heldRank 36 = kX10_heldRank_36 := rfl
theorem kX10_heldRank_c37 : sx_cd kX10_heldRank 37 = kX10_heldRank_37 := rfl
theorem kX10_heldRank_ok : sx_okM 10 (sx_M 119) kX10_heldRank = true := by decide +kernel
def kX10_release_0 : List sx_I := [(1, .aload_n 0, []), (3, .getfield 188, [10, 11, 0]), (1, .istore_n 2, []), (0, .nop, [5])]
def kX10_release_5 : List sx_I := [(1, .iload_n 2, []), (3, .ifCond .le 41, [47]), (1, .aload_n 0, []), (3, .invokevirtual 216, [0, 119, 1, 10]), (1, .iload_n 1, []), (3, .if_icmp .lt 33, [47]), (1, .aload_n 0, []), (1, .dup, []), (3, .getfield 188, [10, 11, 0]), (1, .iconst 1, []), (1, .isub, []), (3, .putfield 188, [10, 11, 0]), (1, .aload_n 0, []), (1, .aload_n 0, []), (3, .getfield 34, [10, 10, 2]), (1, .aload_n 0, []), (3, .getfield 188, [10, 11, 0]), (1, .iaload, []), (1, .iconst 0, []), (3, .invokevirtual 209, [0, 121, 3, 10]), (3, .iinc 2 (-1), []), (3, .goto (-39), [5])]
def kX10_release_47 : List sx_I := [(1, .return_, [])]
def kX10_release : List (Nat × List sx_I) := [(0, kX10_release_0), (5, kX10_release_5), (47, kX10_release_47)]
theorem kX10_release_c0 : sx_cd kX10_release 0 = kX10_release_0 := rfl
theorem kX10_release_c5 : sx_cd kX10_release 5 = kX10_release_5 := rfl
theorem kX10_release_c47 : sx_cd kX10_release 47 = kX10_release_47 := rfl
theorem kX10_release_ok : sx_okM 10 (sx_M 120) kX10_release = true := by decide +kernel
def kX10_write_0 : List sx_I := [(1, .aload_n 0, []), (3, .getfield 65, [10, 14, 0]), (2, .bipush 64, []), (3, .if_icmp .ge 39, [45]), (1, .aload_n 0, []), (3, .getfield 37, [10, 4, 2]), (3, .getfield 230, [5, 15, 2]), (1, .aload_n 0, []), (3, .getfield 65, [10, 14, 0]), (1, .iload_n 1, []), (1, .iastore, []), (1, .aload_n 0, []), (3, .getfield 37, [10, 4, 2]), (3, .getfield 233, [5, 16, 2]), (1, .aload_n 0, []), (3, .getfield 65, [10, 14, 0]), (1, .iload_n 2, []), (1, .iastore, []), (1, .aload_n 0, []), (1, .dup, []), (3, .getfield 65, [10, 14, 0]), (1, .iconst 1, []), (1, .iadd, []), (3, .putfield 65, [10, 14, 0]), (0, .nop, [45])]
def kX10_write_45 : List sx_I := [(1, .return_, [])]
def kX10_write : List (Nat × List sx_I) := [(0, kX10_write_0), (45, kX10_write_45)]
theorem kX10_write_c0 : sx_cd kX10_write 0 = kX10_write_0 := rfl
theorem kX10_write_c45 : sx_cd kX10_write 45 = kX10_write_45 := rfl
theorem kX10_write_ok : sx_okM 10 (sx_M 121) kX10_write = true := by decide +kernel
def kX11_feed_0 : List sx_I := [(1, .aload_n 0, []), (3, .getfield 15, [11, 1, 0]), (2, .bipush 20, []), (1, .iadd, []), (3, .sipush 700, []), (3, .if_icmp .le 5, [15]), (1, .iconst (-1), []), (1, .ireturn, [0])]
def kX11_feed_15 : List sx_I := [(1, .aload_n 0, []), (1, .iload_n 1, []), (3, .invokevirtual 92, [0, 124, 2, 11]), (1, .aload_n 0, []), (1, .iload_n 2, []), (3, .invokevirtual 92, [0, 124, 2, 11]), (1, .aload_n 0, []), (1, .iload_n 3, []), (3, .invokevirtual 92, [0, 124, 2, 11]), (1, .aload_n 0, []), (2, .iload 4, []), (3, .invokevirtual 92, [0, 124, 2, 11]), (1, .aload_n 0, []), (2, .iload 5, []), (3, .invokevirtual 92, [0, 124, 2, 11]), (1, .aload_n 0, []), (3, .getfield 15, [11, 1, 0]), (1, .ireturn, [0])]
def kX11_feed : List (Nat × List sx_I) := [(0, kX11_feed_0), (15, kX11_feed_15)]
theorem kX11_feed_c0 : sx_cd kX11_feed 0 = kX11_feed_0 := rfl
theorem kX11_feed_c15 : sx_cd kX11_feed 15 = kX11_feed_15 := rfl
theorem kX11_feed_ok : sx_okM 11 (sx_M 123) kX11_feed = true := by decide +kernel
def kX11_putBytes_0 : List sx_I := [(2, .bipush 24, []), (1, .istore_n 2, []), (0, .nop, [3])]
def kX11_putBytes_3 : List sx_I := [(1, .iload_n 2, []), (3, .ifCond .lt 42, [46]), (1, .aload_n 0, []), (3, .getfield 15, [11, 1, 0]), (3, .sipush 700, []), (3, .if_icmp .ge 32, [46]), (1, .aload_n 0, []), (3, .getfield 11, [11, 0, 2]), (1, .aload_n 0, []), (3, .getfield 15, [11, 1, 0]), (1, .iload_n 1, []), (1, .iload_n 2, []), (1, .ishr, []), (1, .i2b, []), (1, .bastore, [3]), (1, .aload_n 0, []), (1, .dup, []), (3, .getfield 15, [11, 1, 0]), (1, .iconst 1, []), (1, .iadd, []), (3, .putfield 15, [11, 1, 0]), (3, .iinc 2 (-8), []), (3, .goto (-40), [3])]
def kX11_putBytes_46 : List sx_I := [(1, .return_, [])]
def kX11_putBytes : List (Nat × List sx_I) := [(0, kX11_putBytes_0), (3, kX11_putBytes_3), (46, kX11_putBytes_46)]
theorem kX11_putBytes_c0 : sx_cd kX11_putBytes 0 = kX11_putBytes_0 := rfl
theorem kX11_putBytes_c3 : sx_cd kX11_putBytes 3 = kX11_putBytes_3 := rfl
theorem kX11_putBytes_c46 : sx_cd kX11_putBytes 46 = kX11_putBytes_46 := rfl
theorem kX11_putBytes_ok : sx_okM 11 (sx_M 124) kX11_putBytes = true := by decide +kernel
def kX11_text_0 : List sx_I := [(1, .iload_n 1, []), (3, .ifCond .lt 11, [12]), (1, .iload_n 1, []), (1, .aload_n 0, []), (3, .getfield 15, [11, 1, 0]), (3, .if_icmp .le 6, [15]), (0, .nop, [12])]
def kX11_text_12 : List sx_I := [(2, .bipush (-2), []), (1, .ireturn, [0])]
def kX11_text_15 : List sx_I := [(1, .aload_n 0, []), (1, .iconst 0, []), (3, .putfield 15, [11, 1, 0]), (1, .aload_n 0, []), (3, .getfield 34, [11, 4, 2]), (1, .aload_n 0, []), (3, .getfield 11, [11, 0, 2]), (1, .iload_n 1, []), (1, .aload_n 0, []), (3, .getfield 26, [11, 3, 2]), (3, .invokevirtual 96, [0, 99, 4, 10]), (1, .iconst 0, []), (1, .istore_n 2, []), (0, .nop, [38])]
def kX11_text_38 : List sx_I := [(1, .iload_n 2, []), (1, .iload_n 1, []), (3, .if_icmp .ge 26, [66]), (1, .aload_n 0, []), (3, .getfield 34, [11, 4, 2]), (3, .invokevirtual 100, [0, 100, 1, 10]), (3, .ifCond .eq 16, [66]), (1, .aload_n 0, []), (3, .getfield 34, [11, 4, 2]), (3, .invokevirtual 104, [0, 102, 1, 10]), (3, .iinc 2 1, []), (3, .goto (-25), [38])]
def kX11_text_66 : List sx_I := [(1, .aload_n 0, []), (3, .getfield 34, [11, 4, 2]), (3, .getfield 107, [10, 0, 0]), (3, .ifCond .eq 5, [78]), (1, .iconst (-1), []), (1, .ireturn, [0])]
def kX11_text_78 : List sx_I := [(1, .aload_n 0, []), (3, .getfield 26, [11, 3, 2]), (1, .astore_n 2, []), (1, .aload_n 0, []), (1, .aload_n 0, []), (3, .getfield 22, [11, 2, 2]), (3, .putfield 26, [11, 3, 2]), (1, .aload_n 0, []), (1, .aload_n 2, []), (3, .putfield 22, [11, 2, 2]), (1, .aload_n 0, []), (3, .getfield 50, [11, 6, 2]), (1, .aload_n 0, []), (3, .getfield 22, [11, 2, 2]), (3, .invokevirtual 110, [0, 76, 2, 9]), (1, .aload_n 0, []), (1, .iconst 0, []), (3, .putfield 60, [11, 9, 3]), (1, .aload_n 0, []), (3, .getfield 67, [11, 10, 2]), (1, .iconst 0, []), (3, .putfield 112, [3, 0, 0]), (1, .aload_n 0, []), (3, .getfield 74, [11, 11, 2]), (3, .invokevirtual 115, [0, 1, 1, 0]), (1, .aload_n 0, []), (3, .getfield 34, [11, 4, 2]), (3, .getfield 118, [10, 2, 0]), (1, .ireturn, [0])]
def kX11_text : List (Nat × List sx_I) := [(0, kX11_text_0), (12, kX11_text_12), (15, kX11_text_15), (38, kX11_text_38), (66, kX11_text_66), (78, kX11_text_78)]
theorem kX11_text_c0 : sx_cd kX11_text 0 = kX11_text_0 := rfl
theorem kX11_text_c12 : sx_cd kX11_text 12 = kX11_text_12 := rfl
theorem kX11_text_c15 : sx_cd kX11_text 15 = kX11_text_15 := rfl
theorem kX11_text_c38 : sx_cd kX11_text 38 = kX11_text_38 := rfl
theorem kX11_text_c66 : sx_cd kX11_text 66 = kX11_text_66 := rfl
theorem kX11_text_c78 : sx_cd kX11_text 78 = kX11_text_78 := rfl
theorem kX11_text_ok : sx_okM 11 (sx_M 125) kX11_text = true := by decide +kernel
def kX11_fault_0 : List sx_I := [(1, .iload_n 1, []), (27, .lookupswitch 43 #[(0, 27), (1, 35)], [44, 28, 36])]
def kX11_fault_28 : List sx_I := [(1, .aload_n 0, []), (3, .getfield 34, [11, 4, 2]), (3, .getfield 107, [10, 0, 0]), (1, .ireturn, [0])]
def kX11_fault_36 : List sx_I := [(1, .aload_n 0, []), (3, .getfield 34, [11, 4, 2]), (3, .getfield 121, [10, 1, 0]), (1, .ireturn, [0])]
def kX11_fault_44 : List sx_I := [(1, .iconst (-1), []), (1, .ireturn, [0])]
def kX11_fault : List (Nat × List sx_I) := [(0, kX11_fault_0), (28, kX11_fault_28), (36, kX11_fault_36), (44, kX11_fault_44)]
theorem kX11_fault_c0 : sx_cd kX11_fault 0 = kX11_fault_0 := rfl
theorem kX11_fault_c28 : sx_cd kX11_fault 28 = kX11_fault_28 := rfl
theorem kX11_fault_c36 : sx_cd kX11_fault 36 = kX11_fault_36 := rfl
theorem kX11_fault_c44 : sx_cd kX11_fault 44 = kX11_fault_44 := rfl
theorem kX11_fault_ok : sx_okM 11 (sx_M 126) kX11_fault = true := by decide +kernel
def kX11_named_0 : List sx_I := [(1, .iload_n 1, []), (27, .lookupswitch 45 #[(0, 27), (1, 36)], [46, 28, 37])]
def kX11_named_28 : List sx_I := [(1, .aload_n 0, []), (3, .getfield 22, [11, 2, 2]), (1, .iload_n 2, []), (3, .invokevirtual 124, [0, 49, 2, 5]), (1, .ireturn, [0])]
def kX11_named_37 : List sx_I := [(1, .aload_n 0, []), (3, .getfield 22, [11, 2, 2]), (1, .iload_n 2, []), (3, .invokevirtual 128, [0, 50, 2, 5]), (1, .ireturn, [0])]
def kX11_named_46 : List sx_I := [(1, .iconst (-1), []), (1, .ireturn, [0])]
def kX11_named : List (Nat × List sx_I) := [(0, kX11_named_0), (28, kX11_named_28), (37, kX11_named_37), (46, kX11_named_46)]
theorem kX11_named_c0 : sx_cd kX11_named 0 = kX11_named_0 := rfl
theorem kX11_named_c28 : sx_cd kX11_named 28 = kX11_named_28 := rfl
theorem kX11_named_c37 : sx_cd kX11_named 37 = kX11_named_37 := rfl
theorem kX11_named_c46 : sx_cd kX11_named 46 = kX11_named_46 := rfl
theorem kX11_named_ok : sx_okM 11 (sx_M 127) kX11_named = true := by decide +kernel
def kX11_cell_0 : List sx_I := [(1, .aload_n 0, []), (3, .getfield 22, [11, 2, 2]), (1, .iload_n 1, []), (3, .invokevirtual 163, [0, 46, 2, 5]), (3, .ifCond .ne 6, [14]), (2, .bipush (-2), []), (1, .ireturn, [0])]
def kX11_cell_14 : List sx_I := [(1, .iload_n 2, []), (29, .tableswitch 73 0 3 #[29, 39, 49, 61], [88, 44, 54, 64, 76])]
def kX11_cell_44 : List sx_I := [(1, .aload_n 0, []), (3, .getfield 22, [11, 2, 2]), (3, .getfield 166, [5, 3, 2]), (1, .iload_n 1, []), (1, .iaload, []), (1, .ireturn, [0])]
def kX11_cell_54 : List sx_I := [(1, .aload_n 0, []), (3, .getfield 22, [11, 2, 2]), (3, .getfield 169, [5, 2, 2]), (1, .iload_n 1, []), (1, .iaload, []), (1, .ireturn, [0])]
def kX11_cell_64 : List sx_I := [(1, .aload_n 0, []), (3, .getfield 50, [11, 6, 2]), (3, .getfield 172, [9, 5, 2]), (1, .iload_n 1, []), (3, .invokevirtual 176, [0, 38, 2, 4]), (1, .ireturn, [0])]
def kX11_cell_76 : List sx_I := [(1, .aload_n 0, []), (3, .getfield 50, [11, 6, 2]), (3, .getfield 172, [9, 5, 2]), (1, .iload_n 1, []), (3, .invokevirtual 181, [0, 39, 2, 4]), (1, .ireturn, [0])]
def kX11_cell_88 : List sx_I := [(2, .bipush (-2), []), (1, .ireturn, [0])]
def kX11_cell : List (Nat × List sx_I) := [(0, kX11_cell_0), (14, kX11_cell_14), (44, kX11_cell_44), (54, kX11_cell_54), (64, kX11_cell_64), (76, kX11_cell_76), (88, kX11_cell_88)]
theorem kX11_cell_c0 : sx_cd kX11_cell 0 = kX11_cell_0 := rfl
theorem kX11_cell_c14 : sx_cd kX11_cell 14 = kX11_cell_14 := rfl
theorem kX11_cell_c44 : sx_cd kX11_cell 44 = kX11_cell_44 := rfl
theorem kX11_cell_c54 : sx_cd kX11_cell 54 = kX11_cell_54 := rfl
theorem kX11_cell_c64 : sx_cd kX11_cell 64 = kX11_cell_64 := rfl
theorem kX11_cell_c76 : sx_cd kX11_cell 76 = kX11_cell_76 := rfl
theorem kX11_cell_c88 : sx_cd kX11_cell 88 = kX11_cell_88 := rfl
theorem kX11_cell_ok : sx_okM 11 (sx_M 129) kX11_cell = true := by decide +kernel
def kX11_mark_0 : List sx_I := [(1, .aload_n 0, []), (3, .getfield 50, [11, 6, 2]), (3, .getfield 172, [9, 5, 2]), (1, .astore_n 3, []), (1, .aload_n 3, []), (1, .iload_n 1, []), (3, .invokevirtual 184, [0, 34, 2, 4]), (3, .ifCond .ne 5, [18]), (1, .iconst (-1), []), (1, .ireturn, [0])]
def kX11_mark_18 : List sx_I := [(1, .iload_n 2, []), (45, .tableswitch 101 0 7 #[45, 52, 59, 66, 73, 80, 87, 94], [120, 64, 71, 78, 85, 92, 99, 106, 113])]
def kX11_mark_64 : List sx_I := [(1, .aload_n 3, []), (3, .getfield 187, [4, 1, 2]), (1, .iload_n 1, []), (1, .iaload, []), (1, .ireturn, [0])]
def kX11_mark_71 : List sx_I := [(1, .aload_n 3, []), (3, .getfield 190, [4, 2, 2]), (1, .iload_n 1, []), (1, .iaload, []), (1, .ireturn, [0])]
def kX11_mark_78 : List sx_I := [(1, .aload_n 3, []), (3, .getfield 193, [4, 3, 2]), (1, .iload_n 1, []), (1, .iaload, []), (1, .ireturn, [0])]
def kX11_mark_85 : List sx_I := [(1, .aload_n 3, []), (3, .getfield 196, [4, 4, 2]), (1, .iload_n 1, []), (1, .iaload, []), (1, .ireturn, [0])]
def kX11_mark_92 : List sx_I := [(1, .aload_n 3, []), (3, .getfield 199, [4, 5, 2]), (1, .iload_n 1, []), (1, .iaload, []), (1, .ireturn, [0])]
def kX11_mark_99 : List sx_I := [(1, .aload_n 3, []), (3, .getfield 202, [4, 6, 2]), (1, .iload_n 1, []), (1, .iaload, []), (1, .ireturn, [0])]
def kX11_mark_106 : List sx_I := [(1, .aload_n 3, []), (3, .getfield 205, [4, 7, 2]), (1, .iload_n 1, []), (1, .iaload, []), (1, .ireturn, [0])]
def kX11_mark_113 : List sx_I := [(1, .aload_n 3, []), (3, .getfield 208, [4, 8, 2]), (1, .iload_n 1, []), (1, .iaload, []), (1, .ireturn, [0])]
def kX11_mark_120 : List sx_I := [(1, .iconst (-1), []), (1, .ireturn, [0])]
def kX11_mark : List (Nat × List sx_I) := [(0, kX11_mark_0), (18, kX11_mark_18), (64, kX11_mark_64), (71, kX11_mark_71), (78, kX11_mark_78), (85, kX11_mark_85), (92, kX11_mark_92), (99, kX11_mark_99), (106, kX11_mark_106), (113, kX11_mark_113), (120, kX11_mark_120)]
theorem kX11_mark_c0 : sx_cd kX11_mark 0 = kX11_mark_0 := rfl
theorem kX11_mark_c18 : sx_cd kX11_mark 18 = kX11_mark_18 := rfl
theorem kX11_mark_c64 : sx_cd kX11_mark 64 = kX11_mark_64 := rfl
theorem kX11_mark_c71 : sx_cd kX11_mark 71 = kX11_mark_71 := rfl
theorem kX11_mark_c78 : sx_cd kX11_mark 78 = kX11_mark_78 := rfl
theorem kX11_mark_c85 : sx_cd kX11_mark 85 = kX11_mark_85 := rfl
theorem kX11_mark_c92 : sx_cd kX11_mark 92 = kX11_mark_92 := rfl
theorem kX11_mark_c99 : sx_cd kX11_mark 99 = kX11_mark_99 := rfl
theorem kX11_mark_c106 : sx_cd kX11_mark 106 = kX11_mark_106 := rfl
theorem kX11_mark_c113 : sx_cd kX11_mark 113 = kX11_mark_113 := rfl
theorem kX11_mark_c120 : sx_cd kX11_mark 120 = kX11_mark_120 := rfl
theorem kX11_mark_ok : sx_okM 11 (sx_M 130) kX11_mark = true := by decide +kernel
def kX11_law_0 : List sx_I := [(1, .iload_n 1, []), (27, .tableswitch 92 0 2 #[27, 27, 57], [93, 28, 28, 58])]
def kX11_law_28 : List sx_I := [(1, .aload_n 0, []), (3, .getfield 50, [11, 6, 2]), (3, .getfield 172, [9, 5, 2]), (1, .iload_n 2, []), (3, .invokevirtual 211, [0, 35, 2, 4]), (3, .ifCond .eq 15, [54]), (1, .aload_n 0, []), (3, .getfield 50, [11, 6, 2]), (1, .iload_n 1, []), (1, .iload_n 2, []), (3, .invokevirtual 214, [0, 80, 3, 9]), (3, .goto 6, [57])]
def kX11_law_54 : List sx_I := [(3, .ldc2_w 218, [9223372036854775808, 1]), (0, .nop, [57])]
def kX11_law_57 : List sx_I := [(1, .lreturn, [])]
def kX11_law_58 : List sx_I := [(1, .aload_n 0, []), (3, .getfield 22, [11, 2, 2]), (1, .iload_n 2, []), (3, .invokevirtual 131, [0, 48, 2, 5]), (3, .ifCond .eq 23, [89]), (1, .aload_n 0, []), (3, .getfield 50, [11, 6, 2]), (1, .iload_n 2, []), (1, .aload_n 0, []), (3, .getfield 50, [11, 6, 2]), (3, .getfield 142, [9, 2, 2]), (1, .iload_n 2, []), (1, .iaload, []), (3, .invokevirtual 220, [0, 81, 3, 9]), (3, .goto 6, [92])]
def kX11_law_89 : List sx_I := [(3, .ldc2_w 218, [9223372036854775808, 1]), (0, .nop, [92])]
def kX11_law_92 : List sx_I := [(1, .lreturn, [])]
def kX11_law_93 : List sx_I := [(3, .ldc2_w 218, [9223372036854775808, 1]), (1, .lreturn, [])]
def kX11_law : List (Nat × List sx_I) := [(0, kX11_law_0), (28, kX11_law_28), (54, kX11_law_54), (57, kX11_law_57), (58, kX11_law_58), (89, kX11_law_89), (92, kX11_law_92), (93, kX11_law_93)]
theorem kX11_law_c0 : sx_cd kX11_law 0 = kX11_law_0 := rfl
theorem kX11_law_c28 : sx_cd kX11_law 28 = kX11_law_28 := rfl
theorem kX11_law_c54 : sx_cd kX11_law 54 = kX11_law_54 := rfl
theorem kX11_law_c57 : sx_cd kX11_law 57 = kX11_law_57 := rfl
theorem kX11_law_c58 : sx_cd kX11_law 58 = kX11_law_58 := rfl
theorem kX11_law_c89 : sx_cd kX11_law 89 = kX11_law_89 := rfl
theorem kX11_law_c92 : sx_cd kX11_law 92 = kX11_law_92 := rfl
theorem kX11_law_c93 : sx_cd kX11_law 93 = kX11_law_93 := rfl
theorem kX11_law_ok : sx_okM 11 (sx_M 131) kX11_law = true := by decide +kernel
def kX11_step_0 : List sx_I := [(1, .aload_n 0, []), (3, .getfield 22, [11, 2, 2]), (1, .iload_n 1, []), (3, .invokevirtual 131, [0, 48, 2, 5]), (3, .ifCond .eq 10, [18]), (1, .iload_n 2, []), (3, .invokestatic 223, [4, 171, 1]), (3, .ifCond .ne 5, [20]), (0, .nop, [18])]
def kX11_step_18 : List sx_I := [(1, .iconst (-1), []), (1, .ireturn, [0])]
def kX11_step_20 : List sx_I := [(1, .aload_n 0, []), (3, .getfield 50, [11, 6, 2]), (3, .getfield 142, [9, 2, 2]), (1, .iload_n 1, []), (1, .iaload, []), (1, .istore_n 3, []), (1, .aload_n 0, []), (3, .getfield 22, [11, 2, 2]), (1, .iload_n 3, []), (1, .iload_n 2, []), (3, .invokevirtual 226, [0, 53, 3, 5]), (2, .istore 4, []), (2, .iload 4, []), (1, .iconst (-1), []), (3, .if_icmp .eq 31, [75]), (1, .aload_n 0, []), (3, .getfield 50, [11, 6, 2]), (1, .iload_n 1, []), (2, .iload 4, []), (3, .invokevirtual 230, [0, 83, 3, 9]), (3, .ifCond .eq 21, [78]), (1, .aload_n 0, []), (3, .getfield 50, [11, 6, 2]), (3, .getfield 172, [9, 5, 2]), (3, .getfield 234, [4, 0, 0]), (2, .bipush 90, []), (3, .if_icmp .lt 6, [78]), (0, .nop, [75])]
def kX11_step_75 : List sx_I := [(2, .bipush (-2), []), (1, .ireturn, [0])]
def kX11_step_78 : List sx_I := [(1, .aload_n 0, []), (3, .getfield 50, [11, 6, 2]), (1, .iload_n 1, []), (2, .iload 4, []), (1, .iload_n 2, []), (3, .invokevirtual 235, [0, 84, 4, 9]), (2, .istore 5, []), (1, .aload_n 0, []), (3, .getfield 67, [11, 10, 2]), (1, .iload_n 1, []), (1, .iload_n 3, []), (2, .iload 5, []), (3, .invokevirtual 239, [0, 25, 4, 3]), (2, .iload 4, []), (1, .ireturn, [0])]
def kX11_step : List (Nat × List sx_I) := [(0, kX11_step_0), (18, kX11_step_18), (20, kX11_step_20), (75, kX11_step_75), (78, kX11_step_78)]
theorem kX11_step_c0 : sx_cd kX11_step 0 = kX11_step_0 := rfl
theorem kX11_step_c18 : sx_cd kX11_step 18 = kX11_step_18 := rfl
theorem kX11_step_c20 : sx_cd kX11_step 20 = kX11_step_20 := rfl
theorem kX11_step_c75 : sx_cd kX11_step 75 = kX11_step_75 := rfl
theorem kX11_step_c78 : sx_cd kX11_step 78 = kX11_step_78 := rfl
theorem kX11_step_ok : sx_okM 11 (sx_M 132) kX11_step = true := by decide +kernel
def kX11_boots_0 : List sx_I := [(1, .aload_n 0, []), (3, .getfield 22, [11, 2, 2]), (1, .iload_n 1, []), (3, .invokevirtual 131, [0, 48, 2, 5]), (3, .ifCond .eq 27, [35]), (1, .aload_n 0, []), (3, .getfield 22, [11, 2, 2]), (1, .iload_n 2, []), (3, .invokevirtual 131, [0, 48, 2, 5]), (3, .ifCond .eq 16, [35]), (1, .aload_n 0, []), (3, .getfield 50, [11, 6, 2]), (3, .getfield 152, [9, 4, 2]), (1, .iload_n 1, []), (1, .iaload, []), (1, .iload_n 2, []), (3, .if_icmp .ne 5, [37]), (0, .nop, [35])]
def kX11_boots_35 : List sx_I := [(1, .iconst 0, []), (1, .ireturn, [1])]
def kX11_boots_37 : List sx_I := [(1, .aload_n 0, []), (3, .getfield 67, [11, 10, 2]), (1, .iload_n 1, []), (1, .aload_n 0, []), (3, .getfield 50, [11, 6, 2]), (3, .getfield 152, [9, 4, 2]), (1, .iload_n 1, []), (1, .iaload, []), (3, .invokevirtual 243, [0, 26, 3, 3]), (1, .aload_n 0, []), (3, .getfield 50, [11, 6, 2]), (3, .getfield 152, [9, 4, 2]), (1, .iload_n 1, []), (1, .iload_n 2, []), (1, .iastore, []), (1, .iconst 1, []), (1, .ireturn, [1])]
def kX11_boots : List (Nat × List sx_I) := [(0, kX11_boots_0), (35, kX11_boots_35), (37, kX11_boots_37)]
theorem kX11_boots_c0 : sx_cd kX11_boots 0 = kX11_boots_0 := rfl
theorem kX11_boots_c35 : sx_cd kX11_boots 35 = kX11_boots_35 := rfl
theorem kX11_boots_c37 : sx_cd kX11_boots 37 = kX11_boots_37 := rfl
theorem kX11_boots_ok : sx_okM 11 (sx_M 133) kX11_boots = true := by decide +kernel
def kX11_fox_0 : List sx_I := [(1, .aload_n 0, []), (3, .getfield 22, [11, 2, 2]), (1, .iload_n 1, []), (3, .invokevirtual 163, [0, 46, 2, 5]), (3, .ifCond .eq 21, [29]), (1, .iload_n 2, []), (3, .invokestatic 223, [4, 171, 1]), (3, .ifCond .eq 14, [29]), (1, .iload_n 3, []), (1, .iconst 1, []), (3, .if_icmp .lt 9, [29]), (1, .iload_n 3, []), (2, .bipush 8, []), (3, .if_icmp .le 5, [31]), (0, .nop, [29])]
def kX11_fox_29 : List sx_I := [(1, .iconst (-1), []), (1, .ireturn, [0])]
def kX11_fox_31 : List sx_I := [(1, .aload_n 0, []), (3, .getfield 50, [11, 6, 2]), (3, .invokevirtual 247, [0, 92, 1, 9]), (1, .pop, []), (1, .aload_n 0, []), (3, .getfield 67, [11, 10, 2]), (3, .invokevirtual 251, [0, 27, 1, 3]), (2, .astore 4, []), (1, .iconst 0, []), (2, .istore 5, []), (1, .iload_n 1, []), (2, .istore 6, []), (1, .iconst 0, []), (2, .istore 7, []), (0, .nop, [57])]
def kX11_fox_57 : List sx_I := [(2, .iload 7, []), (1, .iload_n 3, []), (3, .if_icmp .ge 93, [153]), (2, .iload 6, []), (1, .iconst (-1), []), (3, .if_icmp .eq 87, [153]), (1, .aload_n 0, []), (3, .getfield 50, [11, 6, 2]), (3, .getfield 255, [9, 11, 2]), (2, .iload 6, []), (1, .iaload, []), (2, .istore 8, []), (2, .iload 8, []), (1, .iconst (-1), []), (3, .if_icmp .eq 51, [135]), (1, .aload_n 0, []), (3, .getfield 50, [11, 6, 2]), (3, .getfield 172, [9, 5, 2]), (3, .getfield 208, [4, 8, 2]), (2, .iload 8, []), (1, .iaload, []), (3, .ifCond .ne 35, [135]), (2, .iload 5, []), (2, .aload 4, []), (1, .arraylength, []), (3, .if_icmp .ge 27, [135]), (1, .aload_n 0, []), (3, .getfield 50, [11, 6, 2]), (3, .getfield 172, [9, 5, 2]), (3, .getfield 208, [4, 8, 2]), (2, .iload 8, []), (1, .iconst 1, []), (1, .iastore, []), (2, .aload 4, []), (2, .iload 5, []), (2, .iload 8, []), (1, .iastore, []), (3, .iinc 5 1, []), (0, .nop, [135])]
def kX11_fox_135 : List sx_I := [(1, .aload_n 0, []), (3, .getfield 22, [11, 2, 2]), (2, .iload 6, []), (1, .iload_n 2, []), (3, .invokevirtual 226, [0, 53, 3, 5]), (2, .istore 6, []), (3, .iinc 7 1, []), (3, .goto (-93), [57])]
def kX11_fox_153 : List sx_I := [(2, .iload 5, []), (3, .ifCond .le 12, [167]), (1, .aload_n 0, []), (3, .getfield 67, [11, 10, 2]), (2, .iload 5, []), (3, .invokevirtual 258, [0, 28, 2, 3]), (0, .nop, [167])]
def kX11_fox_167 : List sx_I := [(2, .iload 5, []), (1, .ireturn, [0])]
def kX11_fox : List (Nat × List sx_I) := [(0, kX11_fox_0), (29, kX11_fox_29), (31, kX11_fox_31), (57, kX11_fox_57), (135, kX11_fox_135), (153, kX11_fox_153), (167, kX11_fox_167)]
theorem kX11_fox_c0 : sx_cd kX11_fox 0 = kX11_fox_0 := rfl
theorem kX11_fox_c29 : sx_cd kX11_fox 29 = kX11_fox_29 := rfl
theorem kX11_fox_c31 : sx_cd kX11_fox 31 = kX11_fox_31 := rfl
theorem kX11_fox_c57 : sx_cd kX11_fox 57 = kX11_fox_57 := rfl
theorem kX11_fox_c135 : sx_cd kX11_fox 135 = kX11_fox_135 := rfl
theorem kX11_fox_c153 : sx_cd kX11_fox 153 = kX11_fox_153 := rfl
theorem kX11_fox_c167 : sx_cd kX11_fox 167 = kX11_fox_167 := rfl
theorem kX11_fox_ok : sx_okM 11 (sx_M 134) kX11_fox = true := by decide +kernel
def kX11_hours_0 : List sx_I := [(1, .iload_n 1, []), (3, .ifCond .lt 20, [21]), (1, .iload_n 1, []), (2, .bipush 99, []), (3, .if_icmp .gt 14, [21]), (1, .aload_n 0, []), (3, .getfield 50, [11, 6, 2]), (1, .iload_n 1, []), (3, .invokevirtual 261, [0, 85, 2, 9]), (3, .ifCond .ne 5, [23]), (0, .nop, [21])]
def kX11_hours_21 : List sx_I := [(1, .iconst (-1), []), (1, .ireturn, [0])]
def kX11_hours_23 : List sx_I := [(1, .iconst 0, []), (1, .istore_n 2, []), (0, .nop, [25])]
def kX11_hours_25 : List sx_I := [(1, .iload_n 2, []), (1, .iload_n 1, []), (3, .if_icmp .ge 16, [43]), (1, .aload_n 0, []), (3, .getfield 50, [11, 6, 2]), (3, .invokevirtual 264, [0, 86, 1, 9]), (3, .iinc 2 1, []), (3, .goto (-15), [25])]
def kX11_hours_43 : List sx_I := [(1, .iload_n 1, []), (3, .ifCond .le 11, [55]), (1, .aload_n 0, []), (3, .getfield 67, [11, 10, 2]), (1, .iconst 0, []), (3, .putfield 112, [3, 0, 0]), (0, .nop, [55])]
def kX11_hours_55 : List sx_I := [(1, .aload_n 0, []), (3, .getfield 50, [11, 6, 2]), (3, .getfield 267, [9, 7, 0]), (1, .ireturn, [0])]
def kX11_hours : List (Nat × List sx_I) := [(0, kX11_hours_0), (21, kX11_hours_21), (23, kX11_hours_23), (25, kX11_hours_25), (43, kX11_hours_43), (55, kX11_hours_55)]
theorem kX11_hours_c0 : sx_cd kX11_hours 0 = kX11_hours_0 := rfl
theorem kX11_hours_c21 : sx_cd kX11_hours 21 = kX11_hours_21 := rfl
theorem kX11_hours_c23 : sx_cd kX11_hours 23 = kX11_hours_23 := rfl
theorem kX11_hours_c25 : sx_cd kX11_hours 25 = kX11_hours_25 := rfl
theorem kX11_hours_c43 : sx_cd kX11_hours 43 = kX11_hours_43 := rfl
theorem kX11_hours_c55 : sx_cd kX11_hours 55 = kX11_hours_55 := rfl
theorem kX11_hours_ok : sx_okM 11 (sx_M 135) kX11_hours = true := by decide +kernel
def kX11_fall_0 : List sx_I := [(1, .iload_n 1, []), (1, .iconst 1, []), (3, .if_icmp .lt 9, [11]), (1, .iload_n 1, []), (2, .bipush 99, []), (3, .if_icmp .le 5, [13]), (0, .nop, [11])]
def kX11_fall_11 : List sx_I := [(1, .iconst (-1), []), (1, .ireturn, [0])]
def kX11_fall_13 : List sx_I := [(1, .aload_n 0, []), (3, .getfield 50, [11, 6, 2]), (1, .iload_n 1, []), (3, .invokevirtual 270, [0, 87, 2, 9]), (1, .aload_n 0, []), (3, .getfield 67, [11, 10, 2]), (1, .iconst 0, []), (3, .putfield 112, [3, 0, 0]), (1, .aload_n 0, []), (3, .getfield 50, [11, 6, 2]), (3, .getfield 273, [9, 8, 0]), (1, .ireturn, [0])]
def kX11_fall : List (Nat × List sx_I) := [(0, kX11_fall_0), (11, kX11_fall_11), (13, kX11_fall_13)]
theorem kX11_fall_c0 : sx_cd kX11_fall 0 = kX11_fall_0 := rfl
theorem kX11_fall_c11 : sx_cd kX11_fall 11 = kX11_fall_11 := rfl
theorem kX11_fall_c13 : sx_cd kX11_fall 13 = kX11_fall_13 := rfl
theorem kX11_fall_ok : sx_okM 11 (sx_M 136) kX11_fall = true := by decide +kernel
def kX11_thaw_0 : List sx_I := [(1, .iload_n 1, []), (1, .iconst 1, []), (3, .if_icmp .lt 9, [11]), (1, .iload_n 1, []), (2, .bipush 99, []), (3, .if_icmp .le 5, [13]), (0, .nop, [11])]
def kX11_thaw_11 : List sx_I := [(1, .iconst (-1), []), (1, .ireturn, [0])]
def kX11_thaw_13 : List sx_I := [(1, .aload_n 0, []), (3, .getfield 67, [11, 10, 2]), (1, .iconst 0, []), (3, .putfield 112, [3, 0, 0]), (1, .aload_n 0, []), (3, .getfield 50, [11, 6, 2]), (1, .iload_n 1, []), (3, .invokevirtual 276, [0, 88, 2, 9]), (1, .ireturn, [0])]
def kX11_thaw : List (Nat × List sx_I) := [(0, kX11_thaw_0), (11, kX11_thaw_11), (13, kX11_thaw_13)]
theorem kX11_thaw_c0 : sx_cd kX11_thaw 0 = kX11_thaw_0 := rfl
theorem kX11_thaw_c11 : sx_cd kX11_thaw 11 = kX11_thaw_11 := rfl
theorem kX11_thaw_c13 : sx_cd kX11_thaw 13 = kX11_thaw_13 := rfl
theorem kX11_thaw_ok : sx_okM 11 (sx_M 137) kX11_thaw = true := by decide +kernel
def kX11_night_0 : List sx_I := [(1, .aload_n 0, []), (3, .getfield 50, [11, 6, 2]), (1, .iconst 1, []), (3, .invokevirtual 261, [0, 85, 2, 9]), (3, .ifCond .ne 6, [14]), (2, .bipush (-100), []), (1, .ireturn, [0])]
def kX11_night_14 : List sx_I := [(1, .aload_n 0, []), (3, .getfield 67, [11, 10, 2]), (1, .iconst 0, []), (3, .putfield 112, [3, 0, 0]), (1, .aload_n 0, []), (3, .getfield 50, [11, 6, 2]), (3, .invokevirtual 279, [0, 90, 1, 9]), (1, .ireturn, [0])]
def kX11_night : List (Nat × List sx_I) := [(0, kX11_night_0), (14, kX11_night_14)]
theorem kX11_night_c0 : sx_cd kX11_night 0 = kX11_night_0 := rfl
theorem kX11_night_c14 : sx_cd kX11_night 14 = kX11_night_14 := rfl
theorem kX11_night_ok : sx_okM 11 (sx_M 138) kX11_night = true := by decide +kernel
def kX11_winter_0 : List sx_I := [(1, .aload_n 0, []), (3, .getfield 50, [11, 6, 2]), (3, .invokevirtual 282, [0, 91, 1, 9]), (1, .aload_n 0, []), (3, .getfield 67, [11, 10, 2]), (1, .iconst 0, []), (3, .putfield 112, [3, 0, 0]), (1, .aload_n 0, []), (3, .getfield 50, [11, 6, 2]), (3, .getfield 285, [9, 9, 0]), (1, .ireturn, [0])]
def kX11_winter : List (Nat × List sx_I) := [(0, kX11_winter_0)]
theorem kX11_winter_c0 : sx_cd kX11_winter 0 = kX11_winter_0 := rfl
theorem kX11_winter_ok : sx_okM 11 (sx_M 139) kX11_winter = true := by decide +kernel
def kX11_read_0 : List sx_I := [(1, .aload_n 0, []), (3, .getfield 22, [11, 2, 2]), (1, .iload_n 1, []), (3, .invokevirtual 163, [0, 46, 2, 5]), (3, .ifCond .ne 5, [13]), (1, .iconst (-1), []), (1, .ireturn, [0])]
def kX11_read_13 : List sx_I := [(1, .aload_n 0, []), (3, .getfield 50, [11, 6, 2]), (3, .getfield 172, [9, 5, 2]), (1, .iload_n 1, []), (3, .invokevirtual 181, [0, 39, 2, 4]), (1, .istore_n 2, []), (1, .iload_n 2, []), (1, .iconst (-1), []), (3, .if_icmp .ne 6, [33]), (2, .bipush (-2), []), (1, .ireturn, [0])]
def kX11_read_33 : List sx_I := [(1, .aload_n 0, []), (3, .getfield 50, [11, 6, 2]), (3, .getfield 172, [9, 5, 2]), (3, .getfield 208, [4, 8, 2]), (1, .iload_n 2, []), (1, .iaload, []), (3, .ifCond .ne 18, [63]), (1, .aload_n 0, []), (3, .getfield 50, [11, 6, 2]), (3, .getfield 172, [9, 5, 2]), (3, .getfield 187, [4, 1, 2]), (1, .iload_n 2, []), (1, .iaload, []), (3, .goto 5, [65])]
def kX11_read_63 : List sx_I := [(2, .bipush (-3), []), (0, .nop, [65])]
def kX11_read_65 : List sx_I := [(1, .ireturn, [0])]
def kX11_read : List (Nat × List sx_I) := [(0, kX11_read_0), (13, kX11_read_13), (33, kX11_read_33), (63, kX11_read_63), (65, kX11_read_65)]
theorem kX11_read_c0 : sx_cd kX11_read 0 = kX11_read_0 := rfl
theorem kX11_read_c13 : sx_cd kX11_read 13 = kX11_read_13 := rfl
theorem kX11_read_c33 : sx_cd kX11_read 33 = kX11_read_33 := rfl
theorem kX11_read_c63 : sx_cd kX11_read 63 = kX11_read_63 := rfl
theorem kX11_read_c65 : sx_cd kX11_read 65 = kX11_read_65 := rfl
theorem kX11_read_ok : sx_okM 11 (sx_M 140) kX11_read = true := by decide +kernel
def kX11_score_0 : List sx_I := [(1, .aload_n 0, []), (3, .getfield 22, [11, 2, 2]), (1, .iload_n 1, []), (3, .invokevirtual 288, [0, 47, 2, 5]), (3, .ifCond .ne 5, [13]), (1, .iconst (-1), []), (1, .ireturn, [0])]
def kX11_score_13 : List sx_I := [(1, .iload_n 2, []), (26, .lookupswitch 45 #[(0, 26), (1, 35)], [59, 40, 49])]
def kX11_score_40 : List sx_I := [(1, .aload_n 0, []), (3, .getfield 50, [11, 6, 2]), (1, .iload_n 1, []), (3, .invokevirtual 291, [0, 93, 2, 9]), (1, .ireturn, [0])]
def kX11_score_49 : List sx_I := [(1, .aload_n 0, []), (3, .getfield 50, [11, 6, 2]), (3, .getfield 294, [9, 6, 2]), (1, .iload_n 1, []), (1, .iaload, []), (1, .ireturn, [0])]
def kX11_score_59 : List sx_I := [(1, .iconst (-1), []), (1, .ireturn, [0])]
def kX11_score : List (Nat × List sx_I) := [(0, kX11_score_0), (13, kX11_score_13), (40, kX11_score_40), (49, kX11_score_49), (59, kX11_score_59)]
theorem kX11_score_c0 : sx_cd kX11_score 0 = kX11_score_0 := rfl
theorem kX11_score_c13 : sx_cd kX11_score 13 = kX11_score_13 := rfl
theorem kX11_score_c40 : sx_cd kX11_score 40 = kX11_score_40 := rfl
theorem kX11_score_c49 : sx_cd kX11_score 49 = kX11_score_49 := rfl
theorem kX11_score_c59 : sx_cd kX11_score 59 = kX11_score_59 := rfl
theorem kX11_score_ok : sx_okM 11 (sx_M 141) kX11_score = true := by decide +kernel
def kX11_ahead_0 : List sx_I := [(1, .iconst (-1), []), (1, .istore_n 1, []), (1, .iconst 0, []), (1, .istore_n 2, []), (1, .iconst 0, []), (1, .istore_n 3, []), (0, .nop, [6])]
def kX11_ahead_6 : List sx_I := [(1, .iload_n 3, []), (1, .aload_n 0, []), (3, .getfield 22, [11, 2, 2]), (3, .getfield 297, [5, 4, 0]), (3, .if_icmp .ge 45, [59]), (1, .aload_n 0, []), (3, .getfield 50, [11, 6, 2]), (3, .getfield 294, [9, 6, 2]), (1, .iload_n 3, []), (1, .iaload, []), (1, .aload_n 0, []), (3, .getfield 50, [11, 6, 2]), (1, .iload_n 3, []), (3, .invokevirtual 291, [0, 93, 2, 9]), (1, .iadd, []), (2, .istore 4, []), (1, .iload_n 1, []), (1, .iconst (-1), []), (3, .if_icmp .eq 9, [48]), (2, .iload 4, []), (1, .iload_n 2, []), (3, .if_icmp .le 8, [53]), (0, .nop, [48])]
def kX11_ahead_48 : List sx_I := [(1, .iload_n 3, []), (1, .istore_n 1, []), (2, .iload 4, []), (1, .istore_n 2, []), (0, .nop, [53])]
def kX11_ahead_53 : List sx_I := [(3, .iinc 3 1, []), (3, .goto (-50), [6])]
def kX11_ahead_59 : List sx_I := [(1, .iload_n 1, []), (1, .ireturn, [0])]
def kX11_ahead : List (Nat × List sx_I) := [(0, kX11_ahead_0), (6, kX11_ahead_6), (48, kX11_ahead_48), (53, kX11_ahead_53), (59, kX11_ahead_59)]
theorem kX11_ahead_c0 : sx_cd kX11_ahead 0 = kX11_ahead_0 := rfl
theorem kX11_ahead_c6 : sx_cd kX11_ahead 6 = kX11_ahead_6 := rfl
theorem kX11_ahead_c48 : sx_cd kX11_ahead 48 = kX11_ahead_48 := rfl
theorem kX11_ahead_c53 : sx_cd kX11_ahead 53 = kX11_ahead_53 := rfl
theorem kX11_ahead_c59 : sx_cd kX11_ahead 59 = kX11_ahead_59 := rfl
theorem kX11_ahead_ok : sx_okM 11 (sx_M 142) kX11_ahead = true := by decide +kernel
def kX11_claim_0 : List sx_I := [(1, .iload_n 3, []), (3, .ifCond .lt 21, [22]), (1, .iload_n 3, []), (2, .iload 4, []), (3, .if_icmp .gt 15, [22]), (2, .iload 4, []), (3, .sipush 9999, []), (3, .if_icmp .gt 7, [22]), (1, .iconst 1, []), (3, .goto 4, [23])]
def kX11_claim_22 : List sx_I := [(1, .iconst 0, []), (0, .nop, [23])]
def kX11_claim_23 : List sx_I := [(2, .istore 5, []), (1, .aload_n 0, []), (3, .getfield 22, [11, 2, 2]), (1, .iload_n 1, []), (3, .invokevirtual 163, [0, 46, 2, 5]), (3, .ifCond .eq 19, [52]), (1, .aload_n 0, []), (3, .getfield 22, [11, 2, 2]), (1, .iload_n 2, []), (3, .invokevirtual 131, [0, 48, 2, 5]), (3, .ifCond .eq 8, [52]), (2, .iload 5, []), (3, .ifCond .ne 5, [54]), (0, .nop, [52])]
def kX11_claim_52 : List sx_I := [(1, .iconst (-1), []), (1, .ireturn, [0])]
def kX11_claim_54 : List sx_I := [(1, .aload_n 0, []), (3, .getfield 74, [11, 11, 2]), (1, .iload_n 1, []), (1, .iload_n 2, []), (1, .iload_n 3, []), (2, .iload 4, []), (3, .invokevirtual 300, [0, 2, 5, 0]), (1, .ireturn, [0])]
def kX11_claim : List (Nat × List sx_I) := [(0, kX11_claim_0), (22, kX11_claim_22), (23, kX11_claim_23), (52, kX11_claim_52), (54, kX11_claim_54)]
theorem kX11_claim_c0 : sx_cd kX11_claim 0 = kX11_claim_0 := rfl
theorem kX11_claim_c22 : sx_cd kX11_claim 22 = kX11_claim_22 := rfl
theorem kX11_claim_c23 : sx_cd kX11_claim 23 = kX11_claim_23 := rfl
theorem kX11_claim_c52 : sx_cd kX11_claim 52 = kX11_claim_52 := rfl
theorem kX11_claim_c54 : sx_cd kX11_claim 54 = kX11_claim_54 := rfl
theorem kX11_claim_ok : sx_okM 11 (sx_M 143) kX11_claim = true := by decide +kernel
def kX11_strike_0 : List sx_I := [(1, .iload_n 1, []), (3, .ifCond .lt 14, [15]), (1, .iload_n 1, []), (1, .aload_n 0, []), (3, .getfield 74, [11, 11, 2]), (3, .getfield 304, [0, 0, 0]), (3, .if_icmp .lt 5, [17]), (0, .nop, [15])]
def kX11_strike_15 : List sx_I := [(1, .iconst (-1), []), (1, .ireturn, [0])]
def kX11_strike_17 : List sx_I := [(1, .aload_n 0, []), (3, .getfield 74, [11, 11, 2]), (1, .iload_n 1, []), (3, .invokevirtual 305, [0, 3, 2, 0]), (1, .ireturn, [0])]
def kX11_strike : List (Nat × List sx_I) := [(0, kX11_strike_0), (15, kX11_strike_15), (17, kX11_strike_17)]
theorem kX11_strike_c0 : sx_cd kX11_strike 0 = kX11_strike_0 := rfl
theorem kX11_strike_c15 : sx_cd kX11_strike 15 = kX11_strike_15 := rfl
theorem kX11_strike_c17 : sx_cd kX11_strike 17 = kX11_strike_17 := rfl
theorem kX11_strike_ok : sx_okM 11 (sx_M 144) kX11_strike = true := by decide +kernel
def kX11_known_0 : List sx_I := [(1, .iload_n 1, []), (1, .iconst (-1), []), (3, .if_icmp .lt 14, [16]), (1, .iload_n 1, []), (1, .aload_n 0, []), (3, .getfield 74, [11, 11, 2]), (3, .getfield 304, [0, 0, 0]), (3, .if_icmp .le 5, [18]), (0, .nop, [16])]
def kX11_known_16 : List sx_I := [(1, .iconst 0, []), (1, .ireturn, [1])]
def kX11_known_18 : List sx_I := [(1, .aload_n 0, []), (3, .getfield 74, [11, 11, 2]), (1, .iload_n 1, []), (3, .putfield 308, [0, 1, 0]), (1, .iconst 1, []), (1, .ireturn, [1])]
def kX11_known : List (Nat × List sx_I) := [(0, kX11_known_0), (16, kX11_known_16), (18, kX11_known_18)]
theorem kX11_known_c0 : sx_cd kX11_known 0 = kX11_known_0 := rfl
theorem kX11_known_c16 : sx_cd kX11_known 16 = kX11_known_16 := rfl
theorem kX11_known_c18 : sx_cd kX11_known 18 = kX11_known_18 := rfl
theorem kX11_known_ok : sx_okM 11 (sx_M 145) kX11_known = true := by decide +kernel
def kX11_judged_0 : List sx_I := [(1, .aload_n 0, []), (3, .getfield 74, [11, 11, 2]), (1, .aload_n 0, []), (3, .getfield 50, [11, 6, 2]), (3, .invokevirtual 311, [0, 6, 2, 0]), (1, .ireturn, [0])]
def kX11_judged : List (Nat × List sx_I) := [(0, kX11_judged_0)]
theorem kX11_judged_c0 : sx_cd kX11_judged 0 = kX11_judged_0 := rfl
theorem kX11_judged_ok : sx_okM 11 (sx_M 146) kX11_judged = true := by decide +kernel
def kX11_forged_0 : List sx_I := [(1, .aload_n 0, []), (3, .getfield 50, [11, 6, 2]), (3, .invokevirtual 247, [0, 92, 1, 9]), (1, .pop, []), (1, .iconst 0, []), (1, .istore_n 1, []), (1, .iconst 0, []), (1, .istore_n 2, []), (0, .nop, [12])]
def kX11_forged_12 : List sx_I := [(1, .iload_n 2, []), (1, .aload_n 0, []), (3, .getfield 50, [11, 6, 2]), (3, .getfield 172, [9, 5, 2]), (3, .getfield 234, [4, 0, 0]), (3, .if_icmp .ge 23, [46]), (1, .aload_n 0, []), (3, .getfield 50, [11, 6, 2]), (1, .iload_n 2, []), (3, .invokevirtual 315, [0, 97, 2, 9]), (3, .ifCond .eq 6, [40]), (3, .iinc 1 1, []), (0, .nop, [40])]
def kX11_forged_40 : List sx_I := [(3, .iinc 2 1, []), (3, .goto (-31), [12])]
def kX11_forged_46 : List sx_I := [(1, .iload_n 1, []), (1, .ireturn, [0])]
def kX11_forged : List (Nat × List sx_I) := [(0, kX11_forged_0), (12, kX11_forged_12), (40, kX11_forged_40), (46, kX11_forged_46)]
theorem kX11_forged_c0 : sx_cd kX11_forged 0 = kX11_forged_0 := rfl
theorem kX11_forged_c12 : sx_cd kX11_forged 12 = kX11_forged_12 := rfl
theorem kX11_forged_c40 : sx_cd kX11_forged 40 = kX11_forged_40 := rfl
theorem kX11_forged_c46 : sx_cd kX11_forged 46 = kX11_forged_46 := rfl
theorem kX11_forged_ok : sx_okM 11 (sx_M 147) kX11_forged = true := by decide +kernel
def kX11_forgery_0 : List sx_I := [(1, .iload_n 1, []), (3, .ifCond .ge 5, [6]), (1, .iconst (-1), []), (1, .ireturn, [0])]
def kX11_forgery_6 : List sx_I := [(1, .aload_n 0, []), (3, .getfield 50, [11, 6, 2]), (3, .invokevirtual 247, [0, 92, 1, 9]), (1, .pop, []), (1, .iload_n 1, []), (1, .istore_n 2, []), (1, .iconst 0, []), (1, .istore_n 3, []), (0, .nop, [18])]
def kX11_forgery_18 : List sx_I := [(1, .iload_n 3, []), (1, .aload_n 0, []), (3, .getfield 50, [11, 6, 2]), (3, .getfield 172, [9, 5, 2]), (3, .getfield 234, [4, 0, 0]), (3, .if_icmp .ge 29, [58]), (1, .aload_n 0, []), (3, .getfield 50, [11, 6, 2]), (1, .iload_n 3, []), (3, .invokevirtual 315, [0, 97, 2, 9]), (3, .ifCond .eq 12, [52]), (1, .iload_n 2, []), (3, .ifCond .ne 5, [49]), (1, .iload_n 3, []), (1, .ireturn, [0])]
def kX11_forgery_49 : List sx_I := [(3, .iinc 2 (-1), []), (0, .nop, [52])]
def kX11_forgery_52 : List sx_I := [(3, .iinc 3 1, []), (3, .goto (-37), [18])]
def kX11_forgery_58 : List sx_I := [(2, .bipush (-2), []), (1, .ireturn, [0])]
def kX11_forgery : List (Nat × List sx_I) := [(0, kX11_forgery_0), (6, kX11_forgery_6), (18, kX11_forgery_18), (49, kX11_forgery_49), (52, kX11_forgery_52), (58, kX11_forgery_58)]
theorem kX11_forgery_c0 : sx_cd kX11_forgery 0 = kX11_forgery_0 := rfl
theorem kX11_forgery_c6 : sx_cd kX11_forgery 6 = kX11_forgery_6 := rfl
theorem kX11_forgery_c18 : sx_cd kX11_forgery 18 = kX11_forgery_18 := rfl
theorem kX11_forgery_c49 : sx_cd kX11_forgery 49 = kX11_forgery_49 := rfl
theorem kX11_forgery_c52 : sx_cd kX11_forgery 52 = kX11_forgery_52 := rfl
theorem kX11_forgery_c58 : sx_cd kX11_forgery 58 = kX11_forgery_58 := rfl
theorem kX11_forgery_ok : sx_okM 11 (sx_M 148) kX11_forgery = true := by decide +kernel
def kX11_trail_0 : List sx_I := [(1, .aload_n 0, []), (3, .getfield 50, [11, 6, 2]), (3, .getfield 172, [9, 5, 2]), (1, .iload_n 1, []), (3, .invokevirtual 211, [0, 35, 2, 4]), (3, .ifCond .ne 5, [16]), (1, .iconst (-1), []), (1, .ireturn, [0])]
def kX11_trail_16 : List sx_I := [(1, .iconst 0, []), (1, .istore_n 2, []), (1, .iload_n 1, []), (1, .istore_n 3, []), (1, .iconst 0, []), (2, .istore 4, []), (0, .nop, [23])]
def kX11_trail_23 : List sx_I := [(2, .iload 4, []), (2, .bipush 90, []), (3, .if_icmp .ge 26, [53]), (1, .iload_n 3, []), (1, .iconst (-1), []), (3, .if_icmp .eq 21, [53]), (3, .iinc 2 1, []), (1, .aload_n 0, []), (3, .getfield 50, [11, 6, 2]), (1, .iload_n 3, []), (3, .invokevirtual 318, [0, 94, 2, 9]), (1, .istore_n 3, []), (3, .iinc 4 1, []), (3, .goto (-27), [23])]
def kX11_trail_53 : List sx_I := [(1, .iload_n 2, []), (1, .ireturn, [0])]
def kX11_trail : List (Nat × List sx_I) := [(0, kX11_trail_0), (16, kX11_trail_16), (23, kX11_trail_23), (53, kX11_trail_53)]
theorem kX11_trail_c0 : sx_cd kX11_trail 0 = kX11_trail_0 := rfl
theorem kX11_trail_c16 : sx_cd kX11_trail 16 = kX11_trail_16 := rfl
theorem kX11_trail_c23 : sx_cd kX11_trail 23 = kX11_trail_23 := rfl
theorem kX11_trail_c53 : sx_cd kX11_trail 53 = kX11_trail_53 := rfl
theorem kX11_trail_ok : sx_okM 11 (sx_M 149) kX11_trail = true := by decide +kernel
def kX11_trailed_0 : List sx_I := [(1, .aload_n 0, []), (3, .getfield 50, [11, 6, 2]), (3, .getfield 172, [9, 5, 2]), (1, .iload_n 1, []), (3, .invokevirtual 211, [0, 35, 2, 4]), (3, .ifCond .eq 7, [18]), (1, .iload_n 2, []), (3, .ifCond .ge 5, [20]), (0, .nop, [18])]
def kX11_trailed_18 : List sx_I := [(1, .iconst (-1), []), (1, .ireturn, [0])]
def kX11_trailed_20 : List sx_I := [(1, .iload_n 1, []), (1, .istore_n 3, []), (1, .iconst 0, []), (2, .istore 4, []), (0, .nop, [25])]
def kX11_trailed_25 : List sx_I := [(2, .iload 4, []), (1, .iload_n 2, []), (3, .if_icmp .ge 23, [51]), (1, .iload_n 3, []), (1, .iconst (-1), []), (3, .if_icmp .eq 18, [51]), (1, .aload_n 0, []), (3, .getfield 50, [11, 6, 2]), (1, .iload_n 3, []), (3, .invokevirtual 318, [0, 94, 2, 9]), (1, .istore_n 3, []), (3, .iinc 4 1, []), (3, .goto (-23), [25])]
def kX11_trailed_51 : List sx_I := [(1, .iload_n 3, []), (1, .iconst (-1), []), (3, .if_icmp .ne 8, [61]), (2, .bipush (-2), []), (3, .goto 4, [62])]
def kX11_trailed_61 : List sx_I := [(1, .iload_n 3, []), (0, .nop, [62])]
def kX11_trailed_62 : List sx_I := [(1, .ireturn, [0])]
def kX11_trailed : List (Nat × List sx_I) := [(0, kX11_trailed_0), (18, kX11_trailed_18), (20, kX11_trailed_20), (25, kX11_trailed_25), (51, kX11_trailed_51), (61, kX11_trailed_61), (62, kX11_trailed_62)]
theorem kX11_trailed_c0 : sx_cd kX11_trailed 0 = kX11_trailed_0 := rfl
theorem kX11_trailed_c18 : sx_cd kX11_trailed 18 = kX11_trailed_18 := rfl
theorem kX11_trailed_c20 : sx_cd kX11_trailed 20 = kX11_trailed_20 := rfl
theorem kX11_trailed_c25 : sx_cd kX11_trailed 25 = kX11_trailed_25 := rfl
theorem kX11_trailed_c51 : sx_cd kX11_trailed 51 = kX11_trailed_51 := rfl
theorem kX11_trailed_c61 : sx_cd kX11_trailed 61 = kX11_trailed_61 := rfl
theorem kX11_trailed_c62 : sx_cd kX11_trailed 62 = kX11_trailed_62 := rfl
theorem kX11_trailed_ok : sx_okM 11 (sx_M 150) kX11_trailed = true := by decide +kernel
def kX11_quiet_0 : List sx_I := [(1, .aload_n 0, []), (3, .getfield 22, [11, 2, 2]), (1, .iload_n 1, []), (3, .invokevirtual 163, [0, 46, 2, 5]), (3, .ifCond .eq 14, [22]), (1, .aload_n 0, []), (3, .getfield 22, [11, 2, 2]), (1, .iload_n 2, []), (3, .invokevirtual 163, [0, 46, 2, 5]), (3, .ifCond .ne 5, [24]), (0, .nop, [22])]
def kX11_quiet_22 : List sx_I := [(1, .iconst (-1), []), (1, .ireturn, [0])]
def kX11_quiet_24 : List sx_I := [(1, .aload_n 0, []), (3, .getfield 50, [11, 6, 2]), (3, .invokevirtual 247, [0, 92, 1, 9]), (1, .pop, []), (1, .aload_n 0, []), (3, .getfield 81, [11, 12, 2]), (1, .aload_n 0, []), (3, .getfield 22, [11, 2, 2]), (1, .aload_n 0, []), (3, .getfield 50, [11, 6, 2]), (3, .getfield 255, [9, 11, 2]), (1, .iload_n 1, []), (1, .iload_n 2, []), (3, .invokevirtual 321, [0, 65, 5, 7]), (1, .iload_n 3, []), (27, .lookupswitch 43 #[(0, 27), (1, 35)], [96, 80, 88])]
def kX11_quiet_80 : List sx_I := [(1, .aload_n 0, []), (3, .getfield 81, [11, 12, 2]), (3, .getfield 325, [7, 0, 0]), (1, .ireturn, [0])]
def kX11_quiet_88 : List sx_I := [(1, .aload_n 0, []), (3, .getfield 81, [11, 12, 2]), (3, .getfield 328, [7, 1, 0]), (1, .ireturn, [0])]
def kX11_quiet_96 : List sx_I := [(1, .iconst (-1), []), (1, .ireturn, [0])]
def kX11_quiet : List (Nat × List sx_I) := [(0, kX11_quiet_0), (22, kX11_quiet_22), (24, kX11_quiet_24), (80, kX11_quiet_80), (88, kX11_quiet_88), (96, kX11_quiet_96)]
theorem kX11_quiet_c0 : sx_cd kX11_quiet 0 = kX11_quiet_0 := rfl
theorem kX11_quiet_c22 : sx_cd kX11_quiet 22 = kX11_quiet_22 := rfl
theorem kX11_quiet_c24 : sx_cd kX11_quiet 24 = kX11_quiet_24 := rfl
theorem kX11_quiet_c80 : sx_cd kX11_quiet 80 = kX11_quiet_80 := rfl
theorem kX11_quiet_c88 : sx_cd kX11_quiet 88 = kX11_quiet_88 := rfl
theorem kX11_quiet_c96 : sx_cd kX11_quiet 96 = kX11_quiet_96 := rfl
theorem kX11_quiet_ok : sx_okM 11 (sx_M 151) kX11_quiet = true := by decide +kernel
def kX11_hushed_0 : List sx_I := [(1, .aload_n 0, []), (3, .getfield 22, [11, 2, 2]), (1, .iload_n 1, []), (3, .invokevirtual 163, [0, 46, 2, 5]), (3, .ifCond .eq 18, [26]), (1, .aload_n 0, []), (3, .getfield 22, [11, 2, 2]), (1, .iload_n 2, []), (3, .invokevirtual 163, [0, 46, 2, 5]), (3, .ifCond .eq 7, [26]), (1, .iload_n 3, []), (3, .ifCond .ge 5, [28]), (0, .nop, [26])]
def kX11_hushed_26 : List sx_I := [(1, .iconst (-1), []), (1, .ireturn, [0])]
def kX11_hushed_28 : List sx_I := [(1, .aload_n 0, []), (3, .getfield 50, [11, 6, 2]), (3, .invokevirtual 247, [0, 92, 1, 9]), (1, .pop, []), (1, .aload_n 0, []), (3, .getfield 81, [11, 12, 2]), (1, .aload_n 0, []), (3, .getfield 22, [11, 2, 2]), (1, .aload_n 0, []), (3, .getfield 50, [11, 6, 2]), (3, .getfield 255, [9, 11, 2]), (1, .iload_n 1, []), (1, .iload_n 2, []), (3, .invokevirtual 321, [0, 65, 5, 7]), (1, .iload_n 3, []), (1, .aload_n 0, []), (3, .getfield 81, [11, 12, 2]), (3, .getfield 328, [7, 1, 0]), (3, .if_icmp .gt 21, [85]), (1, .iload_n 3, []), (2, .bipush 48, []), (3, .if_icmp .ge 15, [85]), (1, .aload_n 0, []), (3, .getfield 81, [11, 12, 2]), (3, .getfield 330, [7, 2, 2]), (1, .iload_n 3, []), (1, .iaload, []), (3, .goto 5, [87])]
def kX11_hushed_85 : List sx_I := [(2, .bipush (-2), []), (0, .nop, [87])]
def kX11_hushed_87 : List sx_I := [(1, .ireturn, [0])]
def kX11_hushed : List (Nat × List sx_I) := [(0, kX11_hushed_0), (26, kX11_hushed_26), (28, kX11_hushed_28), (85, kX11_hushed_85), (87, kX11_hushed_87)]
theorem kX11_hushed_c0 : sx_cd kX11_hushed 0 = kX11_hushed_0 := rfl
theorem kX11_hushed_c26 : sx_cd kX11_hushed 26 = kX11_hushed_26 := rfl
theorem kX11_hushed_c28 : sx_cd kX11_hushed 28 = kX11_hushed_28 := rfl
theorem kX11_hushed_c85 : sx_cd kX11_hushed 85 = kX11_hushed_85 := rfl
theorem kX11_hushed_c87 : sx_cd kX11_hushed 87 = kX11_hushed_87 := rfl
theorem kX11_hushed_ok : sx_okM 11 (sx_M 152) kX11_hushed = true := by decide +kernel
def kX11_covered_0 : List sx_I := [(1, .iload_n 1, []), (3, .invokestatic 331, [4, 172, 1]), (3, .ifCond .eq 10, [14]), (1, .iload_n 2, []), (3, .invokestatic 334, [4, 173, 1]), (3, .ifCond .ne 5, [16]), (0, .nop, [14])]
def kX11_covered_14 : List sx_I := [(1, .iconst (-1), []), (1, .ireturn, [0])]
def kX11_covered_16 : List sx_I := [(1, .aload_n 0, []), (3, .getfield 22, [11, 2, 2]), (3, .getfield 337, [5, 12, 2]), (1, .iload_n 1, []), (1, .iload_n 2, []), (3, .invokevirtual 341, [0, 10, 3, 1]), (2, .istore 4, []), (1, .aload_n 0, []), (3, .getfield 22, [11, 2, 2]), (3, .getfield 337, [5, 12, 2]), (1, .iload_n 2, []), (3, .invokevirtual 346, [0, 9, 2, 1]), (2, .istore 5, []), (2, .iload 4, []), (2, .iload 5, []), (3, .invokestatic 349, [4, 154, 2]), (2, .istore 6, []), (2, .iload 6, []), (1, .iconst 1, []), (3, .if_icmp .ge 5, [60]), (1, .iconst (-1), []), (1, .ireturn, [0])]
def kX11_covered_60 : List sx_I := [(1, .iload_n 3, []), (27, .lookupswitch 39 #[(0, 27), (1, 33)], [100, 88, 94])]
def kX11_covered_88 : List sx_I := [(2, .iload 4, []), (2, .iload 6, []), (1, .idiv, []), (1, .ireturn, [0])]
def kX11_covered_94 : List sx_I := [(2, .iload 5, []), (2, .iload 6, []), (1, .idiv, []), (1, .ireturn, [0])]
def kX11_covered_100 : List sx_I := [(1, .iconst (-1), []), (1, .ireturn, [0])]
def kX11_covered : List (Nat × List sx_I) := [(0, kX11_covered_0), (14, kX11_covered_14), (16, kX11_covered_16), (60, kX11_covered_60), (88, kX11_covered_88), (94, kX11_covered_94), (100, kX11_covered_100)]
theorem kX11_covered_c0 : sx_cd kX11_covered 0 = kX11_covered_0 := rfl
theorem kX11_covered_c14 : sx_cd kX11_covered 14 = kX11_covered_14 := rfl
theorem kX11_covered_c16 : sx_cd kX11_covered 16 = kX11_covered_16 := rfl
theorem kX11_covered_c60 : sx_cd kX11_covered 60 = kX11_covered_60 := rfl
theorem kX11_covered_c88 : sx_cd kX11_covered 88 = kX11_covered_88 := rfl
theorem kX11_covered_c94 : sx_cd kX11_covered 94 = kX11_covered_94 := rfl
theorem kX11_covered_c100 : sx_cd kX11_covered 100 = kX11_covered_100 := rfl
theorem kX11_covered_ok : sx_okM 11 (sx_M 153) kX11_covered = true := by decide +kernel
def kX11_commonDivisor_0 : List sx_I := [(1, .iload_n 0, []), (1, .istore_n 2, []), (1, .iload_n 1, []), (1, .istore_n 3, []), (1, .iconst 0, []), (2, .istore 4, []), (0, .nop, [7])]
def kX11_commonDivisor_7 : List sx_I := [(2, .iload 4, []), (2, .bipush 64, []), (3, .if_icmp .ge 23, [34]), (1, .iload_n 3, []), (3, .ifCond .eq 19, [34]), (1, .iload_n 2, []), (1, .iload_n 3, []), (1, .irem, []), (2, .istore 5, []), (1, .iload_n 3, []), (1, .istore_n 2, []), (2, .iload 5, []), (1, .istore_n 3, []), (3, .iinc 4 1, []), (3, .goto (-24), [7])]
def kX11_commonDivisor_34 : List sx_I := [(1, .iload_n 2, []), (1, .ireturn, [0])]
def kX11_commonDivisor : List (Nat × List sx_I) := [(0, kX11_commonDivisor_0), (7, kX11_commonDivisor_7), (34, kX11_commonDivisor_34)]
theorem kX11_commonDivisor_c0 : sx_cd kX11_commonDivisor 0 = kX11_commonDivisor_0 := rfl
theorem kX11_commonDivisor_c7 : sx_cd kX11_commonDivisor 7 = kX11_commonDivisor_7 := rfl
theorem kX11_commonDivisor_c34 : sx_cd kX11_commonDivisor 34 = kX11_commonDivisor_34 := rfl
theorem kX11_commonDivisor_ok : sx_okM 11 (sx_M 154) kX11_commonDivisor = true := by decide +kernel
def kX11_best_0 : List sx_I := [(1, .iload_n 1, []), (3, .invokestatic 331, [4, 172, 1]), (3, .ifCond .eq 22, [26]), (1, .iload_n 2, []), (3, .invokestatic 331, [4, 172, 1]), (3, .ifCond .eq 15, [26]), (1, .iload_n 1, []), (1, .iload_n 2, []), (3, .if_icmp .gt 10, [26]), (1, .iload_n 3, []), (3, .invokestatic 334, [4, 173, 1]), (3, .ifCond .ne 5, [28]), (0, .nop, [26])]
def kX11_best_26 : List sx_I := [(1, .iconst (-1), []), (1, .ireturn, [0])]
def kX11_best_28 : List sx_I := [(1, .iload_n 1, []), (2, .istore 4, []), (1, .iload_n 1, []), (1, .iconst 1, []), (1, .iadd, []), (2, .istore 5, []), (0, .nop, [36])]
def kX11_best_36 : List sx_I := [(2, .iload 5, []), (1, .iload_n 2, []), (3, .if_icmp .gt 42, [81]), (1, .aload_n 0, []), (3, .getfield 22, [11, 2, 2]), (3, .getfield 337, [5, 12, 2]), (2, .iload 5, []), (1, .iload_n 3, []), (3, .invokevirtual 341, [0, 10, 3, 1]), (1, .aload_n 0, []), (3, .getfield 22, [11, 2, 2]), (3, .getfield 337, [5, 12, 2]), (2, .iload 4, []), (1, .iload_n 3, []), (3, .invokevirtual 341, [0, 10, 3, 1]), (3, .if_icmp .le 7, [75]), (2, .iload 5, []), (2, .istore 4, []), (0, .nop, [75])]
def kX11_best_75 : List sx_I := [(3, .iinc 5 1, []), (3, .goto (-42), [36])]
def kX11_best_81 : List sx_I := [(2, .iload 4, []), (1, .ireturn, [0])]
def kX11_best : List (Nat × List sx_I) := [(0, kX11_best_0), (26, kX11_best_26), (28, kX11_best_28), (36, kX11_best_36), (75, kX11_best_75), (81, kX11_best_81)]
theorem kX11_best_c0 : sx_cd kX11_best 0 = kX11_best_0 := rfl
theorem kX11_best_c26 : sx_cd kX11_best 26 = kX11_best_26 := rfl
theorem kX11_best_c28 : sx_cd kX11_best 28 = kX11_best_28 := rfl
theorem kX11_best_c36 : sx_cd kX11_best 36 = kX11_best_36 := rfl
theorem kX11_best_c75 : sx_cd kX11_best 75 = kX11_best_75 := rfl
theorem kX11_best_c81 : sx_cd kX11_best 81 = kX11_best_81 := rfl
theorem kX11_best_ok : sx_okM 11 (sx_M 155) kX11_best = true := by decide +kernel
def kX11_rests_0 : List sx_I := [(1, .iload_n 1, []), (1, .iload_n 2, []), (3, .invokestatic 352, [4, 174, 2]), (3, .ifCond .ne 5, [10]), (1, .iconst (-1), []), (1, .ireturn, [0])]
def kX11_rests_10 : List sx_I := [(1, .iconst 0, []), (1, .istore_n 3, []), (1, .iload_n 1, []), (2, .istore 4, []), (0, .nop, [15])]
def kX11_rests_15 : List sx_I := [(2, .iload 4, []), (1, .iload_n 1, []), (1, .iload_n 2, []), (1, .iadd, []), (3, .if_icmp .ge 48, [68]), (1, .iload_n 1, []), (2, .istore 5, []), (0, .nop, [26])]
def kX11_rests_26 : List sx_I := [(2, .iload 5, []), (1, .iload_n 1, []), (1, .iload_n 2, []), (1, .iadd, []), (3, .if_icmp .ge 31, [62]), (1, .aload_n 0, []), (3, .getfield 22, [11, 2, 2]), (3, .getfield 337, [5, 12, 2]), (2, .iload 4, []), (2, .iload 5, []), (1, .iload_n 1, []), (1, .iload_n 2, []), (3, .invokevirtual 355, [0, 12, 5, 1]), (3, .ifCond .eq 6, [56]), (3, .iinc 3 1, []), (0, .nop, [56])]
def kX11_rests_56 : List sx_I := [(3, .iinc 5 1, []), (3, .goto (-33), [26])]
def kX11_rests_62 : List sx_I := [(3, .iinc 4 1, []), (3, .goto (-50), [15])]
def kX11_rests_68 : List sx_I := [(1, .iload_n 3, []), (1, .ireturn, [0])]
def kX11_rests : List (Nat × List sx_I) := [(0, kX11_rests_0), (10, kX11_rests_10), (15, kX11_rests_15), (26, kX11_rests_26), (56, kX11_rests_56), (62, kX11_rests_62), (68, kX11_rests_68)]
theorem kX11_rests_c0 : sx_cd kX11_rests 0 = kX11_rests_0 := rfl
theorem kX11_rests_c10 : sx_cd kX11_rests 10 = kX11_rests_10 := rfl
theorem kX11_rests_c15 : sx_cd kX11_rests 15 = kX11_rests_15 := rfl
theorem kX11_rests_c26 : sx_cd kX11_rests 26 = kX11_rests_26 := rfl
theorem kX11_rests_c56 : sx_cd kX11_rests 56 = kX11_rests_56 := rfl
theorem kX11_rests_c62 : sx_cd kX11_rests 62 = kX11_rests_62 := rfl
theorem kX11_rests_c68 : sx_cd kX11_rests 68 = kX11_rests_68 := rfl
theorem kX11_rests_ok : sx_okM 11 (sx_M 156) kX11_rests = true := by decide +kernel
def kX11_rest_0 : List sx_I := [(1, .iload_n 1, []), (1, .iload_n 2, []), (3, .invokestatic 352, [4, 174, 2]), (3, .ifCond .eq 7, [12]), (1, .iload_n 3, []), (3, .ifCond .ge 5, [14]), (0, .nop, [12])]
def kX11_rest_12 : List sx_I := [(1, .iconst (-1), []), (1, .ireturn, [0])]
def kX11_rest_14 : List sx_I := [(1, .iload_n 3, []), (2, .istore 4, []), (1, .iload_n 1, []), (2, .istore 5, []), (0, .nop, [20])]
def kX11_rest_20 : List sx_I := [(2, .iload 5, []), (1, .iload_n 1, []), (1, .iload_n 2, []), (1, .iadd, []), (3, .if_icmp .ge 62, [87]), (1, .iload_n 1, []), (2, .istore 6, []), (0, .nop, [31])]
def kX11_rest_31 : List sx_I := [(2, .iload 6, []), (1, .iload_n 1, []), (1, .iload_n 2, []), (1, .iadd, []), (3, .if_icmp .ge 45, [81]), (1, .aload_n 0, []), (3, .getfield 22, [11, 2, 2]), (3, .getfield 337, [5, 12, 2]), (2, .iload 5, []), (2, .iload 6, []), (1, .iload_n 1, []), (1, .iload_n 2, []), (3, .invokevirtual 355, [0, 12, 5, 1]), (3, .ifCond .eq 20, [75]), (2, .iload 4, []), (3, .ifCond .ne 12, [72]), (2, .bipush 100, []), (2, .iload 5, []), (1, .imul, []), (2, .iload 6, []), (1, .iadd, []), (1, .ireturn, [0])]
def kX11_rest_72 : List sx_I := [(3, .iinc 4 (-1), []), (0, .nop, [75])]
def kX11_rest_75 : List sx_I := [(3, .iinc 6 1, []), (3, .goto (-47), [31])]
def kX11_rest_81 : List sx_I := [(3, .iinc 5 1, []), (3, .goto (-64), [20])]
def kX11_rest_87 : List sx_I := [(2, .bipush (-2), []), (1, .ireturn, [0])]
def kX11_rest : List (Nat × List sx_I) := [(0, kX11_rest_0), (12, kX11_rest_12), (14, kX11_rest_14), (20, kX11_rest_20), (31, kX11_rest_31), (72, kX11_rest_72), (75, kX11_rest_75), (81, kX11_rest_81), (87, kX11_rest_87)]
theorem kX11_rest_c0 : sx_cd kX11_rest 0 = kX11_rest_0 := rfl
theorem kX11_rest_c12 : sx_cd kX11_rest 12 = kX11_rest_12 := rfl
theorem kX11_rest_c14 : sx_cd kX11_rest 14 = kX11_rest_14 := rfl
theorem kX11_rest_c20 : sx_cd kX11_rest 20 = kX11_rest_20 := rfl
theorem kX11_rest_c31 : sx_cd kX11_rest 31 = kX11_rest_31 := rfl
theorem kX11_rest_c72 : sx_cd kX11_rest 72 = kX11_rest_72 := rfl
theorem kX11_rest_c75 : sx_cd kX11_rest 75 = kX11_rest_75 := rfl
theorem kX11_rest_c81 : sx_cd kX11_rest 81 = kX11_rest_81 := rfl
theorem kX11_rest_c87 : sx_cd kX11_rest 87 = kX11_rest_87 := rfl
theorem kX11_rest_ok : sx_okM 11 (sx_M 157) kX11_rest = true := by decide +kernel
def kX11_sees_0 : List sx_I := [(1, .aload_n 0, []), (3, .getfield 22, [11, 2, 2]), (1, .iload_n 1, []), (3, .invokevirtual 163, [0, 46, 2, 5]), (3, .ifCond .eq 16, [24]), (1, .aload_n 0, []), (3, .getfield 22, [11, 2, 2]), (3, .getfield 169, [5, 2, 2]), (1, .iload_n 1, []), (1, .iaload, []), (1, .iconst 1, []), (3, .if_icmp .ne 7, [28]), (0, .nop, [24])]
def kX11_sees_24 : List sx_I := [(3, .ldc2_w 359, [1, 1]), (1, .lreturn, [])]
def kX11_sees_28 : List sx_I := [(1, .aload_n 0, []), (3, .getfield 88, [11, 13, 2]), (1, .aload_n 0, []), (3, .getfield 22, [11, 2, 2]), (1, .iload_n 1, []), (3, .invokevirtual 361, [0, 70, 3, 8]), (1, .lreturn, [])]
def kX11_sees : List (Nat × List sx_I) := [(0, kX11_sees_0), (24, kX11_sees_24), (28, kX11_sees_28)]
theorem kX11_sees_c0 : sx_cd kX11_sees 0 = kX11_sees_0 := rfl
theorem kX11_sees_c24 : sx_cd kX11_sees 24 = kX11_sees_24 := rfl
theorem kX11_sees_c28 : sx_cd kX11_sees 28 = kX11_sees_28 := rfl
theorem kX11_sees_ok : sx_okM 11 (sx_M 158) kX11_sees = true := by decide +kernel
def kX11_umpires_0 : List sx_I := [(1, .aload_n 0, []), (3, .getfield 88, [11, 13, 2]), (1, .aload_n 0, []), (3, .getfield 22, [11, 2, 2]), (1, .lload_n 1, []), (3, .invokevirtual 365, [0, 71, 3, 8]), (3, .ifCond .ne 5, [17]), (1, .iconst (-1), []), (1, .ireturn, [0])]
def kX11_umpires_17 : List sx_I := [(1, .aload_n 0, []), (3, .getfield 88, [11, 13, 2]), (1, .aload_n 0, []), (3, .getfield 22, [11, 2, 2]), (1, .lload_n 1, []), (3, .invokevirtual 369, [0, 72, 3, 8]), (1, .ireturn, [0])]
def kX11_umpires : List (Nat × List sx_I) := [(0, kX11_umpires_0), (17, kX11_umpires_17)]
theorem kX11_umpires_c0 : sx_cd kX11_umpires 0 = kX11_umpires_0 := rfl
theorem kX11_umpires_c17 : sx_cd kX11_umpires 17 = kX11_umpires_17 := rfl
theorem kX11_umpires_ok : sx_okM 11 (sx_M 159) kX11_umpires = true := by decide +kernel
def kX11_umpire_0 : List sx_I := [(1, .aload_n 0, []), (3, .getfield 88, [11, 13, 2]), (1, .aload_n 0, []), (3, .getfield 22, [11, 2, 2]), (1, .lload_n 1, []), (3, .invokevirtual 365, [0, 71, 3, 8]), (3, .ifCond .eq 7, [19]), (1, .iload_n 3, []), (3, .ifCond .ge 5, [21]), (0, .nop, [19])]
def kX11_umpire_19 : List sx_I := [(1, .iconst (-1), []), (1, .ireturn, [0])]
def kX11_umpire_21 : List sx_I := [(1, .aload_n 0, []), (3, .getfield 88, [11, 13, 2]), (1, .aload_n 0, []), (3, .getfield 22, [11, 2, 2]), (1, .lload_n 1, []), (3, .invokevirtual 369, [0, 72, 3, 8]), (2, .istore 4, []), (1, .iload_n 3, []), (2, .iload 4, []), (3, .if_icmp .ge 20, [58]), (1, .iload_n 3, []), (1, .iconst 3, []), (3, .if_icmp .ge 15, [58]), (1, .aload_n 0, []), (3, .getfield 88, [11, 13, 2]), (3, .getfield 373, [8, 0, 2]), (1, .iload_n 3, []), (1, .iaload, []), (3, .goto 5, [60])]
def kX11_umpire_58 : List sx_I := [(2, .bipush (-2), []), (0, .nop, [60])]
def kX11_umpire_60 : List sx_I := [(1, .ireturn, [0])]
def kX11_umpire : List (Nat × List sx_I) := [(0, kX11_umpire_0), (19, kX11_umpire_19), (21, kX11_umpire_21), (58, kX11_umpire_58), (60, kX11_umpire_60)]
theorem kX11_umpire_c0 : sx_cd kX11_umpire 0 = kX11_umpire_0 := rfl
theorem kX11_umpire_c19 : sx_cd kX11_umpire 19 = kX11_umpire_19 := rfl
theorem kX11_umpire_c21 : sx_cd kX11_umpire 21 = kX11_umpire_21 := rfl
theorem kX11_umpire_c58 : sx_cd kX11_umpire 58 = kX11_umpire_58 := rfl
theorem kX11_umpire_c60 : sx_cd kX11_umpire 60 = kX11_umpire_60 := rfl
theorem kX11_umpire_ok : sx_okM 11 (sx_M 160) kX11_umpire = true := by decide +kernel
def kX11_below_0 : List sx_I := [(1, .iload_n 1, []), (3, .ifCond .lt 10, [11]), (1, .iload_n 1, []), (3, .sipush 999, []), (3, .if_icmp .le 5, [13]), (0, .nop, [11])]
def kX11_below_11 : List sx_I := [(1, .iconst (-1), []), (1, .ireturn, [0])]
def kX11_below_13 : List sx_I := [(1, .aload_n 0, []), (3, .getfield 57, [11, 8, 2]), (1, .aload_n 0, []), (3, .getfield 50, [11, 6, 2]), (3, .invokevirtual 376, [0, 78, 2, 9]), (1, .aload_n 0, []), (3, .getfield 57, [11, 8, 2]), (1, .iload_n 1, []), (3, .invokevirtual 276, [0, 88, 2, 9]), (1, .pop, []), (1, .aload_n 0, []), (3, .getfield 57, [11, 8, 2]), (3, .invokevirtual 247, [0, 92, 1, 9]), (1, .ireturn, [0])]
def kX11_below : List (Nat × List sx_I) := [(0, kX11_below_0), (11, kX11_below_11), (13, kX11_below_13)]
theorem kX11_below_c0 : sx_cd kX11_below 0 = kX11_below_0 := rfl
theorem kX11_below_c11 : sx_cd kX11_below 11 = kX11_below_11 := rfl
theorem kX11_below_c13 : sx_cd kX11_below 13 = kX11_below_13 := rfl
theorem kX11_below_ok : sx_okM 11 (sx_M 161) kX11_below = true := by decide +kernel
def kX11_layers_0 : List sx_I := [(1, .iconst 0, []), (1, .istore_n 1, []), (1, .aload_n 0, []), (3, .getfield 50, [11, 6, 2]), (3, .getfield 172, [9, 5, 2]), (1, .iconst (-1), []), (3, .invokevirtual 380, [0, 41, 2, 4]), (1, .istore_n 2, []), (1, .iconst 0, []), (1, .istore_n 3, []), (0, .nop, [16])]
def kX11_layers_16 : List sx_I := [(1, .iload_n 3, []), (2, .bipush 90, []), (3, .if_icmp .ge 29, [48]), (1, .iload_n 2, []), (1, .iconst (-1), []), (3, .if_icmp .eq 24, [48]), (3, .iinc 1 1, []), (1, .aload_n 0, []), (3, .getfield 50, [11, 6, 2]), (3, .getfield 172, [9, 5, 2]), (1, .iload_n 2, []), (3, .invokevirtual 380, [0, 41, 2, 4]), (1, .istore_n 2, []), (3, .iinc 3 1, []), (3, .goto (-29), [16])]
def kX11_layers_48 : List sx_I := [(1, .iload_n 1, []), (1, .ireturn, [0])]
def kX11_layers : List (Nat × List sx_I) := [(0, kX11_layers_0), (16, kX11_layers_16), (48, kX11_layers_48)]
theorem kX11_layers_c0 : sx_cd kX11_layers 0 = kX11_layers_0 := rfl
theorem kX11_layers_c16 : sx_cd kX11_layers 16 = kX11_layers_16 := rfl
theorem kX11_layers_c48 : sx_cd kX11_layers 48 = kX11_layers_48 := rfl
theorem kX11_layers_ok : sx_okM 11 (sx_M 162) kX11_layers = true := by decide +kernel
def kX11_layer_0 : List sx_I := [(1, .iload_n 1, []), (3, .ifCond .ge 5, [6]), (1, .iconst (-1), []), (1, .ireturn, [0])]
def kX11_layer_6 : List sx_I := [(1, .aload_n 0, []), (3, .getfield 50, [11, 6, 2]), (3, .getfield 172, [9, 5, 2]), (1, .iconst (-1), []), (3, .invokevirtual 380, [0, 41, 2, 4]), (1, .istore_n 2, []), (1, .iconst 0, []), (1, .istore_n 3, []), (0, .nop, [20])]
def kX11_layer_20 : List sx_I := [(1, .iload_n 3, []), (1, .iload_n 1, []), (3, .if_icmp .ge 26, [48]), (1, .iload_n 2, []), (1, .iconst (-1), []), (3, .if_icmp .eq 21, [48]), (1, .aload_n 0, []), (3, .getfield 50, [11, 6, 2]), (3, .getfield 172, [9, 5, 2]), (1, .iload_n 2, []), (3, .invokevirtual 380, [0, 41, 2, 4]), (1, .istore_n 2, []), (3, .iinc 3 1, []), (3, .goto (-25), [20])]
def kX11_layer_48 : List sx_I := [(1, .iload_n 2, []), (1, .iconst (-1), []), (3, .if_icmp .ne 8, [58]), (2, .bipush (-2), []), (3, .goto 4, [59])]
def kX11_layer_58 : List sx_I := [(1, .iload_n 2, []), (0, .nop, [59])]
def kX11_layer_59 : List sx_I := [(1, .ireturn, [0])]
def kX11_layer : List (Nat × List sx_I) := [(0, kX11_layer_0), (6, kX11_layer_6), (20, kX11_layer_20), (48, kX11_layer_48), (58, kX11_layer_58), (59, kX11_layer_59)]
theorem kX11_layer_c0 : sx_cd kX11_layer 0 = kX11_layer_0 := rfl
theorem kX11_layer_c6 : sx_cd kX11_layer 6 = kX11_layer_6 := rfl
theorem kX11_layer_c20 : sx_cd kX11_layer 20 = kX11_layer_20 := rfl
theorem kX11_layer_c48 : sx_cd kX11_layer 48 = kX11_layer_48 := rfl
theorem kX11_layer_c58 : sx_cd kX11_layer 58 = kX11_layer_58 := rfl
theorem kX11_layer_c59 : sx_cd kX11_layer 59 = kX11_layer_59 := rfl
theorem kX11_layer_ok : sx_okM 11 (sx_M 163) kX11_layer = true := by decide +kernel
def kX11_chance_0 : List sx_I := [(1, .iload_n 1, []), (3, .ifCond .lt 38, [39]), (1, .iload_n 2, []), (1, .iconst 1, []), (3, .if_icmp .lt 33, [39]), (1, .iload_n 2, []), (2, .bipush 9, []), (3, .if_icmp .gt 27, [39]), (1, .aload_n 0, []), (3, .getfield 22, [11, 2, 2]), (1, .iload_n 3, []), (3, .invokevirtual 288, [0, 47, 2, 5]), (3, .ifCond .eq 16, [39]), (2, .iload 4, []), (3, .ifCond .lt 11, [39]), (2, .iload 4, []), (3, .sipush 9999, []), (3, .if_icmp .le 5, [41]), (0, .nop, [39])]
def kX11_chance_39 : List sx_I := [(1, .iconst (-1), []), (1, .ireturn, [0])]
def kX11_chance_41 : List sx_I := [(1, .aload_n 0, []), (3, .getfield 50, [11, 6, 2]), (1, .iload_n 2, []), (3, .invokevirtual 261, [0, 85, 2, 9]), (3, .ifCond .ne 5, [54]), (1, .iconst (-1), []), (1, .ireturn, [0])]
def kX11_chance_54 : List sx_I := [(1, .iconst 0, []), (2, .istore 5, []), (1, .iload_n 1, []), (1, .i2l, []), (2, .lstore 6, []), (1, .iconst 0, []), (2, .istore 8, []), (0, .nop, [64])]
def kX11_chance_64 : List sx_I := [(2, .iload 8, []), (2, .bipush 10, []), (3, .if_icmp .ge 77, [145]), (1, .aload_n 0, []), (3, .getfield 57, [11, 8, 2]), (1, .aload_n 0, []), (3, .getfield 50, [11, 6, 2]), (3, .invokevirtual 376, [0, 78, 2, 9]), (1, .aload_n 0, []), (3, .getfield 57, [11, 8, 2]), (2, .lload 6, []), (3, .putfield 383, [9, 10, 1]), (1, .iconst 0, []), (2, .istore 9, []), (0, .nop, [94])]
def kX11_chance_94 : List sx_I := [(2, .iload 9, []), (1, .iload_n 2, []), (3, .if_icmp .ge 17, [114]), (1, .aload_n 0, []), (3, .getfield 57, [11, 8, 2]), (3, .invokevirtual 279, [0, 90, 1, 9]), (1, .pop, []), (3, .iinc 9 1, []), (3, .goto (-17), [94])]
def kX11_chance_114 : List sx_I := [(1, .aload_n 0, []), (3, .getfield 57, [11, 8, 2]), (3, .getfield 383, [9, 10, 1]), (2, .lstore 6, []), (1, .aload_n 0, []), (3, .getfield 57, [11, 8, 2]), (1, .iload_n 3, []), (3, .invokevirtual 291, [0, 93, 2, 9]), (2, .iload 4, []), (3, .if_icmp .lt 6, [139]), (3, .iinc 5 1, []), (0, .nop, [139])]
def kX11_chance_139 : List sx_I := [(3, .iinc 8 1, []), (3, .goto (-78), [64])]
def kX11_chance_145 : List sx_I := [(2, .iload 5, []), (1, .ireturn, [0])]
def kX11_chance : List (Nat × List sx_I) := [(0, kX11_chance_0), (39, kX11_chance_39), (41, kX11_chance_41), (54, kX11_chance_54), (64, kX11_chance_64), (94, kX11_chance_94), (114, kX11_chance_114), (139, kX11_chance_139), (145, kX11_chance_145)]
theorem kX11_chance_c0 : sx_cd kX11_chance 0 = kX11_chance_0 := rfl
theorem kX11_chance_c39 : sx_cd kX11_chance 39 = kX11_chance_39 := rfl
theorem kX11_chance_c41 : sx_cd kX11_chance 41 = kX11_chance_41 := rfl
theorem kX11_chance_c54 : sx_cd kX11_chance 54 = kX11_chance_54 := rfl
theorem kX11_chance_c64 : sx_cd kX11_chance 64 = kX11_chance_64 := rfl
theorem kX11_chance_c94 : sx_cd kX11_chance 94 = kX11_chance_94 := rfl
theorem kX11_chance_c114 : sx_cd kX11_chance 114 = kX11_chance_114 := rfl
theorem kX11_chance_c139 : sx_cd kX11_chance 139 = kX11_chance_139 := rfl
theorem kX11_chance_c145 : sx_cd kX11_chance 145 = kX11_chance_145 := rfl
theorem kX11_chance_ok : sx_okM 11 (sx_M 164) kX11_chance = true := by decide +kernel
def kX11_tried_0 : List sx_I := [(1, .aload_n 0, []), (3, .getfield 22, [11, 2, 2]), (1, .iload_n 1, []), (3, .invokevirtual 288, [0, 47, 2, 5]), (3, .ifCond .eq 12, [20]), (1, .aload_n 0, []), (1, .iload_n 2, []), (1, .iload_n 3, []), (3, .invokevirtual 387, [0, 166, 3, 11]), (3, .ifCond .ne 5, [22]), (0, .nop, [20])]
def kX11_tried_20 : List sx_I := [(1, .iconst (-1), []), (1, .ireturn, [0])]
def kX11_tried_22 : List sx_I := [(1, .aload_n 0, []), (3, .getfield 57, [11, 8, 2]), (1, .aload_n 0, []), (3, .getfield 50, [11, 6, 2]), (3, .invokevirtual 376, [0, 78, 2, 9]), (1, .aload_n 0, []), (3, .getfield 57, [11, 8, 2]), (3, .getfield 172, [9, 5, 2]), (2, .astore 4, []), (1, .iload_n 2, []), (29, .tableswitch 82 0 3 #[29, 41, 50, 62], [125, 72, 84, 93, 105])]
def kX11_tried_72 : List sx_I := [(2, .aload 4, []), (3, .getfield 202, [4, 6, 2]), (1, .iconst 0, []), (3, .invokestatic 390, [4, 308, 2]), (3, .goto 53, [134])]
def kX11_tried_84 : List sx_I := [(2, .aload 4, []), (1, .iload_n 3, []), (3, .invokevirtual 396, [0, 42, 2, 4]), (3, .goto 44, [134])]
def kX11_tried_93 : List sx_I := [(2, .aload 4, []), (3, .getfield 208, [4, 8, 2]), (1, .iconst 0, []), (3, .invokestatic 390, [4, 308, 2]), (3, .goto 32, [134])]
def kX11_tried_105 : List sx_I := [(2, .aload 4, []), (3, .getfield 205, [4, 7, 2]), (1, .iconst 0, []), (2, .aload 4, []), (3, .getfield 187, [4, 1, 2]), (1, .iconst 0, []), (2, .bipush 90, []), (3, .invokestatic 399, [2]), (3, .goto 12, [134])]
def kX11_tried_125 : List sx_I := [(1, .aload_n 0, []), (3, .getfield 57, [11, 8, 2]), (1, .iload_n 3, []), (3, .invokevirtual 276, [0, 88, 2, 9]), (1, .pop, []), (0, .nop, [134])]
def kX11_tried_134 : List sx_I := [(1, .aload_n 0, []), (3, .getfield 57, [11, 8, 2]), (1, .iload_n 1, []), (3, .invokevirtual 291, [0, 93, 2, 9]), (1, .ireturn, [0])]
def kX11_tried : List (Nat × List sx_I) := [(0, kX11_tried_0), (20, kX11_tried_20), (22, kX11_tried_22), (72, kX11_tried_72), (84, kX11_tried_84), (93, kX11_tried_93), (105, kX11_tried_105), (125, kX11_tried_125), (134, kX11_tried_134)]
theorem kX11_tried_c0 : sx_cd kX11_tried 0 = kX11_tried_0 := rfl
theorem kX11_tried_c20 : sx_cd kX11_tried 20 = kX11_tried_20 := rfl
theorem kX11_tried_c22 : sx_cd kX11_tried 22 = kX11_tried_22 := rfl
theorem kX11_tried_c72 : sx_cd kX11_tried 72 = kX11_tried_72 := rfl
theorem kX11_tried_c84 : sx_cd kX11_tried 84 = kX11_tried_84 := rfl
theorem kX11_tried_c93 : sx_cd kX11_tried 93 = kX11_tried_93 := rfl
theorem kX11_tried_c105 : sx_cd kX11_tried 105 = kX11_tried_105 := rfl
theorem kX11_tried_c125 : sx_cd kX11_tried 125 = kX11_tried_125 := rfl
theorem kX11_tried_c134 : sx_cd kX11_tried 134 = kX11_tried_134 := rfl
theorem kX11_tried_ok : sx_okM 11 (sx_M 165) kX11_tried = true := by decide +kernel
def kX11_canTry_0 : List sx_I := [(1, .iload_n 1, []), (35, .tableswitch 70 0 4 #[35, 45, 35, 35, 54], [71, 36, 46, 36, 36, 55])]
def kX11_canTry_36 : List sx_I := [(1, .iload_n 2, []), (3, .ifCond .ne 7, [44]), (1, .iconst 1, []), (3, .goto 4, [45])]
def kX11_canTry_44 : List sx_I := [(1, .iconst 0, []), (0, .nop, [45])]
def kX11_canTry_45 : List sx_I := [(1, .ireturn, [1])]
def kX11_canTry_46 : List sx_I := [(1, .aload_n 0, []), (3, .getfield 22, [11, 2, 2]), (1, .iload_n 2, []), (3, .invokevirtual 131, [0, 48, 2, 5]), (1, .ireturn, [1])]
def kX11_canTry_55 : List sx_I := [(1, .iload_n 2, []), (3, .ifCond .lt 13, [69]), (1, .iload_n 2, []), (2, .bipush 99, []), (3, .if_icmp .gt 7, [69]), (1, .iconst 1, []), (3, .goto 4, [70])]
def kX11_canTry_69 : List sx_I := [(1, .iconst 0, []), (0, .nop, [70])]
def kX11_canTry_70 : List sx_I := [(1, .ireturn, [1])]
def kX11_canTry_71 : List sx_I := [(1, .iconst 0, []), (1, .ireturn, [1])]
def kX11_canTry : List (Nat × List sx_I) := [(0, kX11_canTry_0), (36, kX11_canTry_36), (44, kX11_canTry_44), (45, kX11_canTry_45), (46, kX11_canTry_46), (55, kX11_canTry_55), (69, kX11_canTry_69), (70, kX11_canTry_70), (71, kX11_canTry_71)]
theorem kX11_canTry_c0 : sx_cd kX11_canTry 0 = kX11_canTry_0 := rfl
theorem kX11_canTry_c36 : sx_cd kX11_canTry 36 = kX11_canTry_36 := rfl
theorem kX11_canTry_c44 : sx_cd kX11_canTry 44 = kX11_canTry_44 := rfl
theorem kX11_canTry_c45 : sx_cd kX11_canTry 45 = kX11_canTry_45 := rfl
theorem kX11_canTry_c46 : sx_cd kX11_canTry 46 = kX11_canTry_46 := rfl
theorem kX11_canTry_c55 : sx_cd kX11_canTry 55 = kX11_canTry_55 := rfl
theorem kX11_canTry_c69 : sx_cd kX11_canTry 69 = kX11_canTry_69 := rfl
theorem kX11_canTry_c70 : sx_cd kX11_canTry 70 = kX11_canTry_70 := rfl
theorem kX11_canTry_c71 : sx_cd kX11_canTry 71 = kX11_canTry_71 := rfl
theorem kX11_canTry_ok : sx_okM 11 (sx_M 166) kX11_canTry = true := by decide +kernel
def kX11_undo_0 : List sx_I := [(1, .aload_n 0, []), (3, .getfield 67, [11, 10, 2]), (3, .getfield 112, [3, 0, 0]), (3, .ifCond .ne 5, [12]), (1, .iconst (-1), []), (1, .ireturn, [0])]
def kX11_undo_12 : List sx_I := [(1, .aload_n 0, []), (3, .getfield 67, [11, 10, 2]), (1, .aload_n 0, []), (3, .getfield 50, [11, 6, 2]), (3, .invokevirtual 405, [0, 30, 2, 3]), (1, .aload_n 0, []), (3, .getfield 67, [11, 10, 2]), (3, .getfield 112, [3, 0, 0]), (1, .ireturn, [0])]
def kX11_undo : List (Nat × List sx_I) := [(0, kX11_undo_0), (12, kX11_undo_12)]
theorem kX11_undo_c0 : sx_cd kX11_undo 0 = kX11_undo_0 := rfl
theorem kX11_undo_c12 : sx_cd kX11_undo 12 = kX11_undo_12 := rfl
theorem kX11_undo_ok : sx_okM 11 (sx_M 167) kX11_undo = true := by decide +kernel
def kX11_keep_0 : List sx_I := [(1, .aload_n 0, []), (3, .getfield 54, [11, 7, 2]), (1, .aload_n 0, []), (3, .getfield 50, [11, 6, 2]), (3, .invokevirtual 376, [0, 78, 2, 9]), (1, .aload_n 0, []), (1, .iconst 1, []), (3, .putfield 60, [11, 9, 3]), (1, .aload_n 0, []), (3, .getfield 50, [11, 6, 2]), (3, .getfield 267, [9, 7, 0]), (1, .ireturn, [0])]
def kX11_keep : List (Nat × List sx_I) := [(0, kX11_keep_0)]
theorem kX11_keep_c0 : sx_cd kX11_keep 0 = kX11_keep_0 := rfl
theorem kX11_keep_ok : sx_okM 11 (sx_M 168) kX11_keep = true := by decide +kernel
def kX11_back_0 : List sx_I := [(1, .aload_n 0, []), (3, .getfield 60, [11, 9, 3]), (3, .ifCond .ne 5, [9]), (1, .iconst (-1), []), (1, .ireturn, [0])]
def kX11_back_9 : List sx_I := [(1, .aload_n 0, []), (3, .getfield 50, [11, 6, 2]), (1, .aload_n 0, []), (3, .getfield 54, [11, 7, 2]), (3, .invokevirtual 376, [0, 78, 2, 9]), (1, .aload_n 0, []), (3, .getfield 67, [11, 10, 2]), (1, .iconst 0, []), (3, .putfield 112, [3, 0, 0]), (1, .aload_n 0, []), (3, .getfield 50, [11, 6, 2]), (3, .getfield 267, [9, 7, 0]), (1, .ireturn, [0])]
def kX11_back : List (Nat × List sx_I) := [(0, kX11_back_0), (9, kX11_back_9)]
theorem kX11_back_c0 : sx_cd kX11_back 0 = kX11_back_0 := rfl
theorem kX11_back_c9 : sx_cd kX11_back 9 = kX11_back_9 := rfl
theorem kX11_back_ok : sx_okM 11 (sx_M 169) kX11_back = true := by decide +kernel
def kX11_count_0 : List sx_I := [(1, .iload_n 1, []), (71, .tableswitch 189 0 13 #[71, 79, 87, 95, 103, 111, 119, 127, 138, 149, 157, 165, 173, 181], [190, 72, 80, 88, 96, 104, 112, 120, 128, 139, 150, 158, 166, 174, 182])]
def kX11_count_72 : List sx_I := [(1, .aload_n 0, []), (3, .getfield 22, [11, 2, 2]), (3, .getfield 408, [5, 0, 0]), (1, .ireturn, [0])]
def kX11_count_80 : List sx_I := [(1, .aload_n 0, []), (3, .getfield 22, [11, 2, 2]), (3, .getfield 411, [5, 1, 0]), (1, .ireturn, [0])]
def kX11_count_88 : List sx_I := [(1, .aload_n 0, []), (3, .getfield 22, [11, 2, 2]), (3, .getfield 297, [5, 4, 0]), (1, .ireturn, [0])]
def kX11_count_96 : List sx_I := [(1, .aload_n 0, []), (3, .getfield 22, [11, 2, 2]), (3, .getfield 414, [5, 6, 0]), (1, .ireturn, [0])]
def kX11_count_104 : List sx_I := [(1, .aload_n 0, []), (3, .getfield 22, [11, 2, 2]), (3, .getfield 417, [5, 14, 0]), (1, .ireturn, [0])]
def kX11_count_112 : List sx_I := [(1, .aload_n 0, []), (3, .getfield 50, [11, 6, 2]), (3, .getfield 267, [9, 7, 0]), (1, .ireturn, [0])]
def kX11_count_120 : List sx_I := [(1, .aload_n 0, []), (3, .getfield 50, [11, 6, 2]), (3, .getfield 273, [9, 8, 0]), (1, .ireturn, [0])]
def kX11_count_128 : List sx_I := [(1, .aload_n 0, []), (3, .getfield 50, [11, 6, 2]), (3, .getfield 172, [9, 5, 2]), (3, .getfield 234, [4, 0, 0]), (1, .ireturn, [0])]
def kX11_count_139 : List sx_I := [(1, .aload_n 0, []), (3, .getfield 50, [11, 6, 2]), (3, .getfield 172, [9, 5, 2]), (3, .invokevirtual 420, [0, 37, 1, 4]), (1, .ireturn, [0])]
def kX11_count_150 : List sx_I := [(1, .aload_n 0, []), (3, .getfield 50, [11, 6, 2]), (3, .invokevirtual 247, [0, 92, 1, 9]), (1, .ireturn, [0])]
def kX11_count_158 : List sx_I := [(1, .aload_n 0, []), (3, .getfield 50, [11, 6, 2]), (3, .getfield 285, [9, 9, 0]), (1, .ireturn, [0])]
def kX11_count_166 : List sx_I := [(1, .aload_n 0, []), (3, .getfield 74, [11, 11, 2]), (3, .getfield 304, [0, 0, 0]), (1, .ireturn, [0])]
def kX11_count_174 : List sx_I := [(1, .aload_n 0, []), (3, .getfield 74, [11, 11, 2]), (3, .invokevirtual 423, [0, 4, 1, 0]), (1, .ireturn, [0])]
def kX11_count_182 : List sx_I := [(1, .aload_n 0, []), (3, .getfield 67, [11, 10, 2]), (3, .getfield 112, [3, 0, 0]), (1, .ireturn, [0])]
def kX11_count_190 : List sx_I := [(1, .iconst (-1), []), (1, .ireturn, [0])]
def kX11_count : List (Nat × List sx_I) := [(0, kX11_count_0), (72, kX11_count_72), (80, kX11_count_80), (88, kX11_count_88), (96, kX11_count_96), (104, kX11_count_104), (112, kX11_count_112), (120, kX11_count_120), (128, kX11_count_128), (139, kX11_count_139), (150, kX11_count_150), (158, kX11_count_158), (166, kX11_count_166), (174, kX11_count_174), (182, kX11_count_182), (190, kX11_count_190)]
theorem kX11_count_c0 : sx_cd kX11_count 0 = kX11_count_0 := rfl
theorem kX11_count_c72 : sx_cd kX11_count 72 = kX11_count_72 := rfl
theorem kX11_count_c80 : sx_cd kX11_count 80 = kX11_count_80 := rfl
theorem kX11_count_c88 : sx_cd kX11_count 88 = kX11_count_88 := rfl
theorem kX11_count_c96 : sx_cd kX11_count 96 = kX11_count_96 := rfl
theorem kX11_count_c104 : sx_cd kX11_count 104 = kX11_count_104 := rfl
theorem kX11_count_c112 : sx_cd kX11_count 112 = kX11_count_112 := rfl
theorem kX11_count_c120 : sx_cd kX11_count 120 = kX11_count_120 := rfl
theorem kX11_count_c128 : sx_cd kX11_count 128 = kX11_count_128 := rfl
theorem kX11_count_c139 : sx_cd kX11_count 139 = kX11_count_139 := rfl
theorem kX11_count_c150 : sx_cd kX11_count 150 = kX11_count_150 := rfl
theorem kX11_count_c158 : sx_cd kX11_count 158 = kX11_count_158 := rfl
theorem kX11_count_c166 : sx_cd kX11_count 166 = kX11_count_166 := rfl
theorem kX11_count_c174 : sx_cd kX11_count 174 = kX11_count_174 := rfl
theorem kX11_count_c182 : sx_cd kX11_count 182 = kX11_count_182 := rfl
theorem kX11_count_c190 : sx_cd kX11_count 190 = kX11_count_190 := rfl
theorem kX11_count_ok : sx_okM 11 (sx_M 170) kX11_count = true := by decide +kernel
def kX11_isWay_0 : List sx_I := [(1, .iload_n 0, []), (3, .ifCond .lt 12, [13]), (1, .iload_n 0, []), (1, .iconst 4, []), (3, .if_icmp .ge 7, [13]), (1, .iconst 1, []), (3, .goto 4, [14])]
def kX11_isWay_13 : List sx_I := [(1, .iconst 0, []), (0, .nop, [14])]
def kX11_isWay_14 : List sx_I := [(1, .ireturn, [1])]
def kX11_isWay : List (Nat × List sx_I) := [(0, kX11_isWay_0), (13, kX11_isWay_13), (14, kX11_isWay_14)]
theorem kX11_isWay_c0 : sx_cd kX11_isWay 0 = kX11_isWay_0 := rfl
theorem kX11_isWay_c13 : sx_cd kX11_isWay 13 = kX11_isWay_13 := rfl
theorem kX11_isWay_c14 : sx_cd kX11_isWay 14 = kX11_isWay_14 := rfl
theorem kX11_isWay_ok : sx_okM 11 (sx_M 171) kX11_isWay = true := by decide +kernel
def kX11_isCastHour_0 : List sx_I := [(1, .iload_n 0, []), (3, .ifCond .lt 13, [14]), (1, .iload_n 0, []), (2, .bipush 24, []), (3, .if_icmp .ge 7, [14]), (1, .iconst 1, []), (3, .goto 4, [15])]
def kX11_isCastHour_14 : List sx_I := [(1, .iconst 0, []), (0, .nop, [15])]
def kX11_isCastHour_15 : List sx_I := [(1, .ireturn, [1])]
def kX11_isCastHour : List (Nat × List sx_I) := [(0, kX11_isCastHour_0), (14, kX11_isCastHour_14), (15, kX11_isCastHour_15)]
theorem kX11_isCastHour_c0 : sx_cd kX11_isCastHour 0 = kX11_isCastHour_0 := rfl
theorem kX11_isCastHour_c14 : sx_cd kX11_isCastHour 14 = kX11_isCastHour_14 := rfl
theorem kX11_isCastHour_c15 : sx_cd kX11_isCastHour 15 = kX11_isCastHour_15 := rfl
theorem kX11_isCastHour_ok : sx_okM 11 (sx_M 172) kX11_isCastHour = true := by decide +kernel
def kX11_isSpan_0 : List sx_I := [(1, .iload_n 0, []), (1, .iconst 1, []), (3, .if_icmp .lt 12, [14]), (1, .iload_n 0, []), (1, .iconst 4, []), (3, .if_icmp .gt 7, [14]), (1, .iconst 1, []), (3, .goto 4, [15])]
def kX11_isSpan_14 : List sx_I := [(1, .iconst 0, []), (0, .nop, [15])]
def kX11_isSpan_15 : List sx_I := [(1, .ireturn, [1])]
def kX11_isSpan : List (Nat × List sx_I) := [(0, kX11_isSpan_0), (14, kX11_isSpan_14), (15, kX11_isSpan_15)]
theorem kX11_isSpan_c0 : sx_cd kX11_isSpan 0 = kX11_isSpan_0 := rfl
theorem kX11_isSpan_c14 : sx_cd kX11_isSpan 14 = kX11_isSpan_14 := rfl
theorem kX11_isSpan_c15 : sx_cd kX11_isSpan 15 = kX11_isSpan_15 := rfl
theorem kX11_isSpan_ok : sx_okM 11 (sx_M 173) kX11_isSpan = true := by decide +kernel
def kX11_isWaiting_0 : List sx_I := [(1, .iload_n 0, []), (3, .invokestatic 331, [4, 172, 1]), (3, .ifCond .eq 26, [30]), (1, .iload_n 1, []), (1, .iconst 1, []), (3, .if_icmp .lt 21, [30]), (1, .iload_n 1, []), (2, .bipush 6, []), (3, .if_icmp .gt 15, [30]), (1, .iload_n 0, []), (1, .iload_n 1, []), (1, .iadd, []), (2, .bipush 24, []), (3, .if_icmp .gt 7, [30]), (1, .iconst 1, []), (3, .goto 4, [31])]
def kX11_isWaiting_30 : List sx_I := [(1, .iconst 0, []), (0, .nop, [31])]
def kX11_isWaiting_31 : List sx_I := [(1, .ireturn, [1])]
def kX11_isWaiting : List (Nat × List sx_I) := [(0, kX11_isWaiting_0), (30, kX11_isWaiting_30), (31, kX11_isWaiting_31)]
theorem kX11_isWaiting_c0 : sx_cd kX11_isWaiting 0 = kX11_isWaiting_0 := rfl
theorem kX11_isWaiting_c30 : sx_cd kX11_isWaiting 30 = kX11_isWaiting_30 := rfl
theorem kX11_isWaiting_c31 : sx_cd kX11_isWaiting 31 = kX11_isWaiting_31 := rfl
theorem kX11_isWaiting_ok : sx_okM 11 (sx_M 174) kX11_isWaiting = true := by decide +kernel
