/-! CONSTRUCTORS: their code (printed by a program), its check, a run of it reckoned by the kernel, and that the run is what the machine does -/
def gI0_0 : List sx_I := [(1, .aload_n 0, []), (3, .invokespecial 3, []), (1, .aload_n 0, []), (1, .iconst 0, []), (3, .putfield 9, [0, 0, 0]), (1, .aload_n 0, []), (1, .iconst (-1), []), (3, .putfield 15, [0, 1, 0]), (1, .aload_n 0, []), (2, .bipush 24, []), (2, .newarray .int, [1]), (3, .putfield 18, [0, 2, 2]), (1, .aload_n 0, []), (2, .bipush 24, []), (2, .newarray .int, [1]), (3, .putfield 22, [0, 3, 2]), (1, .aload_n 0, []), (2, .bipush 24, []), (2, .newarray .int, [1]), (3, .putfield 25, [0, 4, 2]), (1, .aload_n 0, []), (2, .bipush 24, []), (2, .newarray .int, [1]), (3, .putfield 28, [0, 5, 2]), (1, .aload_n 0, []), (2, .bipush 24, []), (2, .newarray .int, [1]), (3, .putfield 31, [0, 6, 2]), (1, .aload_n 0, []), (2, .bipush 24, []), (2, .newarray .int, [1]), (3, .putfield 34, [0, 7, 2])]
def gI0 : List sx_I := gI0_0
def gI8_0 : List sx_I := [(1, .aload_n 0, []), (3, .invokespecial 3, []), (1, .aload_n 0, []), (2, .bipush 24, []), (2, .newarray .int, [1]), (3, .putfield 9, [1, 0, 2])]
def gI8 : List sx_I := gI8_0
def gI13_0 : List sx_I := [(1, .aload_n 0, []), (3, .invokespecial 3, []), (1, .aload_n 0, []), (1, .aload_n 1, []), (3, .putfield 9, [2, 0, 2])]
def gI13 : List sx_I := gI13_0
def gI24_0 : List sx_I := [(1, .aload_n 0, []), (3, .invokespecial 3, []), (1, .aload_n 0, []), (1, .iconst 0, []), (3, .putfield 9, [3, 0, 0]), (1, .aload_n 0, []), (1, .iconst 0, []), (3, .putfield 15, [3, 1, 0]), (1, .aload_n 0, []), (2, .bipush 20, []), (2, .newarray .int, [1]), (3, .putfield 18, [3, 2, 2]), (1, .aload_n 0, []), (2, .bipush 20, []), (2, .newarray .int, [1]), (3, .putfield 22, [3, 3, 2]), (1, .aload_n 0, []), (2, .bipush 20, []), (2, .newarray .int, [1]), (3, .putfield 25, [3, 4, 2]), (1, .aload_n 0, []), (2, .bipush 20, []), (2, .bipush 8, []), (4, .multianewarray 28 2, []), (3, .putfield 30, [3, 5, 2])]
def gI24 : List sx_I := gI24_0
def gI31_0 : List sx_I := [(1, .aload_n 0, []), (3, .invokespecial 3, []), (1, .aload_n 0, []), (1, .iconst 0, []), (3, .putfield 9, [4, 0, 0]), (1, .aload_n 0, []), (2, .bipush 90, []), (2, .newarray .int, [1]), (3, .putfield 15, [4, 1, 2]), (1, .aload_n 0, []), (2, .bipush 90, []), (2, .newarray .int, [1]), (3, .putfield 19, [4, 2, 2]), (1, .aload_n 0, []), (2, .bipush 90, []), (2, .newarray .int, [1]), (3, .putfield 22, [4, 3, 2]), (1, .aload_n 0, []), (2, .bipush 90, []), (2, .newarray .int, [1]), (3, .putfield 25, [4, 4, 2]), (1, .aload_n 0, []), (2, .bipush 90, []), (2, .newarray .int, [1]), (3, .putfield 28, [4, 5, 2]), (1, .aload_n 0, []), (2, .bipush 90, []), (2, .newarray .int, [1]), (3, .putfield 31, [4, 6, 2]), (1, .aload_n 0, []), (2, .bipush 90, []), (2, .newarray .int, [1]), (3, .putfield 34, [4, 7, 2]), (1, .aload_n 0, []), (2, .bipush 90, []), (2, .newarray .int, [1]), (3, .putfield 37, [4, 8, 2])]
def gI31 : List sx_I := gI31_0
def gI43_0 : List sx_I := [(1, .aload_n 0, []), (3, .invokespecial 3, []), (1, .aload_n 0, []), (2, .bipush 48, []), (2, .newarray .int, [1]), (3, .putfield 9, [5, 2, 2]), (1, .aload_n 0, []), (2, .bipush 48, []), (2, .newarray .int, [1]), (3, .putfield 15, [5, 3, 2]), (1, .aload_n 0, []), (1, .iconst 3, []), (2, .newarray .int, [1]), (3, .putfield 18, [5, 5, 2]), (1, .aload_n 0, []), (1, .iconst 5, []), (2, .newarray .int, [1]), (3, .putfield 21, [5, 7, 2]), (1, .aload_n 0, []), (1, .iconst 5, []), (2, .newarray .int, [1]), (3, .putfield 24, [5, 8, 2]), (1, .aload_n 0, []), (1, .iconst 5, []), (2, .newarray .int, [1]), (3, .putfield 27, [5, 9, 2]), (1, .aload_n 0, []), (1, .iconst 5, []), (2, .newarray .int, [1]), (3, .putfield 30, [5, 10, 2]), (1, .aload_n 0, []), (1, .iconst 5, []), (2, .newarray .int, [1]), (3, .putfield 33, [5, 11, 2]), (1, .aload_n 0, []), (3, .new 36, [1]), (1, .dup, []), (3, .invokespecial 38, [8, 0, 1, 1]), (3, .putfield 39, [5, 12, 2]), (1, .aload_n 0, []), (2, .bipush 64, []), (2, .newarray .int, [1]), (3, .putfield 43, [5, 15, 2]), (1, .aload_n 0, []), (2, .bipush 64, []), (2, .newarray .int, [1]), (3, .putfield 46, [5, 16, 2]), (1, .aload_n 0, []), (1, .iconst 3, []), (2, .newarray .int, [1]), (3, .putfield 49, [5, 17, 2]), (1, .aload_n 0, []), (1, .iconst 3, []), (2, .newarray .int, [1]), (3, .putfield 52, [5, 18, 2]), (1, .aload_n 0, []), (3, .invokevirtual 55, [0, 44, 1, 5])]
def gI43 : List sx_I := gI43_0
def gI44_0 : List sx_I := [(1, .aload_n 0, []), (2, .bipush 6, []), (3, .putfield 58, [5, 0, 0]), (1, .aload_n 0, []), (1, .iconst 5, []), (3, .putfield 62, [5, 1, 0]), (1, .aload_n 0, []), (3, .getfield 9, [5, 2, 2]), (1, .iconst 0, []), (3, .invokestatic 65, [4, 308, 2]), (1, .aload_n 0, []), (3, .getfield 15, [5, 3, 2]), (1, .iconst (-1), []), (3, .invokestatic 65, [4, 308, 2]), (1, .aload_n 0, []), (1, .iconst 0, []), (3, .putfield 71, [5, 4, 0]), (1, .aload_n 0, []), (1, .iconst 0, []), (3, .putfield 74, [5, 6, 0]), (1, .aload_n 0, []), (3, .getfield 39, [5, 12, 2]), (3, .getfield 77, [1, 0, 2]), (1, .iconst 0, []), (3, .invokestatic 65, [4, 308, 2]), (1, .aload_n 0, []), (1, .iconst 0, []), (3, .putfield 80, [5, 13, 0]), (1, .aload_n 0, []), (1, .iconst 0, []), (3, .putfield 83, [5, 14, 0]), (1, .aload_n 0, []), (3, .getfield 49, [5, 17, 2]), (1, .iconst 0, []), (3, .invokestatic 65, [4, 308, 2]), (1, .aload_n 0, []), (3, .getfield 52, [5, 18, 2]), (1, .iconst 0, []), (3, .invokestatic 65, [4, 308, 2])]
def gI44 : List sx_I := gI44_0
def gI55_0 : List sx_I := [(1, .aload_n 0, []), (3, .invokespecial 3, []), (1, .aload_n 0, []), (2, .bipush 7, []), (2, .newarray .long, [2]), (3, .putfield 9, [6, 0, 2]), (1, .aload_n 0, []), (2, .bipush 64, []), (2, .newarray .long, [2]), (3, .putfield 15, [6, 1, 2])]
def gI55 : List sx_I := gI55_0
def gI64_0 : List sx_I := [(1, .aload_n 0, []), (3, .invokespecial 3, []), (1, .aload_n 0, []), (2, .bipush 48, []), (2, .newarray .int, [1]), (3, .putfield 9, [7, 2, 2]), (1, .aload_n 0, []), (2, .bipush 48, []), (2, .newarray .int, [1]), (3, .putfield 15, [7, 3, 2]), (1, .aload_n 0, []), (2, .bipush 48, []), (2, .newarray .int, [1]), (3, .putfield 18, [7, 4, 2])]
def gI64 : List sx_I := gI64_0
def gI69_0 : List sx_I := [(1, .aload_n 0, []), (3, .invokespecial 3, []), (1, .aload_n 0, []), (1, .iconst 3, []), (2, .newarray .int, [1]), (3, .putfield 9, [8, 0, 2]), (1, .aload_n 0, []), (2, .bipush 48, []), (2, .newarray .long, [2]), (3, .putfield 15, [8, 1, 2])]
def gI69 : List sx_I := gI69_0
def gI75_0 : List sx_I := [(1, .aload_n 0, []), (3, .invokespecial 3, []), (1, .aload_n 0, []), (1, .iconst 5, []), (2, .newarray .int, [1]), (3, .putfield 9, [9, 2, 2]), (1, .aload_n 0, []), (1, .iconst 5, []), (2, .newarray .int, [1]), (3, .putfield 15, [9, 3, 2]), (1, .aload_n 0, []), (1, .iconst 5, []), (2, .newarray .int, [1]), (3, .putfield 18, [9, 4, 2]), (1, .aload_n 0, []), (3, .new 21, [4]), (1, .dup, []), (3, .invokespecial 23, [31, 0, 1, 8]), (3, .putfield 24, [9, 5, 2]), (1, .aload_n 0, []), (1, .iconst 3, []), (2, .newarray .int, [1]), (3, .putfield 28, [9, 6, 2]), (1, .aload_n 0, []), (1, .iconst 0, []), (3, .putfield 31, [9, 7, 0]), (1, .aload_n 0, []), (1, .iconst 0, []), (3, .putfield 35, [9, 8, 0]), (1, .aload_n 0, []), (1, .iconst 0, []), (3, .putfield 38, [9, 9, 0]), (1, .aload_n 0, []), (1, .lconst 0, []), (3, .putfield 41, [9, 10, 1]), (1, .aload_n 0, []), (2, .bipush 48, []), (2, .newarray .int, [1]), (3, .putfield 45, [9, 11, 2]), (1, .aload_n 0, []), (1, .aload_n 1, []), (3, .putfield 48, [9, 1, 2]), (1, .aload_n 0, []), (1, .aload_n 2, []), (3, .putfield 52, [9, 0, 2])]
def gI75 : List sx_I := gI75_0
def gI98_0 : List sx_I := [(1, .aload_n 0, []), (3, .invokespecial 3, []), (1, .aload_n 0, []), (1, .iconst 0, []), (3, .putfield 9, [10, 0, 0]), (1, .aload_n 0, []), (1, .iconst (-1), []), (3, .putfield 15, [10, 1, 0]), (1, .aload_n 0, []), (1, .iconst 0, []), (3, .putfield 18, [10, 2, 0]), (1, .aload_n 0, []), (3, .new 21, [2]), (1, .dup, []), (1, .iconst 0, []), (2, .newarray .byte, [3]), (3, .invokespecial 23, [13, 1, 0, 0]), (3, .putfield 26, [10, 3, 2]), (1, .aload_n 0, []), (1, .iconst 3, []), (2, .newarray .int, [1]), (3, .putfield 30, [10, 5, 2]), (1, .aload_n 0, []), (2, .bipush 72, []), (2, .newarray .int, [1]), (3, .putfield 34, [10, 10, 2]), (1, .aload_n 0, []), (1, .aload_n 1, []), (3, .putfield 37, [10, 4, 2])]
def gI98 : List sx_I := gI98_0
def gI122_0 : List sx_I := [(1, .aload_n 0, []), (3, .invokespecial 3, []), (1, .aload_n 0, []), (3, .sipush 700, []), (2, .newarray .byte, [3]), (3, .putfield 11, [11, 0, 2]), (1, .aload_n 0, []), (1, .iconst 0, []), (3, .putfield 15, [11, 1, 0]), (1, .aload_n 0, []), (3, .new 19, [5]), (1, .dup, []), (3, .invokespecial 21, [43, 0, 0, 14]), (3, .putfield 22, [11, 2, 2]), (1, .aload_n 0, []), (3, .new 19, [5]), (1, .dup, []), (3, .invokespecial 21, [43, 0, 0, 14]), (3, .putfield 26, [11, 3, 2]), (1, .aload_n 0, []), (3, .new 29, [10]), (1, .dup, []), (1, .aload_n 0, []), (3, .getfield 26, [11, 3, 2]), (3, .invokespecial 31, [98, 1, 0, 4]), (3, .putfield 34, [11, 4, 2]), (1, .aload_n 0, []), (3, .new 38, [6]), (1, .dup, []), (3, .invokespecial 40, [55, 0, 1, 2]), (3, .putfield 41, [11, 5, 2]), (1, .aload_n 0, []), (3, .new 45, [9]), (1, .dup, []), (1, .aload_n 0, []), (3, .getfield 22, [11, 2, 2]), (1, .aload_n 0, []), (3, .getfield 41, [11, 5, 2]), (3, .invokespecial 47, [75, 2, 0, 14]), (3, .putfield 50, [11, 6, 2]), (1, .aload_n 0, []), (3, .new 45, [9]), (1, .dup, []), (1, .aload_n 0, []), (3, .getfield 22, [11, 2, 2]), (1, .aload_n 0, []), (3, .getfield 41, [11, 5, 2]), (3, .invokespecial 47, [75, 2, 0, 14]), (3, .putfield 54, [11, 7, 2]), (1, .aload_n 0, []), (3, .new 45, [9]), (1, .dup, []), (1, .aload_n 0, []), (3, .getfield 22, [11, 2, 2]), (1, .aload_n 0, []), (3, .getfield 41, [11, 5, 2]), (3, .invokespecial 47, [75, 2, 0, 14]), (3, .putfield 57, [11, 8, 2]), (1, .aload_n 0, []), (1, .iconst 0, []), (3, .putfield 60, [11, 9, 3]), (1, .aload_n 0, []), (3, .new 64, [3]), (1, .dup, []), (3, .invokespecial 66, [24, 0, 1, 24]), (3, .putfield 67, [11, 10, 2]), (1, .aload_n 0, []), (3, .new 71, [0]), (1, .dup, []), (3, .invokespecial 73, [0, 0, 1, 6]), (3, .putfield 74, [11, 11, 2]), (1, .aload_n 0, []), (3, .new 78, [7]), (1, .dup, []), (3, .invokespecial 80, [64, 0, 1, 3]), (3, .putfield 81, [11, 12, 2]), (1, .aload_n 0, []), (3, .new 85, [8]), (1, .dup, []), (3, .invokespecial 87, [69, 0, 1, 2]), (3, .putfield 88, [11, 13, 2])]
def gI122 : List sx_I := gI122_0
def gI175_0 : List sx_I := [(1, .aload_n 0, []), (3, .invokespecial 1, []), (1, .aload_n 0, []), (3, .sipush 700, []), (2, .newarray .int, [1]), (3, .putfield 7, [12, 0, 2]), (1, .aload_n 0, []), (2, .bipush 97, []), (2, .newarray .int, [1]), (1, .dup, []), (1, .iconst 0, []), (2, .bipush 102, []), (1, .iastore, []), (1, .dup, []), (1, .iconst 1, []), (2, .bipush 105, []), (1, .iastore, []), (1, .dup, []), (1, .iconst 2, []), (2, .bipush 101, []), (1, .iastore, []), (1, .dup, []), (1, .iconst 3, []), (2, .bipush 108, []), (1, .iastore, [])]
def gI175_1 : List sx_I := [(1, .dup, []), (1, .iconst 4, []), (2, .bipush 100, []), (1, .iastore, []), (1, .dup, []), (1, .iconst 5, []), (2, .bipush 32, []), (1, .iastore, []), (1, .dup, []), (2, .bipush 6, []), (2, .bipush 116, []), (1, .iastore, []), (1, .dup, []), (2, .bipush 7, []), (2, .bipush 114, []), (1, .iastore, []), (1, .dup, []), (2, .bipush 8, []), (2, .bipush 101, []), (1, .iastore, []), (1, .dup, []), (2, .bipush 9, []), (2, .bipush 101, []), (1, .iastore, []), (1, .dup, [])]
def gI175_2 : List sx_I := [(2, .bipush 10, []), (2, .bipush 32, []), (1, .iastore, []), (1, .dup, []), (2, .bipush 11, []), (2, .bipush 105, []), (1, .iastore, []), (1, .dup, []), (2, .bipush 12, []), (2, .bipush 99, []), (1, .iastore, []), (1, .dup, []), (2, .bipush 13, []), (2, .bipush 101, []), (1, .iastore, []), (1, .dup, []), (2, .bipush 14, []), (2, .bipush 32, []), (1, .iastore, []), (1, .dup, []), (2, .bipush 15, []), (2, .bipush 102, []), (1, .iastore, []), (1, .dup, []), (2, .bipush 16, [])]
def gI175_3 : List sx_I := [(2, .bipush 97, []), (1, .iastore, []), (1, .dup, []), (2, .bipush 17, []), (2, .bipush 114, []), (1, .iastore, []), (1, .dup, []), (2, .bipush 18, []), (2, .bipush 109, []), (1, .iastore, []), (1, .dup, []), (2, .bipush 19, []), (2, .bipush 32, []), (1, .iastore, []), (1, .dup, []), (2, .bipush 20, []), (2, .bipush 119, []), (1, .iastore, []), (1, .dup, []), (2, .bipush 21, []), (2, .bipush 97, []), (1, .iastore, []), (1, .dup, []), (2, .bipush 22, []), (2, .bipush 108, [])]
def gI175_4 : List sx_I := [(1, .iastore, []), (1, .dup, []), (2, .bipush 23, []), (2, .bipush 107, []), (1, .iastore, []), (1, .dup, []), (2, .bipush 24, []), (2, .bipush 101, []), (1, .iastore, []), (1, .dup, []), (2, .bipush 25, []), (2, .bipush 114, []), (1, .iastore, []), (1, .dup, []), (2, .bipush 26, []), (2, .bipush 32, []), (1, .iastore, []), (1, .dup, []), (2, .bipush 27, []), (2, .bipush 99, []), (1, .iastore, []), (1, .dup, []), (2, .bipush 28, []), (2, .bipush 97, []), (1, .iastore, [])]
def gI175_5 : List sx_I := [(1, .dup, []), (2, .bipush 29, []), (2, .bipush 115, []), (1, .iastore, []), (1, .dup, []), (2, .bipush 30, []), (2, .bipush 116, []), (1, .iastore, []), (1, .dup, []), (2, .bipush 31, []), (2, .bipush 32, []), (1, .iastore, []), (1, .dup, []), (2, .bipush 32, []), (2, .bipush 115, []), (1, .iastore, []), (1, .dup, []), (2, .bipush 33, []), (2, .bipush 101, []), (1, .iastore, []), (1, .dup, []), (2, .bipush 34, []), (2, .bipush 101, []), (1, .iastore, []), (1, .dup, [])]
def gI175_6 : List sx_I := [(2, .bipush 35, []), (2, .bipush 100, []), (1, .iastore, []), (1, .dup, []), (2, .bipush 36, []), (2, .bipush 32, []), (1, .iastore, []), (1, .dup, []), (2, .bipush 37, []), (2, .bipush 108, []), (1, .iastore, []), (1, .dup, []), (2, .bipush 38, []), (2, .bipush 97, []), (1, .iastore, []), (1, .dup, []), (2, .bipush 39, []), (2, .bipush 119, []), (1, .iastore, []), (1, .dup, []), (2, .bipush 40, []), (2, .bipush 32, []), (1, .iastore, []), (1, .dup, []), (2, .bipush 41, [])]
def gI175_7 : List sx_I := [(2, .bipush 100, []), (1, .iastore, []), (1, .dup, []), (2, .bipush 42, []), (2, .bipush 101, []), (1, .iastore, []), (1, .dup, []), (2, .bipush 43, []), (2, .bipush 101, []), (1, .iastore, []), (1, .dup, []), (2, .bipush 44, []), (2, .bipush 112, []), (1, .iastore, []), (1, .dup, []), (2, .bipush 45, []), (2, .bipush 32, []), (1, .iastore, []), (1, .dup, []), (2, .bipush 46, []), (2, .bipush 102, []), (1, .iastore, []), (1, .dup, []), (2, .bipush 47, []), (2, .bipush 97, [])]
def gI175_8 : List sx_I := [(1, .iastore, []), (1, .dup, []), (2, .bipush 48, []), (2, .bipush 100, []), (1, .iastore, []), (1, .dup, []), (2, .bipush 49, []), (2, .bipush 101, []), (1, .iastore, []), (1, .dup, []), (2, .bipush 50, []), (2, .bipush 32, []), (1, .iastore, []), (1, .dup, []), (2, .bipush 51, []), (2, .bipush 115, []), (1, .iastore, []), (1, .dup, []), (2, .bipush 52, []), (2, .bipush 99, []), (1, .iastore, []), (1, .dup, []), (2, .bipush 53, []), (2, .bipush 111, []), (1, .iastore, [])]
def gI175_9 : List sx_I := [(1, .dup, []), (2, .bipush 54, []), (2, .bipush 114, []), (1, .iastore, []), (1, .dup, []), (2, .bipush 55, []), (2, .bipush 101, []), (1, .iastore, []), (1, .dup, []), (2, .bipush 56, []), (2, .bipush 32, []), (1, .iastore, []), (1, .dup, []), (2, .bipush 57, []), (2, .bipush 97, []), (1, .iastore, []), (1, .dup, []), (2, .bipush 58, []), (2, .bipush 110, []), (1, .iastore, []), (1, .dup, []), (2, .bipush 59, []), (2, .bipush 100, []), (1, .iastore, []), (1, .dup, [])]
def gI175_10 : List sx_I := [(2, .bipush 60, []), (2, .bipush 32, []), (1, .iastore, []), (1, .dup, []), (2, .bipush 61, []), (2, .bipush 111, []), (1, .iastore, []), (1, .dup, []), (2, .bipush 62, []), (2, .bipush 114, []), (1, .iastore, []), (1, .dup, []), (2, .bipush 63, []), (2, .bipush 32, []), (1, .iastore, []), (1, .dup, []), (2, .bipush 64, []), (2, .bipush 110, []), (1, .iastore, []), (1, .dup, []), (2, .bipush 65, []), (2, .bipush 111, []), (1, .iastore, []), (1, .dup, []), (2, .bipush 66, [])]
def gI175_11 : List sx_I := [(2, .bipush 116, []), (1, .iastore, []), (1, .dup, []), (2, .bipush 67, []), (2, .bipush 32, []), (1, .iastore, []), (1, .dup, []), (2, .bipush 68, []), (2, .bipush 119, []), (1, .iastore, []), (1, .dup, []), (2, .bipush 69, []), (2, .bipush 101, []), (1, .iastore, []), (1, .dup, []), (2, .bipush 70, []), (2, .bipush 105, []), (1, .iastore, []), (1, .dup, []), (2, .bipush 71, []), (2, .bipush 103, []), (1, .iastore, []), (1, .dup, []), (2, .bipush 72, []), (2, .bipush 104, [])]
def gI175_12 : List sx_I := [(1, .iastore, []), (1, .dup, []), (2, .bipush 73, []), (2, .bipush 116, []), (1, .iastore, []), (1, .dup, []), (2, .bipush 74, []), (2, .bipush 32, []), (1, .iastore, []), (1, .dup, []), (2, .bipush 75, []), (2, .bipush 103, []), (1, .iastore, []), (1, .dup, []), (2, .bipush 76, []), (2, .bipush 97, []), (1, .iastore, []), (1, .dup, []), (2, .bipush 77, []), (2, .bipush 105, []), (1, .iastore, []), (1, .dup, []), (2, .bipush 78, []), (2, .bipush 116, []), (1, .iastore, [])]
def gI175_13 : List sx_I := [(1, .dup, []), (2, .bipush 79, []), (2, .bipush 32, []), (1, .iastore, []), (1, .dup, []), (2, .bipush 80, []), (2, .bipush 102, []), (1, .iastore, []), (1, .dup, []), (2, .bipush 81, []), (2, .bipush 97, []), (1, .iastore, []), (1, .dup, []), (2, .bipush 82, []), (2, .bipush 114, []), (1, .iastore, []), (1, .dup, []), (2, .bipush 83, []), (2, .bipush 32, []), (1, .iastore, []), (1, .dup, []), (2, .bipush 84, []), (2, .bipush 97, []), (1, .iastore, []), (1, .dup, [])]
def gI175_14 : List sx_I := [(2, .bipush 85, []), (2, .bipush 103, []), (1, .iastore, []), (1, .dup, []), (2, .bipush 86, []), (2, .bipush 101, []), (1, .iastore, []), (1, .dup, []), (2, .bipush 87, []), (2, .bipush 32, []), (1, .iastore, []), (1, .dup, []), (2, .bipush 88, []), (2, .bipush 115, []), (1, .iastore, []), (1, .dup, []), (2, .bipush 89, []), (2, .bipush 110, []), (1, .iastore, []), (1, .dup, []), (2, .bipush 90, []), (2, .bipush 111, []), (1, .iastore, []), (1, .dup, []), (2, .bipush 91, [])]
def gI175_15 : List sx_I := [(2, .bipush 119, []), (1, .iastore, []), (1, .dup, []), (2, .bipush 92, []), (2, .bipush 32, []), (1, .iastore, []), (1, .dup, []), (2, .bipush 93, []), (2, .bipush 111, []), (1, .iastore, []), (1, .dup, []), (2, .bipush 94, []), (2, .bipush 119, []), (1, .iastore, []), (1, .dup, []), (2, .bipush 95, []), (2, .bipush 110, []), (1, .iastore, []), (1, .dup, []), (2, .bipush 96, []), (2, .bipush 32, []), (1, .iastore, []), (3, .putfield 13, [12, 3, 2]), (1, .aload_n 0, []), (1, .iconst (-1), [])]
def gI175_16 : List sx_I := [(3, .putfield 16, [12, 5, 0]), (1, .aload_n 0, []), (2, .bipush 96, []), (2, .newarray .int, [1]), (3, .putfield 20, [12, 30, 2]), (1, .aload_n 0, []), (2, .bipush 96, []), (2, .newarray .int, [1]), (3, .putfield 23, [12, 31, 2]), (1, .aload_n 0, []), (2, .bipush 6, []), (2, .newarray .int, [1]), (3, .putfield 26, [12, 32, 2]), (1, .aload_n 0, []), (2, .bipush 10, []), (2, .newarray .int, [1]), (3, .putfield 29, [12, 33, 2]), (1, .aload_n 0, []), (2, .bipush 10, []), (2, .newarray .int, [1]), (3, .putfield 32, [12, 34, 2]), (1, .aload_n 0, []), (2, .bipush 10, []), (2, .newarray .int, [1]), (3, .putfield 35, [12, 35, 2])]
def gI175_17 : List sx_I := [(1, .aload_n 0, []), (2, .bipush 10, []), (2, .newarray .int, [1]), (3, .putfield 38, [12, 36, 2]), (1, .aload_n 0, []), (2, .bipush 10, []), (2, .newarray .int, [1]), (3, .putfield 41, [12, 37, 2]), (1, .aload_n 0, []), (2, .bipush 48, []), (2, .newarray .int, [1]), (3, .putfield 44, [12, 38, 2]), (1, .aload_n 0, []), (2, .bipush 6, []), (2, .newarray .boolean, [4]), (3, .putfield 47, [12, 39, 2]), (1, .aload_n 0, []), (2, .bipush 6, []), (2, .newarray .int, [1]), (3, .putfield 51, [12, 40, 2]), (1, .aload_n 0, []), (2, .bipush 6, []), (2, .newarray .int, [1]), (3, .putfield 54, [12, 41, 2]), (1, .aload_n 0, [])]
def gI175_18 : List sx_I := [(3, .sipush 128, []), (2, .newarray .int, [1]), (3, .putfield 57, [12, 42, 2]), (1, .aload_n 0, []), (3, .sipush 128, []), (2, .newarray .int, [1]), (3, .putfield 60, [12, 43, 2]), (1, .aload_n 0, []), (3, .sipush 128, []), (2, .newarray .int, [1]), (3, .putfield 63, [12, 44, 2]), (1, .aload_n 0, []), (2, .bipush 96, []), (2, .newarray .int, [1]), (3, .putfield 66, [12, 46, 2]), (1, .aload_n 0, []), (2, .bipush 96, []), (2, .newarray .int, [1]), (3, .putfield 69, [12, 47, 2]), (1, .aload_n 0, []), (2, .bipush 7, []), (2, .newarray .long, [2]), (3, .putfield 72, [12, 54, 2]), (1, .aload_n 0, []), (2, .bipush 64, [])]
def gI175_19 : List sx_I := [(2, .newarray .long, [2]), (3, .putfield 76, [12, 55, 2]), (1, .aload_n 0, []), (3, .sipush 180, []), (2, .newarray .int, [1]), (3, .putfield 79, [12, 57, 2]), (1, .aload_n 0, []), (3, .sipush 180, []), (2, .newarray .int, [1]), (3, .putfield 82, [12, 58, 2]), (1, .aload_n 0, []), (3, .sipush 180, []), (2, .newarray .int, [1]), (3, .putfield 85, [12, 59, 2]), (1, .aload_n 0, []), (3, .sipush 180, []), (2, .newarray .int, [1]), (3, .putfield 88, [12, 60, 2]), (1, .aload_n 0, []), (3, .sipush 180, []), (2, .newarray .int, [1]), (3, .putfield 91, [12, 61, 2]), (1, .aload_n 0, []), (3, .sipush 180, []), (2, .newarray .int, [1])]
def gI175_20 : List sx_I := [(3, .putfield 94, [12, 62, 2]), (1, .aload_n 0, []), (3, .sipush 180, []), (2, .newarray .int, [1]), (3, .putfield 97, [12, 63, 2]), (1, .aload_n 0, []), (3, .sipush 180, []), (2, .newarray .boolean, [4]), (3, .putfield 100, [12, 64, 2]), (1, .aload_n 0, []), (1, .iconst 2, []), (2, .newarray .int, [1]), (3, .putfield 103, [12, 65, 2]), (1, .aload_n 0, []), (1, .iconst 2, []), (2, .newarray .int, [1]), (3, .putfield 106, [12, 66, 2]), (1, .aload_n 0, []), (1, .iconst 2, []), (2, .newarray .int, [1]), (3, .putfield 109, [12, 67, 2]), (1, .aload_n 0, []), (1, .iconst 5, []), (2, .newarray .int, [1]), (3, .putfield 112, [12, 68, 2])]
def gI175_21 : List sx_I := [(1, .aload_n 0, []), (1, .iconst 5, []), (2, .newarray .int, [1]), (3, .putfield 115, [12, 69, 2]), (1, .aload_n 0, []), (1, .iconst 5, []), (2, .newarray .int, [1]), (3, .putfield 118, [12, 70, 2]), (1, .aload_n 0, []), (1, .iconst 3, []), (2, .newarray .int, [1]), (3, .putfield 121, [12, 71, 2]), (1, .aload_n 0, []), (1, .iconst (-1), []), (3, .putfield 124, [12, 75, 0]), (1, .aload_n 0, []), (2, .bipush 96, []), (2, .newarray .int, [1]), (3, .putfield 127, [12, 76, 2]), (1, .aload_n 0, []), (2, .bipush 24, []), (2, .newarray .boolean, [4]), (3, .putfield 130, [12, 77, 2]), (1, .aload_n 0, []), (2, .bipush 48, [])]
def gI175_22 : List sx_I := [(2, .newarray .int, [1]), (3, .putfield 133, [12, 78, 2]), (1, .aload_n 0, []), (2, .bipush 48, []), (2, .newarray .int, [1]), (3, .putfield 136, [12, 79, 2]), (1, .aload_n 0, []), (2, .bipush 48, []), (2, .newarray .long, [2]), (3, .putfield 139, [12, 80, 2]), (1, .aload_n 0, []), (1, .iconst 3, []), (2, .newarray .int, [1]), (3, .putfield 142, [12, 82, 2]), (1, .aload_n 0, []), (3, .sipush 2120, []), (2, .newarray .int, [1]), (3, .putfield 145, [12, 84, 2]), (1, .aload_n 0, []), (2, .bipush 16, []), (2, .newarray .int, [1]), (3, .putfield 148, [12, 86, 2]), (1, .aload_n 0, []), (3, .sipush 720, []), (2, .newarray .int, [1])]
def gI175_23 : List sx_I := [(3, .putfield 151, [12, 87, 2]), (1, .aload_n 0, []), (1, .iconst 3, []), (2, .newarray .int, [1]), (3, .putfield 154, [12, 88, 2])]
def gI175 : List sx_I := gI175_0 ++ (gI175_1 ++ (gI175_2 ++ (gI175_3 ++ (gI175_4 ++ (gI175_5 ++ (gI175_6 ++ (gI175_7 ++ (gI175_8 ++ (gI175_9 ++ (gI175_10 ++ (gI175_11 ++ (gI175_12 ++ (gI175_13 ++ (gI175_14 ++ (gI175_15 ++ (gI175_16 ++ (gI175_17 ++ (gI175_18 ++ (gI175_19 ++ (gI175_20 ++ (gI175_21 ++ (gI175_22 ++ (gI175_23)))))))))))))))))))))))
def gx_nwL : List (Nat × Nat × Nat × Nat × Nat × Nat) := [(5, 36, 1, 168, 169, 131), (9, 21, 4, 401, 402, 137), (10, 21, 2, 297, 298, 134), (11, 19, 5, 162, 163, 130), (11, 29, 10, 291, 292, 133), (11, 38, 6, 378, 379, 135), (11, 45, 9, 395, 396, 136), (11, 64, 3, 508, 509, 138), (11, 71, 0, 536, 537, 139), (11, 78, 7, 569, 570, 140), (11, 85, 8, 594, 595, 141)]
theorem gx_nwok : gx_nwL.all (fun q => decide (lw_tbl[q.2.2.2.1]? = some (.classLink (sx_rn q.1) q.2.1 (sx_rn q.2.2.1))) && (decide (lw_tbl[q.2.2.2.2.1]? = some (.instantiable (sx_rn q.2.2.1) (sx_nf q.2.2.1))) && decide (lw_tbl[q.2.2.2.2.2]? = some (.initialized (sx_rn q.2.2.1))))) = true := by decide +kernel
def gx_obL : List (Nat × Nat × Nat) := [(0, 3, 541), (1, 3, 173), (2, 3, 302), (3, 3, 513), (4, 3, 406), (5, 3, 167), (6, 3, 383), (7, 3, 574), (8, 3, 599), (9, 3, 400), (10, 3, 296), (11, 3, 159), (12, 1, 1496)]
theorem gx_obok : gx_obL.all (fun q => decide (lw_tbl[q.2.2]? = some (.methodLink (sx_rn q.1) q.2.1 Lib.objectInit))) = true := by decide +kernel
theorem gx_obi : Cond.instanceMethod Lib.objectInit ∈ sx_TB := sx_words (i := 160) (by decide +kernel) rfl
set_option maxRecDepth 20000 in
theorem gx_obc : Cond.code Lib.objectInit ⟨#[0xb1]⟩ 1 none ∈ sx_TB := List.mem_filter.mpr ⟨lw_in1 (List.mem_of_getElem? (i := 33) rfl), rfl⟩
theorem gx_ac1 : Cond.arrayClass .int ∈ sx_TB := sx_words (i := 181) (by decide +kernel) rfl
theorem gx_ac2 : Cond.arrayClass .long ∈ sx_TB := sx_words (i := 394) (by decide +kernel) rfl
theorem gx_ac3 : Cond.arrayClass .byte ∈ sx_TB := sx_words (i := 180) (by decide +kernel) rfl
theorem gx_ac4 : Cond.arrayClass .boolean ∈ sx_TB := sx_words (i := 1796) (by decide +kernel) rfl
theorem gx_lg : Cond.classLink (sx_rn 3) 28 "[[I" ∈ sx_TB := sx_words (i := 514) (by decide +kernel) rfl
def gx_okc (mt : sx_Mt) (i n : Nat) : Bool := decide (i < sx_Ms.length) && (sx_kd i == 2 && (decide ((parseMethodDescriptor (sx_M i).1.desc).map (fun d => d.parameters.length) = some n) && (decide ((sx_M i).2.2.2.2.1 + 1 ≤ mt.2.2.2.2.1) && (decide (8 + ((sx_M i).2.2.1 + 11) + (sx_M i).2.2.2.2.2.1 ≤ mt.2.2.2.2.2.1) && decide ((sx_M i).2.2.2.1 = none)))))
def gx_k1 : Instr → Nat
  | .new _ => 1
  | .newarray _ => 2
  | .multianewarray _ _ => 3
  | .invokespecial _ => 4
  | .invokevirtual _ => 5
  | _ => 0
def gx_ok1 (own : Nat) (mt : sx_Mt) (pc : Nat) (I : sx_I) : Bool := match gx_k1 I.2.1 with
  | 1 => match I with
    | (3, .new idx, [ci]) => decide (ci < 13) && gx_nwL.any (fun q => q.1 == own && (q.2.1 == idx && q.2.2.1 == ci))
    | _ => false
  | 2 => match I with
    | (2, .newarray t, [t']) => decide (1 ≤ t' ∧ t' ≤ 4) && decide (gx_at t' = t)
    | _ => false
  | 3 => match I with
    | (4, .multianewarray 28 2, []) => own == 3
    | _ => false
  | 4 => match I with
    | (3, .invokespecial idx, []) => gx_obL.any (fun q => q.1 == own && q.2.1 == idx) && (decide (1 ≤ mt.2.2.2.2.1) && decide (20 ≤ mt.2.2.2.2.2.1))
    | (3, .invokespecial idx, [i, n, 0, _]) => sx_has4 sx_ml own idx i && gx_okc mt i n
    | (3, .invokespecial idx, [i, n, 1, _]) => gx_nl.any (fun q => q.1 == own && (q.2.1 == idx && q.2.2 == i)) && gx_okc mt i n
    | _ => false
  | 5 => match I with
    | (3, .invokevirtual idx, [0, i, 1, ci]) => sx_okc own mt idx 0 i 1 && (decide (sx_rn ci = (sx_M i).1.cls) && decide (ci < 13))
    | _ => false
  | _ => sx_ok1 own mt pc I
def gx_okB (own : Nat) (mt : sx_Mt) : List sx_I → Nat → Bool
  | [], _ => true
  | I :: is, pc => decide (decode mt.2.1 pc = .ok (I.2.1, I.1)) && (gx_ok1 own mt pc I && gx_okB own mt is (pc + I.1))
def gx_ln : List sx_I → Nat
  | [] => 0
  | I :: is => I.1 + gx_ln is
/-- one instruction that makes nothing and calls nothing of ours -/
def gx_1 (vs : List sx_V) (I : sx_I) (st : List sx_V) (k : Nat) (T : gx_T) : Option (List sx_V × gx_T) := match I.2.1 with
  | .iconst n => some (.inl n :: st, T)
  | .bipush n => some (.inl n :: st, T)
  | .sipush n => some (.inl n :: st, T)
  | .lconst n => some (.inr (.inl (n.val : Int)) :: st, T)
  | .aload_n i => match vs[i.val]? with
    | some (.inr (.inr a)) => some (.inr (.inr a) :: st, T)
    | _ => none
  | .dup => match st with
    | .inr (.inr a) :: r => some (.inr (.inr a) :: .inr (.inr a) :: r, T)
    | _ => none
  | .iastore => match st with
    | .inl v :: .inl i :: .inr (.inr a) :: r => if (sx_lk (shM.take k) a).1 = 1 ∧ 0 ≤ i ∧ i < ((sx_lk (shM.take k) a).2 : Int) then some (r, (0, a, i, v) :: T) else none
    | _ => none
  | .getfield _ => match I.2.2, st with
    | [ci, f, 2], .inr (.inr a) :: r => if sx_lk (shM.take k) a = (0, ci) then some (.inr (.inr (gx_s T a f)) :: r, T) else none
    | _, _ => none
  | .putfield _ => match I.2.2, st with
    | [ci, f, 0], .inl v :: .inr (.inr a) :: r => if sx_lk (shM.take k) a = (0, ci) then some (r, (0, a, (f : Int), v) :: T) else none
    | [ci, f, 1], .inr (.inl v) :: .inr (.inr a) :: r => if sx_lk (shM.take k) a = (0, ci) then some (r, (0, a, (f : Int), v) :: T) else none
    | [ci, f, 2], .inr (.inr v) :: .inr (.inr a) :: r => if sx_lk (shM.take k) a = (0, ci) then some (r, (0, a, (f : Int), v) :: T) else none
    | [ci, f, 3], .inl v :: .inr (.inr a) :: r => if sx_lk (shM.take k) a = (0, ci) ∧ (v = 0 ∨ v = 1) then some (r, (0, a, (f : Int), v) :: T) else none
    | _, _ => none
  | .invokestatic _ => match I.2.2, st with
    | [4, 308, 2], .inl v :: .inr (.inr a) :: r => if (sx_lk (shM.take k) a).1 = 1 ∧ (sx_lk (shM.take k) a).2 ≤ 100000 ∧ sx_cat r ≤ 8 then some (r, ((sx_lk (shM.take k) a).2 + 1, a, 0, v) :: T) else none
    | _, _ => none
  | _ => none
def gx_mT : gx_T := (List.range 20).map fun (j : Nat) => (0, 89, (j : Int), 90 + (j : Int))
def gx_run (call : Nat → List sx_V → Nat → Nat → gx_T → Option gx_T) (vs : List sx_V) (k1 : Nat) : List sx_I → List sx_V → Nat → gx_T → Option (List sx_V × Nat × gx_T)
  | [], st, k, T => some (st, k, T)
  | I :: is, st, k, T => match gx_k1 I.2.1 with
    | 1 => if shM[k]? = some (0, I.2.2.headD 99) ∧ T.all (fun q => decide (q.2.1 ≠ (k : Int))) = true ∧ k + 1 ≤ k1 then gx_run call vs k1 is (.inr (.inr (k : Int)) :: st) (k + 1) T else none
    | 2 => match st with
      | .inl n :: r => if shM[k]? = some (I.2.2.headD 99, n.toNat) ∧ (0 ≤ n ∧ n ≤ 100000) ∧ T.all (fun q => decide (q.2.1 ≠ (k : Int))) = true ∧ k + 1 ≤ k1 then gx_run call vs k1 is (.inr (.inr (k : Int)) :: r) (k + 1) T else none
      | _ => none
    | 3 => match st with
      | .inl 8 :: .inl 20 :: r => if k = 89 ∧ T.all (fun q => decide (q.2.1 ≤ 89)) = true ∧ 110 ≤ k1 then gx_run call vs k1 is (.inr (.inr 89) :: r) 110 (gx_mT ++ T) else none
      | _ => none
    | 4 => match I.2.2 with
      | [] => match st with
        | .inr (.inr a) :: r => if 0 ≤ a ∧ sx_cat r ≤ 8 then gx_run call vs k1 is r k T else none
        | _ => none
      | [i, n, _, d] => match st.drop n with
        | .inr (.inr a) :: r => if n ≤ st.length ∧ 0 ≤ a ∧ sx_cat r ≤ 8 ∧ k + d ≤ k1 then (call i (.inr (.inr a) :: (st.take n).reverse) k (k + d) T).bind fun T' => gx_run call vs k1 is r (k + d) T' else none
        | _ => none
      | _ => none
    | 5 => match st with
      | .inr (.inr a) :: r => if sx_lk (shM.take k) a = (0, I.2.2.getD 3 99) ∧ sx_cat r ≤ 8 then (call (I.2.2.getD 1 0) [.inr (.inr a)] k k T).bind fun T' => gx_run call vs k1 is r k T' else none
      | _ => none
    | _ => (gx_1 vs I st k T).bind fun q => gx_run call vs k1 is q.1 k q.2
set_option maxRecDepth 20000 in
theorem gI0_ok : gx_okB 0 (sx_M 0) gI0 0 = true := by decide +kernel
set_option maxRecDepth 20000 in
theorem gI8_ok : gx_okB 1 (sx_M 8) gI8 0 = true := by decide +kernel
set_option maxRecDepth 20000 in
theorem gI13_ok : gx_okB 2 (sx_M 13) gI13 0 = true := by decide +kernel
set_option maxRecDepth 20000 in
theorem gI24_ok : gx_okB 3 (sx_M 24) gI24 0 = true := by decide +kernel
set_option maxRecDepth 20000 in
theorem gI31_ok : gx_okB 4 (sx_M 31) gI31 0 = true := by decide +kernel
set_option maxRecDepth 20000 in
theorem gI43_ok : gx_okB 5 (sx_M 43) gI43 0 = true := by decide +kernel
set_option maxRecDepth 20000 in
theorem gI44_ok : gx_okB 5 (sx_M 44) gI44 0 = true := by decide +kernel
set_option maxRecDepth 20000 in
theorem gI55_ok : gx_okB 6 (sx_M 55) gI55 0 = true := by decide +kernel
set_option maxRecDepth 20000 in
theorem gI64_ok : gx_okB 7 (sx_M 64) gI64 0 = true := by decide +kernel
set_option maxRecDepth 20000 in
theorem gI69_ok : gx_okB 8 (sx_M 69) gI69 0 = true := by decide +kernel
set_option maxRecDepth 20000 in
theorem gI75_ok : gx_okB 9 (sx_M 75) gI75 0 = true := by decide +kernel
set_option maxRecDepth 20000 in
theorem gI98_ok : gx_okB 10 (sx_M 98) gI98 0 = true := by decide +kernel
set_option maxRecDepth 20000 in
theorem gI122_ok : gx_okB 11 (sx_M 122) gI122 0 = true := by decide +kernel
def gx_L : List (Nat × Nat × List sx_I) := [(0, 0, gI0), (8, 1, gI8), (13, 2, gI13), (24, 3, gI24), (31, 4, gI31), (43, 5, gI43), (44, 5, gI44), (55, 6, gI55), (64, 7, gI64), (69, 8, gI69), (75, 9, gI75), (98, 10, gI98), (122, 11, gI122)]
theorem gx_Lok : ∀ q ∈ gx_L, gx_okB q.2.1 (sx_M q.1) q.2.2 0 = true := by
  unfold gx_L
  exact List.forall_mem_cons.mpr ⟨gI0_ok, List.forall_mem_cons.mpr ⟨gI8_ok, List.forall_mem_cons.mpr ⟨gI13_ok, List.forall_mem_cons.mpr ⟨gI24_ok, List.forall_mem_cons.mpr ⟨gI31_ok, List.forall_mem_cons.mpr ⟨gI43_ok, List.forall_mem_cons.mpr ⟨gI44_ok, List.forall_mem_cons.mpr ⟨gI55_ok, List.forall_mem_cons.mpr ⟨gI64_ok, List.forall_mem_cons.mpr ⟨gI69_ok, List.forall_mem_cons.mpr ⟨gI75_ok, List.forall_mem_cons.mpr ⟨gI98_ok, List.forall_mem_cons.mpr ⟨gI122_ok, fun q h => by cases h⟩⟩⟩⟩⟩⟩⟩⟩⟩⟩⟩⟩⟩
set_option maxRecDepth 20000 in
theorem gx_Lok2 : gx_L.all (fun q => decide (q.1 < sx_Ms.length) && (decide ((sx_M q.1).1.cls = sx_rn q.2.1) && (decide ((sx_M q.1).2.2.2.1 = none) && decide (decode (sx_M q.1).2.1 (gx_ln q.2.2) = .ok (.return_, 1))))) = true := by decide +kernel
theorem gx_fill {X : sx_X} {Q : sx_R} {sh : sx_H} {σ : sx_S} {a v : Int} {m : Nat} (ha : sx_lk sh a = (1, m)) (hm : m ≤ 100000) (h : Q none sh (sx_fil σ a m v)) : sx_Run X 308 [.inr (.inr a), .inl v] sh σ Q := by
  refine sx_rule2 (own := 13) (cd := kJ7_fill_53178) (nL := 4) (by decide +kernel) (by decide +kernel) kJ7_fill_53178_ok (by decide +kernel) (Nat.le_of_ble_eq_true rfl) [5] 40 (fun n t L st _ σ' => (t = 5 ∧ ∃ i : Int, st = [] ∧ L = [some (.inr (.inr (a))), some (.inl (v)), some (.inl (i)), some (.inl (m))] ∧ (σ' = sx_fil σ a i v ∧ 0 ≤ i ∧ i ≤ m) ∧ n = ((m : Int) - i).toNat)) ?_ ?_
  · skip
    conv => whnf
    refine ⟨by first | decide | (simp only [ha]; decide), ?_⟩
    try simp (disch := omega) only [Int.cast_ofNat_Int, up_s, up_a, up_i, mp_a, mp_ge, cp_a, ha]
    conv => whnf
    refine ⟨_, ⟨rfl, _, rfl, rfl, ?_, rfl⟩⟩
    refine ⟨?_, by omega, by omega⟩
    exact (sx_fil_0 σ a v).symm
  · intro n t L st σ' hk
    obtain ⟨rfl, i, rfl, rfl, hc, rfl⟩ := hk
    obtain ⟨rfl, hi0, hi1⟩ := hc
    conv => whnf
    refine ⟨fun g => ?_, fun g => ?_⟩
    · simp only [sx_cc, Classical.not_not] at g
      conv => whnf
      refine ⟨rfl, ?_⟩
      have e9 : i = m := by omega
      subst e9
      exact h
    · simp only [sx_cc, Classical.not_not] at g
      conv => whnf
      refine ⟨sx_ixI (by first | assumption | rfl) (by omega) (by omega), ?_⟩
      conv => whnf
      refine ⟨⟨by omega, by omega⟩, ?_⟩
      conv => whnf
      refine ⟨_, ?_, ⟨rfl, _, rfl, rfl, ?_, rfl⟩⟩
      · omega
      · refine ⟨?_, by omega, by omega⟩
        exact sx_fil_s hi0
theorem gx_1_ok {X : sx_X} {vs : List sx_V} {L : sx_L} (hL : ∀ (i : Nat) (v : sx_V), vs[i]? = some v → L[i]? = some (some v)) {I : sx_I} {st : List sx_V} {k : Nat} {T : gx_T} {q : List sx_V × gx_T} (h : gx_1 vs I st k T = some q) : sx_st (sx_Run X) I L st (shM.take k) (gx_s T) (fun L' st' _ σ' => L' = L ∧ st' = q.1 ∧ σ' = gx_s q.2) := by
  obtain ⟨len, ins, w⟩ := I
  unfold gx_1 at h
  simp only at h
  split at h
  · cases h; exact ⟨rfl, rfl, rfl⟩
  · cases h; exact ⟨rfl, rfl, rfl⟩
  · cases h; exact ⟨rfl, rfl, rfl⟩
  · cases h; exact ⟨rfl, rfl, rfl⟩
  · split at h
    · rename_i hv
      cases h
      show sx_lA L _ _
      unfold sx_lA
      rw [hL _ _ hv]
      exact ⟨rfl, rfl, rfl⟩
    · cases h
  · split at h
    · cases h; exact ⟨rfl, rfl, rfl⟩
    · cases h
  · split at h
    · split at h
      · rename_i hc
        cases h
        exact ⟨hc, rfl, rfl, rfl⟩
      · cases h
    · cases h
  · split at h
    · split at h
      · rename_i hc
        cases h
        exact ⟨hc, rfl, rfl, rfl⟩
      · cases h
    · cases h
  · split at h
    · split at h
      · rename_i hc
        cases h
        exact ⟨hc, rfl, rfl, rfl⟩
      · cases h
    · split at h
      · rename_i hc
        cases h
        exact ⟨hc, rfl, rfl, rfl⟩
      · cases h
    · split at h
      · rename_i hc
        cases h
        exact ⟨hc, rfl, rfl, rfl⟩
      · cases h
    · split at h
      · rename_i hc
        cases h
        exact ⟨hc.1, hc.2, rfl, rfl, rfl⟩
      · cases h
    · cases h
  · split at h
    · rename_i v a r
      split at h
      · rename_i hc
        cases h
        refine ⟨Nat.le_add_left 2 _, hc.2.2, ?_⟩
        exact gx_fill (m := (sx_lk (shM.take k) a).2) (by rw [← hc.1]) hc.2.1 ⟨rfl, rfl, rfl⟩
      · cases h
    · cases h
  · cases h
theorem gx_has3 {own idx i : Nat} (h : gx_nl.any (fun q => q.1 == own && (q.2.1 == idx && q.2.2 == i)) = true) : (own, idx, i) ∈ gx_nl := by
  obtain ⟨q, hq, h⟩ := List.any_eq_true.mp h
  simp only [Bool.and_eq_true, beq_iff_eq] at h
  obtain ⟨h1, h2, h3⟩ := h
  obtain ⟨q1, q2, q3⟩ := q
  simp only at h1 h2 h3
  subst h1 h2 h3
  exact hq
theorem gx_hasN {own idx ci : Nat} (h : gx_nwL.any (fun q => q.1 == own && (q.2.1 == idx && q.2.2.1 == ci)) = true) : Cond.classLink (sx_rn own) idx (sx_rn ci) ∈ sx_TB ∧ Cond.instantiable (sx_rn ci) (sx_nf ci) ∈ sx_TB ∧ Cond.initialized (sx_rn ci) ∈ sx_TB := by
  obtain ⟨q, hq, h⟩ := List.any_eq_true.mp h
  have hk := List.all_eq_true.mp gx_nwok q hq
  simp only [Bool.and_eq_true, beq_iff_eq, decide_eq_true_eq] at h hk
  obtain ⟨h1, h2, h3⟩ := h
  subst h1 h2 h3
  exact ⟨sx_words hk.1 rfl, sx_words hk.2.1 rfl, sx_words hk.2.2 rfl⟩
theorem gx_hasO {own idx : Nat} (h : gx_obL.any (fun q => q.1 == own && q.2.1 == idx) = true) : Cond.methodLink (sx_rn own) idx Lib.objectInit ∈ sx_TB := by
  obtain ⟨q, hq, h⟩ := List.any_eq_true.mp h
  have hk := List.all_eq_true.mp gx_obok q hq
  simp only [Bool.and_eq_true, beq_iff_eq, decide_eq_true_eq] at h hk
  obtain ⟨h1, h2⟩ := h
  subst h1 h2
  exact sx_words hk rfl
theorem gx_hasM {own idx i : Nat} (h : sx_has4 sx_ml own idx i = true) : Cond.methodLink (sx_rn own) idx (sx_M i).1 ∈ sx_TB := by
  obtain ⟨pl, hpl⟩ := sx_has4_el h
  have k := sx_ml_mem hpl
  unfold sx_mlok at k
  exact sx_words (of_decide_eq_true k) rfl
theorem gx_s_app {T : gx_T} {a : Int} : ∀ {S : gx_T}, S.all (fun q => decide (q.2.1 ≠ a)) = true → gx_s (S ++ T) a = gx_s T a
  | [], _ => rfl
  | q :: S, h => by
    simp only [List.all_cons, Bool.and_eq_true, decide_eq_true_eq] at h
    have ih := gx_s_app (T := T) (S := S) h.2
    obtain ⟨n, b, i, v⟩ := q
    have hne : ¬ a = b := fun z => h.1 z.symm
    rw [← ih]
    cases n with
    | zero => funext j; exact up_a hne
    | succ n => funext j; exact fil_a hne
theorem gx_mT_ne {a : Int} (h : ¬ a = 89) : gx_mT.all (fun q => decide (q.2.1 ≠ a)) = true := by
  rw [List.all_eq_true]
  intro q hq
  obtain ⟨j, -, rfl⟩ := List.mem_map.mp hq
  exact decide_eq_true (fun z => h z.symm)
theorem gx_mT_at {T : gx_T} : ∀ j : Nat, j < 20 → gx_s (gx_mT ++ T) 89 (j : Int) = 90 + (j : Int) := by
  have key : ∀ (σ : sx_S) (l : List Nat) (j : Nat), j ∈ l → ∀ T : gx_T, gx_s ((l.map fun (j : Nat) => ((0, 89, (j : Int), 90 + (j : Int)) : Nat × Int × Int × Int)) ++ T) 89 (j : Int) = 90 + (j : Int) := by
    intro σ l
    induction l with
    | nil => intro j h; cases h
    | cons b l ih =>
      intro j h T
      show sx_up (gx_s ((l.map fun (j : Nat) => ((0, 89, (j : Int), 90 + (j : Int)) : Nat × Int × Int × Int)) ++ T)) 89 (b : Int) (90 + (b : Int)) 89 (j : Int) = _
      by_cases e : j = b
      · subst e
        exact up_s
      · rw [up_i (by omega)]
        exact ih j ((List.mem_cons.mp h).resolve_left e) T
  intro j hj
  exact key gx_0 (List.range 20) j (List.mem_range.mpr hj) T
section GXR
variable {p : Program} {e : Env} {R : Room} {s : State} {m : MethodId} {args : Array Value} {below : List Frame} {meth : Method} {c : Code} {Q : State → Prop} {X : sx_X} {own : Nat} {mt : sx_Mt}
variable {L : sx_L} {k0 k1 : Nat} {vs : List sx_V}
theorem gx_run_ok (hF : sx_Fx p s m args meth c R 0 0 X own mt) (hX : gx_X X) (hN : gx_N X) (hs : s.heap.size = X.2.2.2.1 + k0) (hk1 : k1 ≤ 172) (hR : k1 - k0 ≤ R.cells ∧ gx_z k1 - gx_z k0 ≤ R.slots) (hL : ∀ (i : Nat) (v : sx_V), vs[i]? = some v → L[i]? = some (some v))
    {call : Nat → List sx_V → Nat → Nat → gx_T → Option gx_T} (hcall : ∀ i vs k k' T T', call i vs k k' T = some T' → gx_Run X i vs k k' (gx_s T) (fun σ' => σ' = gx_s T')) :
    ∀ (is : List sx_I) (pc : Nat) (st : List sx_V) (k : Nat) (T : gx_T) (st' : List sx_V) (k' : Nat) (T' : gx_T), gx_okB own mt is pc = true → gx_run call vs k1 is st k T = some (st', k', T') → k0 ≤ k → k ≤ k1 →
      (k0 ≤ k' → k' ≤ k1 → sx_AT p e R s m args below meth c (k' - k0) (gx_z k' - gx_z k0) Q X mt.2.2.1 (pc + gx_ln is) L st' (shM.take k') (gx_s T')) → sx_AT p e R s m args below meth c (k - k0) (gx_z k - gx_z k0) Q X mt.2.2.1 pc L st (shM.take k) (gx_s T) := by
  intro is
  induction is with
  | nil =>
    intro pc st k T st' k' T' _ hr hk0 hkk h
    cases hr
    exact h hk0 hkk
  | cons I is ih =>
    intro pc st k T st' k' T' hok hr hk0 hkk h
    unfold gx_okB at hok
    simp only [Bool.and_eq_true, decide_eq_true_eq] at hok
    obtain ⟨hd, hok, hoks⟩ := hok
    have eln : pc + gx_ln (I :: is) = pc + I.1 + gx_ln is := by
      show pc + (I.1 + gx_ln is) = _
      omega
    rw [eln] at h
    have hroom : ∀ {q : Nat}, q ≤ k1 → q - k0 ≤ R.cells ∧ gx_z q - gx_z k0 ≤ R.slots := fun {q} hq => ⟨by have := hR.1; omega, by have := gx_z_le hq; have := hR.2; omega⟩
    have hF1 : sx_Fx p s m args meth c R (k - k0) (gx_z k - gx_z k0) X own mt := gx_Fx hF (hroom hkk)
    obtain ⟨len, ins, w⟩ := I
    unfold gx_run at hr
    unfold gx_ok1 at hok
    simp only at hr hok hd hoks h
    split at hr
    · rename_i hkd
      rw [hkd] at hok
      simp only at hok
      split at hok
      · rename_i idx ci heq
        cases heq
        simp only [Bool.and_eq_true, decide_eq_true_eq] at hok hr
        split at hr
        · rename_i hc
          obtain ⟨hsh, hT, hkk1⟩ := hc
          obtain ⟨w1, w2, w3⟩ := gx_hasN hok.2
          exact gx_o_new hF1 hX hs hk0 hd w1 w2 w3 hok.1 hsh (gx_s_un (by simpa using hT)) (hroom hkk1) (ih _ _ _ _ _ _ _ hoks hr (by omega) hkk1 h)
        · cases hr
      · cases hok
    · rename_i hkd
      rw [hkd] at hok
      simp only at hok
      split at hok
      · rename_i t t' heq
        cases heq
        simp only [Bool.and_eq_true, decide_eq_true_eq] at hok hr
        split at hr
        · rename_i n r
          split at hr
          · rename_i hc
            obtain ⟨hsh, hn, hT, hkk1⟩ := hc
            obtain ⟨ht, rfl⟩ := hok
            have hw : Cond.arrayClass (newarray.typeOf (gx_at t')) ∈ sx_TB := by
              match t', ht with
              | 1, _ => exact gx_ac1
              | 2, _ => exact gx_ac2
              | 3, _ => exact gx_ac3
              | 4, _ => exact gx_ac4
            exact gx_o_newa hF1 hX hs hk0 hd ht hw hn hsh (gx_s_un (by simpa using hT)) (hroom hkk1) (ih _ _ _ _ _ _ _ hoks hr (by omega) hkk1 h)
          · cases hr
        · cases hr
      · cases hok
    · rename_i hkd
      rw [hkd] at hok
      simp only at hok
      split at hok
      · rename_i heq
        cases heq
        simp only [beq_iff_eq] at hok
        subst hok
        split at hr
        · rename_i r
          split at hr
          · rename_i hc
            obtain ⟨rfl, hT, hkk1⟩ := hc
            have hT2 : ∀ a : Nat, 89 < a → gx_s (gx_mT ++ T) (a : Int) = gx_0 (a : Int) := fun a ha => by
              rw [gx_s_app (gx_mT_ne (by omega))]
              refine gx_s_un ?_
              rw [List.all_eq_true] at hT ⊢
              intro q hq
              have := of_decide_eq_true (hT q hq)
              exact decide_eq_true (by omega)
            exact gx_o_multi hF1 hX hs hk0 hd gx_lg hN (fun a h1 _ => hT2 a h1) (hroom hkk1) (fun a ha => gx_s_app (gx_mT_ne (by omega))) gx_mT_at (ih _ _ _ _ _ _ _ hoks hr (by omega) hkk1 h)
          · cases hr
        · cases hr
      · cases hok
    · rename_i hkd
      rw [hkd] at hok
      simp only at hok
      split at hok
      · rename_i idx heq
        cases heq
        simp only [Bool.and_eq_true, decide_eq_true_eq] at hok hr
        split at hr
        · rename_i a r
          split at hr
          · rename_i hc
            exact gx_o_obj hF1 hd (gx_hasO hok.1) gx_obi gx_obc hok.2.1 hok.2.2 hc.1 hc.2 (ih _ _ _ _ _ _ _ hoks hr hk0 hkk h)
          · cases hr
        · cases hr
      · rename_i idx i n d heq
        cases heq
        simp only [Bool.and_eq_true, decide_eq_true_eq] at hok hr
        split at hr
        · rename_i a r hdr
          split at hr
          · rename_i hc
            obtain ⟨hn, ha, hcat, hkd1⟩ := hc
            obtain ⟨T2, hT2, hr⟩ := Option.bind_eq_some_iff.mp hr
            unfold gx_okc at hok
            simp only [Bool.and_eq_true, decide_eq_true_eq, beq_iff_eq] at hok
            have hst : st = st.take n ++ .inr (.inr a) :: r := by rw [← hdr, List.take_append_drop]
            rw [hst]
            exact gx_o_callI hF1 hX hs hk0 (by omega) (by omega) hd hok.2.1 hok.2.2.1 hok.2.2.2.2.2.2 (Or.inl (gx_hasM hok.1)) hok.2.2.2.1 hok.2.2.2.2.1 hok.2.2.2.2.2.1 (by rw [List.length_take]; omega) ha hcat (hcall _ _ _ _ _ _ hT2) (hroom hkd1) (fun σ' e9 => by subst e9; exact ih _ _ _ _ _ _ _ hoks hr (by omega) hkd1 h)
          · cases hr
        · cases hr
      · rename_i idx i n d heq
        cases heq
        simp only [Bool.and_eq_true, decide_eq_true_eq] at hok hr
        split at hr
        · rename_i a r hdr
          split at hr
          · rename_i hc
            obtain ⟨hn, ha, hcat, hkd1⟩ := hc
            obtain ⟨T2, hT2, hr⟩ := Option.bind_eq_some_iff.mp hr
            have hnl := gx_has3 hok.1
            have hok := hok.2
            unfold gx_okc at hok
            simp only [Bool.and_eq_true, decide_eq_true_eq, beq_iff_eq] at hok
            have hst : st = st.take n ++ .inr (.inr a) :: r := by rw [← hdr, List.take_append_drop]
            rw [hst]
            exact gx_o_callI hF1 hX hs hk0 (by omega) (by omega) hd hok.1 hok.2.1 hok.2.2.2.2.2 (Or.inr ((hN s hF.2.2.2.2.2.2.1).1 _ hnl)) hok.2.2.1 hok.2.2.2.1 hok.2.2.2.2.1 (by rw [List.length_take]; omega) ha hcat (hcall _ _ _ _ _ _ hT2) (hroom hkd1) (fun σ' e9 => by subst e9; exact ih _ _ _ _ _ _ _ hoks hr (by omega) hkd1 h)
          · cases hr
        · cases hr
      · cases hok
    · rename_i hkd
      rw [hkd] at hok
      simp only at hok
      split at hok
      · rename_i idx i ci heq
        cases heq
        simp only [Bool.and_eq_true, decide_eq_true_eq] at hok hr
        split at hr
        · rename_i a r
          split at hr
          · rename_i hc
            obtain ⟨T2, hT2, hr⟩ := Option.bind_eq_some_iff.mp hr
            exact gx_o_callV hF1 hX hs hk0 (by omega) hd hok.1 hok.2.1 hok.2.2 hc.1 hc.2 (hcall _ _ _ _ _ _ hT2) (fun σ' e9 => by subst e9; exact ih _ _ _ _ _ _ _ hoks hr hk0 hkk h)
          · cases hr
        · cases hr
      · cases hok
    · rename_i n1 n2 n3 n4 n5
      obtain ⟨q, hq, hr⟩ := Option.bind_eq_some_iff.mp hr
      have hok1 : sx_ok1 own mt pc (len, ins, w) = true := by
        split at hok
        · rename_i z; exact absurd z n1
        · rename_i z; exact absurd z n2
        · rename_i z; exact absurd z n3
        · rename_i z; exact absurd z n4
        · rename_i z; exact absurd z n5
        · exact hok
      refine sx_st_ok hF1 (I := (len, ins, w)) hd hok1 (gx_1_ok hL hq) (fun L' st2 σ2 hk => ?_)
      obtain ⟨rfl, rfl, rfl⟩ := hk
      exact ih _ _ _ _ _ _ _ hoks hr hk0 hkk h
end GXR
def gx_rfs (vs : List sx_V) : Bool := vs.all fun v => match v with
  | .inr (.inr _) => true
  | _ => false
theorem gx_rfs_args : ∀ (vs : List sx_V), gx_rfs vs = true → sx_args vs = vs.map some
  | [], _ => rfl
  | .inr (.inr a) :: vs, h => by
    have h' : gx_rfs vs = true := by
      unfold gx_rfs at h ⊢
      simpa using h
    show some _ :: sx_args vs = _
    rw [gx_rfs_args vs h']
    rfl
  | .inl _ :: vs, h => by simp [gx_rfs] at h
  | .inr (.inl _) :: vs, h => by simp [gx_rfs] at h
def gx_ex : Nat → Nat → List sx_V → Nat → Nat → gx_T → Option gx_T
  | 0, _, _, _, _, _ => none
  | f + 1, i, vs, k, k1, T => match gx_L.find? (fun q => q.1 == i) with
    | none => none
    | some q => if gx_rfs vs = true ∧ vs.length ≤ (sx_M i).2.2.1 ∧ k ≤ k1 ∧ k1 ≤ 172 then match gx_run (gx_ex f) vs k1 q.2.2 [] k T with
        | some ([], k', T') => if k' = k1 then some T' else none
        | _ => none
      else none
/-- at a method's entry -/
theorem gx_entry {X : sx_X} {i own : Nat} (hi : i < sx_Ms.length) (hcls : (sx_M i).1.cls = sx_rn own) {vs : List sx_V} {k k1 : Nat} {σ : sx_S} {P : sx_S → Prop} (hst : sx_stb X) (hrf : gx_rfs vs = true) (hvl : vs.length ≤ (sx_M i).2.2.1)
    (h : ∀ (p : Program) (e : Env) (s : State) (m : MethodId) (args : Array Value) (below : List Frame) (meth : Method) (c : Code) (L : sx_L) (R : Room), sx_Fx p s m args meth c R 0 0 X own (sx_M i) → s.heap.size = X.2.2.2.1 + k → (k1 - k ≤ R.cells ∧ gx_z k1 - gx_z k ≤ R.slots) → (∀ (j : Nat) (v : sx_V), vs[j]? = some v → L[j]? = some (some v)) → meth.sig.returnType = (sx_M i).2.2.2.1 → meth.locks = false → sx_AT p e R s m args below meth c 0 0 (MQ below (gx_Qc X k1 P) args s (k1 - k) (gx_z k1 - gx_z k) (sx_A X)) X (sx_M i).2.2.1 0 L [] (shM.take k) σ) : gx_Run X i vs k k1 σ P := by
  obtain ⟨w1, w2, w3, w4, w5, w6, w7⟩ := sx_mwords hi
  refine Met.ofW (cc := (sx_M i).2.1) (maxL := (sx_M i).2.2.1) (ret := (sx_M i).2.2.2.1) w6 rfl ?_
  intro p e s m args below meth c s₁ B hml hv
  obtain ⟨⟨rfl, hsim, hK9, hvs, hKx, hbs⟩, hsz⟩ := hv
  have hts : ∀ w ∈ sx_ws (sx_M i), w.before _ s = true := atoms_spec (ws := sx_ws (sx_M i)) B.pre
  have hown : s.vm.findClass (sx_M i).1.cls = some m.cls := findClass_of_methodNamed B.named
  have hin : meth.name = (sx_M i).1.name := (name_of_methodNamed B.named B.method).1
  have hF : sx_Fx p s m (vs.map (sx_tv X.2.2.2.2.1)).toArray meth c (headSpec (sx_ws (sx_M i)) (gx_rm (sx_M i) (k1 - k) (gx_z k1 - gx_z k))).room 0 0 X own (sx_M i) := ⟨B.exec, B.bytes, hml, by rw [← hcls]; exact hown, fun w hw => hts w (List.mem_cons_of_mem _ hw), hK9, hKx, hst, hbs, Nat.le_refl _, Nat.le_refl _, ⟨Nat.zero_le _, Nat.zero_le _⟩, hin⟩
  have ea := gx_rfs_args vs hrf
  have hlen : (sx_args vs).length ≤ (sx_M i).2.2.1 := by rw [ea, List.length_map]; exact hvl
  have hLs : ∀ (j : Nat) (v : sx_V), (sx_ent vs (sx_M i).2.2.1)[j]? = some (some v) ↔ vs[j]? = some v := fun j v => by
    unfold sx_ent
    rw [ea]
    by_cases hlt : j < vs.length
    · rw [List.getElem?_append_left (by rw [List.length_map]; exact hlt), List.getElem?_map]
      cases vs[j]? <;> simp
    · rw [List.getElem?_append_right (by rw [List.length_map]; omega), List.getElem?_replicate, List.getElem?_eq_none (by omega)]
      constructor
      · intro q
        split at q <;> cases q
      · intro q
        cases q
  have hA := h p e s m _ below meth c (sx_ent vs (sx_M i).2.2.1) _ hF hsz ⟨Nat.le_refl _, Nat.le_refl _⟩ (fun j v hv => (hLs j v).mpr hv) B.returns B.notSynchronized
  have hl := lv_entry (vs.map (sx_tv X.2.2.2.2.1)) (n := (sx_M i).2.2.1) (by rw [sx_args_len]; exact hlen)
  rw [lg_entry_eq]
  refine hA _ s.heap [] ⟨hsim, ?_, ?_, ?_, va_S.rf⟩ (fun v hv => by cases hv)
  · refine sx_lv_mono hl (fun q hq => ?_)
    obtain ⟨v, hv, he⟩ := sx_as_mem.mp hq
    have h5 := sx_ent_args vs X.2.2.2.2.1 q.1 v (by rw [ea, List.getElem?_map, (hLs _ _).mp hv]; rfl)
    rw [← he] at h5
    exact h5
  · unfold sx_ent
    simp
    omega
  · intro j v hv
    exact hvs v (List.mem_of_getElem? ((hLs j v).mp hv))
theorem gx_ret {p : Program} {e : Env} {R : Room} {s : State} {m : MethodId} {args : Array Value} {below : List Frame} {meth : Method} {c : Code} {X : sx_X} {own : Nat} {mt : sx_Mt} {L : sx_L} {σ : sx_S} {pc nc ns k1 nL : Nat} {P : sx_S → Prop} (hF : sx_Fx p s m args meth c R 0 0 X own mt) (hr : meth.sig.returnType = none) (hlk : meth.locks = false) (hd : decode mt.2.1 pc = .ok (.return_, 1)) (hP : P σ) : sx_AT p e R s m args below meth c nc ns (MQ below (gx_Qc X k1 P) args s nc ns (sx_A X)) X nL pc L [] (shM.take k1) σ := by
  intro ls H locs hG hO
  obtain ⟨hsim, hlv, hLl, hLo, hS⟩ := hG
  exact W.vret (Qc := gx_Qc X k1 P) (free := sx_A X) hF.1 hF.2.1 hr (fun t ht _ => ⟨⟨σ, rfl, hP, by rw [ht]; exact hsim⟩, hS.F ht⟩) hS.2.2 hd hlk
/-- WHAT IS RECKONED IS WHAT THE MACHINE DOES -/
theorem gx_ok {X : sx_X} (hX : gx_X X) (hN : gx_N X) (hst : sx_stb X) : ∀ (f i : Nat) (vs : List sx_V) (k k1 : Nat) (T T1 : gx_T), gx_ex f i vs k k1 T = some T1 → gx_Run X i vs k k1 (gx_s T) (fun σ' => σ' = gx_s T1) := by
  intro f
  induction f with
  | zero => intro i vs k k1 T T1 h; cases h
  | succ f ih =>
    intro i vs k k1 T T1 h
    unfold gx_ex at h
    split at h
    · cases h
    · rename_i q hq
      split at h
      · rename_i hc
        obtain ⟨hrf, hvl, hkk, hk1⟩ := hc
        split at h
        · rename_i k' T' hrun
          split at h
          · rename_i ek
            subst ek
            cases h
            have hmem := List.mem_of_find?_eq_some hq
            have hqi : q.1 = i := by simpa using List.find?_some hq
            subst hqi
            have hok := gx_Lok q hmem
            have hok2 := List.all_eq_true.mp gx_Lok2 q hmem
            simp only [Bool.and_eq_true, decide_eq_true_eq] at hok2
            obtain ⟨hi, hcls, hret, hdr⟩ := hok2
            refine gx_entry hi hcls hst hrf hvl (fun p e s m args below meth c L R hF hsz hR hL hr hlk => ?_)
            have h9 := gx_run_ok (e := e) (below := below) (Q := MQ below (gx_Qc X k' (fun σ' => σ' = gx_s T1)) args s (k' - k) (gx_z k' - gx_z k) (sx_A X)) hF hX hN hsz hk1 hR hL ih q.2.2 0 [] k T [] k' T1 hok hrun (Nat.le_refl _) hkk (fun h1 h2 => by
              rw [Nat.zero_add]
              exact gx_ret hF (by rw [hr]; exact hret) hlk hdr rfl)
            rw [Nat.sub_self, Nat.sub_self] at h9
            exact h9
          · cases h
        · cases h
      · cases h
