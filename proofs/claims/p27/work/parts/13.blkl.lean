/-! ===== BLOCKS of the methods, by program out of the claim's own listing: the law, the library ===== -/
def BL_below : Nat → List MI
  | 0 => [(.iload 0, [], 0), (.ldc 7, [], 2147483647), (.iand, [], 0), (.iload 1, [], 0), (.irem, [], 0), (.ireturn, [0], 0)]
  | _ => []
def PL_below : Nat → Nat
  | 0 => 0
  | _ => 0
def BL_cell : Nat → List MI
  | 0 => [(.iload 1, [], 0), (.aload 0, [], 0), (.arraylength, [], 0), (.if_icmp .ge 9, [1], 0), (.aload 0, [], 0), (.iload 1, [], 0), (.iaload, [], 0), (.goto 9, [2], 0)]
  | 1 => [(.ldc 8, [], 790386105), (.iload 1, [], 0), (.sipush 3, [], 0), (.iadd, [], 0), (.imul, [], 0), (.invokedynamic 4, [2], 0)]
  | 2 => [(.ireturn, [0], 0)]
  | _ => []
def PL_cell : Nat → Nat
  | 0 => 0
  | 1 => 12
  | 2 => 18
  | _ => 0
def BL_taught : Nat → List MI
  | 0 => [(.aload 0, [], 0), (.sipush 0, [], 0), (.invokevirtual 9, [107, 2], 0), (.pop, [], 0), (.sipush 0, [], 0), (.istore 2, [], 0), (.invokedynamic 4, [1], 0)]
  | 1 => [(.iload 2, [], 0), (.aload 1, [], 0), (.invokevirtual 15, [270, 1], 0), (.if_icmp .ge 89, [6], 0), (.sipush 5, [], 0), (.newarray .int, [], 0), (.astore 3, [], 0), (.sipush 0, [], 0), (.istore 4, [], 0), (.invokedynamic 4, [2], 0)]
  | 2 => [(.iload 4, [], 0), (.sipush 20, [], 0), (.if_icmp .ge 49, [5], 0), (.aload 3, [], 0), (.iload 4, [], 0), (.sipush 4, [], 0), (.idiv, [], 0), (.aload 3, [], 0), (.iload 4, [], 0), (.sipush 4, [], 0), (.idiv, [], 0), (.iaload, [], 0), (.sipush 8, [], 0), (.ishl, [], 0), (.iload 2, [], 0), (.iload 4, [], 0), (.iadd, [], 0), (.aload 1, [], 0), (.invokevirtual 15, [270, 1], 0), (.if_icmp .ge 14, [3], 0), (.aload 1, [], 0), (.iload 2, [], 0), (.iload 4, [], 0), (.iadd, [], 0), (.invokevirtual 21, [271, 2], 0), (.goto 5, [4], 0)]
  | 3 => [(.sipush 32, [], 0), (.invokedynamic 4, [4], 0)]
  | 4 => [(.ior, [], 0), (.iastore, [], 0), (.iinc 4 1, [], 0), (.goto (-50), [2], 0)]
  | 5 => [(.aload 0, [], 0), (.aload 3, [], 0), (.sipush 0, [], 0), (.iaload, [], 0), (.aload 3, [], 0), (.sipush 1, [], 0), (.iaload, [], 0), (.aload 3, [], 0), (.sipush 2, [], 0), (.iaload, [], 0), (.aload 3, [], 0), (.sipush 3, [], 0), (.iaload, [], 0), (.aload 3, [], 0), (.sipush 4, [], 0), (.iaload, [], 0), (.invokevirtual 25, [105, 6], 0), (.pop, [], 0), (.iinc 2 20, [], 0), (.goto (-91), [1], 0)]
  | 6 => [(.aload 0, [], 0), (.aload 1, [], 0), (.invokevirtual 15, [270, 1], 0), (.invokevirtual 9, [107, 2], 0), (.pop, [], 0), (.aload 0, [], 0), (.invokevirtual 29, [108, 1], 0), (.ireturn, [0], 0)]
  | _ => []
def PL_taught : Nat → Nat
  | 0 => 0
  | 1 => 8
  | 2 => 23
  | 3 => 66
  | 4 => 68
  | 5 => 76
  | 6 => 102
  | _ => 0
def BL_sum : Nat → List MI
  | 0 => [(.aload 0, [], 0), (.sipush 4, [], 0), (.iaload, [], 0), (.istore 1, [], 0), (.aload 0, [], 0), (.sipush 2, [], 0), (.iaload, [], 0), (.tableswitch 222 0 6 #[41, 63, 85, 119, 122, 166, 202], [8, 1, 2, 3, 4, 5, 6, 7], 0)]
  | 1 => [(.new 32, [11], 0), (.dup, [], 0), (.invokespecial 34, [169, 1], 0), (.ldc 35, [142], 0), (.invokevirtual 37, [167, 2], 0), (.iload 1, [], 0), (.sipush 4, [], 0), (.irem, [], 0), (.invokevirtual 41, [168, 2], 0), (.invokevirtual 44, [170, 1], 0), (.areturn, [], 0)]
  | 2 => [(.new 32, [11], 0), (.dup, [], 0), (.invokespecial 34, [169, 1], 0), (.ldc 48, [143], 0), (.invokevirtual 37, [167, 2], 0), (.aload 0, [], 0), (.sipush 5, [], 0), (.iaload, [], 0), (.invokevirtual 41, [168, 2], 0), (.invokevirtual 44, [170, 1], 0), (.areturn, [], 0)]
  | 3 => [(.new 32, [11], 0), (.dup, [], 0), (.invokespecial 34, [169, 1], 0), (.ldc 50, [144], 0), (.invokevirtual 37, [167, 2], 0), (.aload 0, [], 0), (.sipush 8, [], 0), (.iaload, [], 0), (.invokevirtual 41, [168, 2], 0), (.ldc 52, [145], 0), (.invokevirtual 37, [167, 2], 0), (.iload 1, [], 0), (.sipush 3, [], 0), (.irem, [], 0), (.invokevirtual 41, [168, 2], 0), (.invokevirtual 44, [170, 1], 0), (.areturn, [], 0)]
  | 4 => [(.ldc 54, [146], 0), (.areturn, [], 0)]
  | 5 => [(.new 32, [11], 0), (.dup, [], 0), (.invokespecial 34, [169, 1], 0), (.ldc 56, [147], 0), (.invokevirtual 37, [167, 2], 0), (.aload 0, [], 0), (.sipush 6, [], 0), (.iaload, [], 0), (.invokevirtual 41, [168, 2], 0), (.ldc 58, [148], 0), (.invokevirtual 37, [167, 2], 0), (.aload 0, [], 0), (.sipush 7, [], 0), (.iaload, [], 0), (.invokevirtual 41, [168, 2], 0), (.ldc 60, [149], 0), (.invokevirtual 37, [167, 2], 0), (.iload 1, [], 0), (.invokevirtual 41, [168, 2], 0), (.invokevirtual 44, [170, 1], 0), (.areturn, [], 0)]
  | 6 => [(.new 32, [11], 0), (.dup, [], 0), (.invokespecial 34, [169, 1], 0), (.ldc 62, [150], 0), (.invokevirtual 37, [167, 2], 0), (.aload 0, [], 0), (.sipush 5, [], 0), (.iaload, [], 0), (.invokevirtual 41, [168, 2], 0), (.ldc 64, [151], 0), (.invokevirtual 37, [167, 2], 0), (.iload 1, [], 0), (.invokevirtual 41, [168, 2], 0), (.ldc 66, [152], 0), (.invokevirtual 37, [167, 2], 0), (.invokevirtual 44, [170, 1], 0), (.areturn, [], 0)]
  | 7 => [(.new 32, [11], 0), (.dup, [], 0), (.invokespecial 34, [169, 1], 0), (.ldc 68, [153], 0), (.invokevirtual 37, [167, 2], 0), (.iload 1, [], 0), (.invokevirtual 41, [168, 2], 0), (.invokevirtual 44, [170, 1], 0), (.areturn, [], 0)]
  | 8 => [(.new 32, [11], 0), (.dup, [], 0), (.invokespecial 34, [169, 1], 0), (.ldc 70, [154], 0), (.invokevirtual 37, [167, 2], 0), (.iload 1, [], 0), (.invokevirtual 41, [168, 2], 0), (.ldc 72, [155], 0), (.invokevirtual 37, [167, 2], 0), (.invokevirtual 44, [170, 1], 0), (.areturn, [], 0)]
  | _ => []
def PL_sum : Nat → Nat
  | 0 => 0
  | 1 => 48
  | 2 => 70
  | 3 => 92
  | 4 => 126
  | 5 => 129
  | 6 => 173
  | 7 => 209
  | 8 => 229
  | _ => 0
def BL_when : Nat → List MI
  | 0 => [(.aload 0, [], 0), (.sipush 4, [], 0), (.iaload, [], 0), (.istore 1, [], 0), (.new 32, [11], 0), (.dup, [], 0), (.invokespecial 34, [169, 1], 0), (.ldc 74, [156], 0), (.invokevirtual 37, [167, 2], 0), (.aload 0, [], 0), (.sipush 5, [], 0), (.iaload, [], 0), (.invokevirtual 41, [168, 2], 0), (.invokevirtual 44, [170, 1], 0), (.astore 2, [], 0), (.aload 0, [], 0), (.sipush 3, [], 0), (.iaload, [], 0), (.tableswitch 327 0 7 #[47, 67, 87, 121, 156, 191, 225, 269], [9, 1, 2, 3, 4, 5, 6, 7, 8], 0)]
  | 1 => [(.new 32, [11], 0), (.dup, [], 0), (.invokespecial 34, [169, 1], 0), (.ldc 76, [157], 0), (.invokevirtual 37, [167, 2], 0), (.iload 1, [], 0), (.invokevirtual 41, [168, 2], 0), (.invokevirtual 44, [170, 1], 0), (.areturn, [], 0)]
  | 2 => [(.new 32, [11], 0), (.dup, [], 0), (.invokespecial 34, [169, 1], 0), (.ldc 78, [158], 0), (.invokevirtual 37, [167, 2], 0), (.aload 2, [], 0), (.invokevirtual 37, [167, 2], 0), (.invokevirtual 44, [170, 1], 0), (.areturn, [], 0)]
  | 3 => [(.new 32, [11], 0), (.dup, [], 0), (.invokespecial 34, [169, 1], 0), (.ldc 80, [159], 0), (.invokevirtual 37, [167, 2], 0), (.aload 2, [], 0), (.invokevirtual 37, [167, 2], 0), (.ldc 82, [160], 0), (.invokevirtual 37, [167, 2], 0), (.aload 2, [], 0), (.invokevirtual 37, [167, 2], 0), (.ldc 84, [161], 0), (.invokevirtual 37, [167, 2], 0), (.invokevirtual 44, [170, 1], 0), (.areturn, [], 0)]
  | 4 => [(.new 32, [11], 0), (.dup, [], 0), (.invokespecial 34, [169, 1], 0), (.ldc 86, [162], 0), (.invokevirtual 37, [167, 2], 0), (.aload 0, [], 0), (.sipush 6, [], 0), (.iaload, [], 0), (.invokevirtual 41, [168, 2], 0), (.ldc 88, [163], 0), (.invokevirtual 37, [167, 2], 0), (.aload 0, [], 0), (.sipush 8, [], 0), (.iaload, [], 0), (.invokevirtual 41, [168, 2], 0), (.invokevirtual 44, [170, 1], 0), (.areturn, [], 0)]
  | 5 => [(.new 32, [11], 0), (.dup, [], 0), (.invokespecial 34, [169, 1], 0), (.ldc 90, [164], 0), (.invokevirtual 37, [167, 2], 0), (.aload 0, [], 0), (.sipush 6, [], 0), (.iaload, [], 0), (.invokevirtual 41, [168, 2], 0), (.ldc 58, [148], 0), (.invokevirtual 37, [167, 2], 0), (.aload 0, [], 0), (.sipush 7, [], 0), (.iaload, [], 0), (.invokevirtual 41, [168, 2], 0), (.invokevirtual 44, [170, 1], 0), (.areturn, [], 0)]
  | 6 => [(.new 32, [11], 0), (.dup, [], 0), (.invokespecial 34, [169, 1], 0), (.ldc 92, [165], 0), (.invokevirtual 37, [167, 2], 0), (.aload 0, [], 0), (.sipush 8, [], 0), (.iaload, [], 0), (.invokevirtual 41, [168, 2], 0), (.ldc 94, [166], 0), (.invokevirtual 37, [167, 2], 0), (.iload 1, [], 0), (.sipush 4, [], 0), (.irem, [], 0), (.invokevirtual 41, [168, 2], 0), (.invokevirtual 44, [170, 1], 0), (.areturn, [], 0)]
  | 7 => [(.new 32, [11], 0), (.dup, [], 0), (.invokespecial 34, [169, 1], 0), (.ldc 96, [167], 0), (.invokevirtual 37, [167, 2], 0), (.aload 0, [], 0), (.sipush 6, [], 0), (.iaload, [], 0), (.invokevirtual 41, [168, 2], 0), (.ldc 58, [148], 0), (.invokevirtual 37, [167, 2], 0), (.aload 0, [], 0), (.sipush 7, [], 0), (.iaload, [], 0), (.invokevirtual 41, [168, 2], 0), (.ldc 98, [168], 0), (.invokevirtual 37, [167, 2], 0), (.iload 1, [], 0), (.invokevirtual 41, [168, 2], 0), (.invokevirtual 44, [170, 1], 0), (.areturn, [], 0)]
  | 8 => [(.new 32, [11], 0), (.dup, [], 0), (.invokespecial 34, [169, 1], 0), (.ldc 100, [169], 0), (.invokevirtual 37, [167, 2], 0), (.aload 0, [], 0), (.sipush 7, [], 0), (.iaload, [], 0), (.invokevirtual 41, [168, 2], 0), (.ldc 88, [163], 0), (.invokevirtual 37, [167, 2], 0), (.aload 0, [], 0), (.sipush 8, [], 0), (.iaload, [], 0), (.invokevirtual 41, [168, 2], 0), (.ldc 102, [170], 0), (.invokevirtual 37, [167, 2], 0), (.aload 2, [], 0), (.invokevirtual 37, [167, 2], 0), (.ldc 104, [171], 0), (.invokevirtual 37, [167, 2], 0), (.iload 1, [], 0), (.invokevirtual 41, [168, 2], 0), (.ldc 106, [172], 0), (.invokevirtual 37, [167, 2], 0), (.invokevirtual 44, [170, 1], 0), (.areturn, [], 0)]
  | 9 => [(.new 32, [11], 0), (.dup, [], 0), (.invokespecial 34, [169, 1], 0), (.ldc 108, [173], 0), (.invokevirtual 37, [167, 2], 0), (.iload 1, [], 0), (.invokevirtual 41, [168, 2], 0), (.ldc 110, [174], 0), (.invokevirtual 37, [167, 2], 0), (.iload 1, [], 0), (.invokevirtual 41, [168, 2], 0), (.invokevirtual 44, [170, 1], 0), (.areturn, [], 0)]
  | _ => []
def PL_when : Nat → Nat
  | 0 => 0
  | 1 => 76
  | 2 => 96
  | 3 => 116
  | 4 => 150
  | 5 => 185
  | 6 => 220
  | 7 => 254
  | 8 => 298
  | 9 => 356
  | _ => 0
def BL_list : Nat → List MI
  | 0 => [(.new 112, [10], 0), (.dup, [], 0), (.invokespecial 114, [109, 1], 0), (.astore 2, [], 0), (.aload 2, [], 0), (.sipush 2, [], 0), (.aload 0, [], 0), (.sipush 0, [], 0), (.invokestatic 115, [156, 2], 0), (.sipush 8, [], 0), (.invokestatic 121, [155, 2], 0), (.iadd, [], 0), (.putfield 125, [10, 3, 0], 0), (.sipush 0, [], 0), (.istore 3, [], 0), (.invokedynamic 4, [1], 0)]
  | 1 => [(.iload 3, [], 0), (.aload 2, [], 0), (.getfield 125, [10, 3, 0], 0), (.if_icmp .ge 36, [4], 0), (.aload 1, [], 0), (.ldc 129, [175], 0), (.invokevirtual 37, [167, 2], 0), (.iload 3, [], 0), (.invokevirtual 41, [168, 2], 0), (.iload 3, [], 0), (.sipush 3, [], 0), (.irem, [], 0), (.ifCond .ne 8, [2], 0), (.ldc 131, [176], 0), (.goto 5, [3], 0)]
  | 2 => [(.ldc 133, [177], 0), (.invokedynamic 4, [3], 0)]
  | 3 => [(.invokevirtual 37, [167, 2], 0), (.pop, [], 0), (.iinc 3 1, [], 0), (.goto (-38), [1], 0)]
  | 4 => [(.aload 2, [], 0), (.sipush 1, [], 0), (.aload 0, [], 0), (.sipush 1, [], 0), (.invokestatic 115, [156, 2], 0), (.sipush 13, [], 0), (.invokestatic 121, [155, 2], 0), (.iadd, [], 0), (.anewarray 135, [1], 0), (.putfield 137, [10, 4, 2], 0), (.sipush 0, [], 0), (.istore 3, [], 0), (.invokedynamic 4, [5], 0)]
  | 5 => [(.iload 3, [], 0), (.aload 2, [], 0), (.getfield 137, [10, 4, 2], 0), (.arraylength, [], 0), (.if_icmp .ge 184, [10], 0), (.aload 0, [], 0), (.sipush 1, [], 0), (.iload 3, [], 0), (.sipush 5, [], 0), (.irem, [], 0), (.iadd, [], 0), (.invokestatic 115, [156, 2], 0), (.iload 3, [], 0), (.sipush 5, [], 0), (.idiv, [], 0), (.sipush 9, [], 0), (.imul, [], 0), (.ishr, [], 0), (.istore 4, [], 0), (.iload 4, [], 0), (.aload 2, [], 0), (.getfield 125, [10, 3, 0], 0), (.invokestatic 121, [155, 2], 0), (.istore 5, [], 0), (.iload 5, [], 0), (.sipush 1, [], 0), (.iadd, [], 0), (.iload 4, [], 0), (.sipush 3, [], 0), (.ishr, [], 0), (.iload 4, [], 0), (.sipush 5, [], 0), (.ishr, [], 0), (.sipush 2, [], 0), (.invokestatic 121, [155, 2], 0), (.ifCond .ne 7, [6], 0), (.sipush 1, [], 0), (.goto 9, [7], 0)]
  | 6 => [(.aload 2, [], 0), (.getfield 125, [10, 3, 0], 0), (.sipush 1, [], 0), (.isub, [], 0), (.invokedynamic 4, [7], 0)]
  | 7 => [(.invokestatic 121, [155, 2], 0), (.iadd, [], 0), (.aload 2, [], 0), (.getfield 125, [10, 3, 0], 0), (.irem, [], 0), (.istore 6, [], 0), (.aload 2, [], 0), (.getfield 137, [10, 4, 2], 0), (.iload 3, [], 0), (.sipush 4, [], 0), (.newarray .int, [], 0), (.dup, [], 0), (.sipush 0, [], 0), (.iload 5, [], 0), (.iastore, [], 0), (.dup, [], 0), (.sipush 1, [], 0), (.iload 6, [], 0), (.iastore, [], 0), (.dup, [], 0), (.sipush 2, [], 0), (.sipush 1, [], 0), (.iload 4, [], 0), (.sipush 4, [], 0), (.ishr, [], 0), (.iload 4, [], 0), (.sipush 6, [], 0), (.ishr, [], 0), (.sipush 3, [], 0), (.invokestatic 121, [155, 2], 0), (.ifCond .ne 8, [8], 0), (.sipush 30, [], 0), (.goto 5, [9], 0)]
  | 8 => [(.sipush 7, [], 0), (.invokedynamic 4, [9], 0)]
  | 9 => [(.invokestatic 121, [155, 2], 0), (.iadd, [], 0), (.iastore, [], 0), (.dup, [], 0), (.sipush 3, [], 0), (.sipush 0, [], 0), (.iastore, [], 0), (.aastore, [], 0), (.aload 1, [], 0), (.ldc 141, [178], 0), (.invokevirtual 37, [167, 2], 0), (.iload 3, [], 0), (.invokevirtual 41, [168, 2], 0), (.ldc 143, [179], 0), (.invokevirtual 37, [167, 2], 0), (.iload 5, [], 0), (.invokevirtual 41, [168, 2], 0), (.ldc 145, [180], 0), (.invokevirtual 37, [167, 2], 0), (.iload 6, [], 0), (.invokevirtual 41, [168, 2], 0), (.ldc 147, [181], 0), (.invokevirtual 37, [167, 2], 0), (.aload 2, [], 0), (.getfield 137, [10, 4, 2], 0), (.iload 3, [], 0), (.aaload, [], 0), (.sipush 2, [], 0), (.iaload, [], 0), (.invokevirtual 41, [168, 2], 0), (.ldc 133, [177], 0), (.invokevirtual 37, [167, 2], 0), (.pop, [], 0), (.iinc 3 1, [], 0), (.goto (-187), [5], 0)]
  | 10 => [(.aload 2, [], 0), (.sipush 1, [], 0), (.aload 0, [], 0), (.sipush 6, [], 0), (.invokestatic 115, [156, 2], 0), (.sipush 4, [], 0), (.invokestatic 121, [155, 2], 0), (.iadd, [], 0), (.anewarray 135, [1], 0), (.putfield 149, [10, 5, 2], 0), (.sipush 0, [], 0), (.istore 3, [], 0), (.invokedynamic 4, [11], 0)]
  | 11 => [(.iload 3, [], 0), (.aload 2, [], 0), (.getfield 149, [10, 5, 2], 0), (.arraylength, [], 0), (.if_icmp .ge 104, [12], 0), (.aload 0, [], 0), (.sipush 6, [], 0), (.invokestatic 115, [156, 2], 0), (.sipush 2, [], 0), (.sipush 5, [], 0), (.iload 3, [], 0), (.imul, [], 0), (.iadd, [], 0), (.ishr, [], 0), (.istore 4, [], 0), (.aload 2, [], 0), (.getfield 149, [10, 5, 2], 0), (.iload 3, [], 0), (.sipush 2, [], 0), (.newarray .int, [], 0), (.dup, [], 0), (.sipush 0, [], 0), (.iload 4, [], 0), (.aload 2, [], 0), (.getfield 125, [10, 3, 0], 0), (.invokestatic 121, [155, 2], 0), (.iastore, [], 0), (.dup, [], 0), (.sipush 1, [], 0), (.iload 4, [], 0), (.sipush 3, [], 0), (.ishr, [], 0), (.sipush 9, [], 0), (.invokestatic 121, [155, 2], 0), (.iastore, [], 0), (.aastore, [], 0), (.aload 1, [], 0), (.ldc 152, [182], 0), (.invokevirtual 37, [167, 2], 0), (.iload 3, [], 0), (.invokevirtual 41, [168, 2], 0), (.ldc 154, [183], 0), (.invokevirtual 37, [167, 2], 0), (.aload 2, [], 0), (.getfield 149, [10, 5, 2], 0), (.iload 3, [], 0), (.aaload, [], 0), (.sipush 0, [], 0), (.iaload, [], 0), (.invokevirtual 41, [168, 2], 0), (.ldc 156, [184], 0), (.invokevirtual 37, [167, 2], 0), (.aload 2, [], 0), (.getfield 149, [10, 5, 2], 0), (.iload 3, [], 0), (.aaload, [], 0), (.sipush 1, [], 0), (.iaload, [], 0), (.invokevirtual 41, [168, 2], 0), (.ldc 133, [177], 0), (.invokevirtual 37, [167, 2], 0), (.pop, [], 0), (.iinc 3 1, [], 0), (.goto (-107), [11], 0)]
  | 12 => [(.aload 2, [], 0), (.aload 2, [], 0), (.getfield 125, [10, 3, 0], 0), (.aload 2, [], 0), (.getfield 149, [10, 5, 2], 0), (.arraylength, [], 0), (.multianewarray 158 2, [0], 0), (.putfield 159, [10, 6, 2], 0), (.aload 2, [], 0), (.getfield 159, [10, 6, 2], 0), (.astore 3, [], 0), (.aload 3, [], 0), (.arraylength, [], 0), (.istore 4, [], 0), (.sipush 0, [], 0), (.istore 5, [], 0), (.invokedynamic 4, [13], 0)]
  | 13 => [(.iload 5, [], 0), (.iload 4, [], 0), (.if_icmp .ge 21, [14], 0), (.aload 3, [], 0), (.iload 5, [], 0), (.aaload, [], 0), (.astore 6, [], 0), (.aload 6, [], 0), (.sipush (-1), [], 0), (.invokestatic 162, [282, 2], 0), (.iinc 5 1, [], 0), (.goto (-22), [13], 0)]
  | 14 => [(.aload 2, [], 0), (.aload 2, [], 0), (.getfield 125, [10, 3, 0], 0), (.aload 2, [], 0), (.getfield 149, [10, 5, 2], 0), (.arraylength, [], 0), (.multianewarray 168 2, [3], 0), (.putfield 170, [10, 7, 2], 0), (.aload 2, [], 0), (.aload 2, [], 0), (.getfield 125, [10, 3, 0], 0), (.newarray .boolean, [], 0), (.putfield 173, [10, 8, 2], 0), (.aload 2, [], 0), (.aload 0, [], 0), (.sipush 7, [], 0), (.invokestatic 115, [156, 2], 0), (.sipush 7, [], 0), (.invokestatic 121, [155, 2], 0), (.anewarray 135, [1], 0), (.putfield 177, [10, 10, 2], 0), (.sipush 0, [], 0), (.istore 3, [], 0), (.invokedynamic 4, [15], 0)]
  | 15 => [(.iload 3, [], 0), (.aload 2, [], 0), (.getfield 177, [10, 10, 2], 0), (.arraylength, [], 0), (.if_icmp .ge 292, [21], 0), (.aload 0, [], 0), (.sipush 8, [], 0), (.iload 3, [], 0), (.sipush 8, [], 0), (.irem, [], 0), (.iadd, [], 0), (.invokestatic 115, [156, 2], 0), (.sipush 1, [], 0), (.ishr, [], 0), (.istore 4, [], 0), (.iload 4, [], 0), (.sipush 3, [], 0), (.invokestatic 121, [155, 2], 0), (.istore 5, [], 0), (.iload 4, [], 0), (.sipush 2, [], 0), (.ishr, [], 0), (.iload 5, [], 0), (.sipush 2, [], 0), (.if_icmp .ne 10, [16], 0), (.aload 2, [], 0), (.getfield 125, [10, 3, 0], 0), (.goto 8, [17], 0)]
  | 16 => [(.aload 2, [], 0), (.getfield 137, [10, 4, 2], 0), (.arraylength, [], 0), (.invokedynamic 4, [17], 0)]
  | 17 => [(.invokestatic 121, [155, 2], 0), (.istore 6, [], 0), (.sipush 9, [], 0), (.newarray .int, [], 0), (.dup, [], 0), (.sipush 0, [], 0), (.iload 5, [], 0), (.iastore, [], 0), (.dup, [], 0), (.sipush 1, [], 0), (.iload 6, [], 0), (.iastore, [], 0), (.dup, [], 0), (.sipush 2, [], 0), (.iload 4, [], 0), (.sipush 3, [], 0), (.ishr, [], 0), (.sipush 8, [], 0), (.invokestatic 121, [155, 2], 0), (.iastore, [], 0), (.dup, [], 0), (.sipush 3, [], 0), (.iload 4, [], 0), (.sipush 5, [], 0), (.ishr, [], 0), (.sipush 9, [], 0), (.invokestatic 121, [155, 2], 0), (.iastore, [], 0), (.dup, [], 0), (.sipush 4, [], 0), (.iload 4, [], 0), (.sipush 4, [], 0), (.ishr, [], 0), (.sipush 9, [], 0), (.invokestatic 121, [155, 2], 0), (.iastore, [], 0), (.dup, [], 0), (.sipush 5, [], 0), (.iload 4, [], 0), (.sipush 6, [], 0), (.ishr, [], 0), (.aload 2, [], 0), (.getfield 137, [10, 4, 2], 0), (.arraylength, [], 0), (.invokestatic 121, [155, 2], 0), (.iastore, [], 0), (.dup, [], 0), (.sipush 6, [], 0), (.iload 4, [], 0), (.sipush 7, [], 0), (.ishr, [], 0), (.aload 2, [], 0), (.getfield 125, [10, 3, 0], 0), (.invokestatic 121, [155, 2], 0), (.iastore, [], 0), (.dup, [], 0), (.sipush 7, [], 0), (.iload 4, [], 0), (.sipush 8, [], 0), (.ishr, [], 0), (.aload 2, [], 0), (.getfield 125, [10, 3, 0], 0), (.invokestatic 121, [155, 2], 0), (.iastore, [], 0), (.dup, [], 0), (.sipush 8, [], 0), (.iload 4, [], 0), (.sipush 9, [], 0), (.ishr, [], 0), (.aload 2, [], 0), (.getfield 149, [10, 5, 2], 0), (.arraylength, [], 0), (.invokestatic 121, [155, 2], 0), (.iastore, [], 0), (.astore 7, [], 0), (.aload 2, [], 0), (.getfield 177, [10, 10, 2], 0), (.iload 3, [], 0), (.aload 7, [], 0), (.aastore, [], 0), (.aload 1, [], 0), (.iload 5, [], 0), (.ifCond .ne 39, [18], 0), (.new 32, [11], 0), (.dup, [], 0), (.invokespecial 34, [169, 1], 0), (.ldc 180, [185], 0), (.invokevirtual 37, [167, 2], 0), (.iload 6, [], 0), (.invokevirtual 41, [168, 2], 0), (.ldc 182, [186], 0), (.invokevirtual 37, [167, 2], 0), (.aload 7, [], 0), (.invokestatic 184, [158, 1], 0), (.invokevirtual 37, [167, 2], 0), (.invokevirtual 44, [170, 1], 0), (.goto 52, [20], 0)]
  | 18 => [(.iload 5, [], 0), (.sipush 1, [], 0), (.if_icmp .ne 26, [19], 0), (.new 32, [11], 0), (.dup, [], 0), (.invokespecial 34, [169, 1], 0), (.ldc 188, [187], 0), (.invokevirtual 37, [167, 2], 0), (.iload 6, [], 0), (.invokevirtual 41, [168, 2], 0), (.invokevirtual 44, [170, 1], 0), (.goto 23, [20], 0)]
  | 19 => [(.new 32, [11], 0), (.dup, [], 0), (.invokespecial 34, [169, 1], 0), (.ldc 190, [188], 0), (.invokevirtual 37, [167, 2], 0), (.iload 6, [], 0), (.invokevirtual 41, [168, 2], 0), (.invokevirtual 44, [170, 1], 0), (.invokedynamic 4, [20], 0)]
  | 20 => [(.invokevirtual 37, [167, 2], 0), (.aload 7, [], 0), (.invokestatic 192, [159, 1], 0), (.invokevirtual 37, [167, 2], 0), (.ldc 195, [189], 0), (.invokevirtual 37, [167, 2], 0), (.pop, [], 0), (.iinc 3 1, [], 0), (.goto (-295), [15], 0)]
  | 21 => [(.aload 2, [], 0), (.areturn, [], 0)]
  | _ => []
def PL_list : Nat → Nat
  | 0 => 0
  | 1 => 26
  | 2 => 55
  | 3 => 57
  | 4 => 67
  | 5 => 88
  | 6 => 149
  | 7 => 155
  | 8 => 208
  | 9 => 210
  | 10 => 278
  | 11 => 299
  | 12 => 409
  | 13 => 438
  | 14 => 463
  | 15 => 510
  | 16 => 559
  | 17 => 564
  | 18 => 736
  | 19 => 765
  | 20 => 785
  | 21 => 808
  | _ => 0
def BL_act : Nat → List MI
  | 0 => [(.iload 2, [], 0), (.sipush 3, [], 0), (.ishr, [], 0), (.aload 1, [], 0), (.getfield 137, [10, 4, 2], 0), (.arraylength, [], 0), (.invokestatic 121, [155, 2], 0), (.istore 3, [], 0), (.iload 2, [], 0), (.sipush 12, [], 0), (.invokestatic 121, [155, 2], 0), (.tableswitch 322 0 5 #[38, 38, 96, 96, 174, 254], [26, 1, 1, 4, 4, 14, 21], 0)]
  | 1 => [(.sipush 1, [], 0), (.iload 2, [], 0), (.sipush 5, [], 0), (.ishr, [], 0), (.sipush 3, [], 0), (.invokestatic 121, [155, 2], 0), (.iadd, [], 0), (.istore 5, [], 0), (.aload 1, [], 0), (.getfield 137, [10, 4, 2], 0), (.iload 3, [], 0), (.aaload, [], 0), (.sipush 3, [], 0), (.sipush 3, [], 0), (.aload 1, [], 0), (.getfield 137, [10, 4, 2], 0), (.iload 3, [], 0), (.aaload, [], 0), (.sipush 3, [], 0), (.iaload, [], 0), (.iload 5, [], 0), (.iadd, [], 0), (.invokedynamic 2, [197], 0), (.iastore, [], 0), (.aload 0, [], 0), (.iload 3, [], 0), (.iload 5, [], 0), (.invokevirtual 202, [126, 3], 0), (.aload 1, [], 0), (.getfield 137, [10, 4, 2], 0), (.iload 3, [], 0), (.aaload, [], 0), (.sipush 3, [], 0), (.iaload, [], 0), (.if_icmp .ne 7, [2], 0), (.sipush 1, [], 0), (.goto 4, [3], 0)]
  | 2 => [(.sipush 0, [], 0), (.invokedynamic 4, [3], 0)]
  | 3 => [(.ireturn, [1], 0)]
  | 4 => [(.aload 1, [], 0), (.getfield 137, [10, 4, 2], 0), (.iload 3, [], 0), (.aaload, [], 0), (.sipush 3, [], 0), (.iaload, [], 0), (.ifCond .le 7, [5], 0), (.sipush 1, [], 0), (.goto 4, [6], 0)]
  | 5 => [(.sipush 0, [], 0), (.invokedynamic 4, [6], 0)]
  | 6 => [(.istore 5, [], 0), (.iload 5, [], 0), (.ifCond .eq 15, [7], 0), (.aload 1, [], 0), (.getfield 137, [10, 4, 2], 0), (.iload 3, [], 0), (.aaload, [], 0), (.sipush 3, [], 0), (.dup2, [], 0), (.iaload, [], 0), (.sipush 1, [], 0), (.isub, [], 0), (.iastore, [], 0), (.invokedynamic 4, [7], 0)]
  | 7 => [(.aload 0, [], 0), (.iload 3, [], 0), (.invokevirtual 205, [127, 2, 0, 8], 0), (.istore 4, [], 0), (.goto 8, [9], 0)]
  | 8 => [(.astore 6, [], 0), (.sipush (-1), [], 0), (.istore 4, [], 0), (.invokedynamic 4, [9], 0)]
  | 9 => [(.iload 4, [], 0), (.iload 5, [], 0), (.ifCond .eq 14, [10], 0), (.aload 1, [], 0), (.getfield 137, [10, 4, 2], 0), (.iload 3, [], 0), (.aaload, [], 0), (.sipush 3, [], 0), (.iaload, [], 0), (.goto 4, [11], 0)]
  | 10 => [(.sipush (-1), [], 0), (.invokedynamic 4, [11], 0)]
  | 11 => [(.if_icmp .ne 7, [12], 0), (.sipush 1, [], 0), (.goto 4, [13], 0)]
  | 12 => [(.sipush 0, [], 0), (.invokedynamic 4, [13], 0)]
  | 13 => [(.ireturn, [1], 0)]
  | 14 => [(.iload 2, [], 0), (.sipush 4, [], 0), (.ishr, [], 0), (.aload 1, [], 0), (.getfield 125, [10, 3, 0], 0), (.invokestatic 121, [155, 2], 0), (.istore 5, [], 0), (.iload 2, [], 0), (.sipush 6, [], 0), (.ishr, [], 0), (.aload 1, [], 0), (.getfield 149, [10, 5, 2], 0), (.arraylength, [], 0), (.invokestatic 121, [155, 2], 0), (.istore 6, [], 0), (.aload 1, [], 0), (.iload 5, [], 0), (.iload 6, [], 0), (.invokevirtual 210, [151, 3], 0), (.istore 7, [], 0), (.aload 0, [], 0), (.iload 5, [], 0), (.iload 6, [], 0), (.invokevirtual 214, [128, 3, 0, 15], 0), (.istore 4, [], 0), (.goto 8, [16], 0)]
  | 15 => [(.astore 8, [], 0), (.sipush (-1), [], 0), (.istore 4, [], 0), (.invokedynamic 4, [16], 0)]
  | 16 => [(.iload 4, [], 0), (.iload 7, [], 0), (.ifCond .eq 12, [17], 0), (.aload 1, [], 0), (.iload 6, [], 0), (.invokevirtual 217, [146, 2], 0), (.goto 4, [18], 0)]
  | 17 => [(.sipush (-1), [], 0), (.invokedynamic 4, [18], 0)]
  | 18 => [(.if_icmp .ne 7, [19], 0), (.sipush 1, [], 0), (.goto 4, [20], 0)]
  | 19 => [(.sipush 0, [], 0), (.invokedynamic 4, [20], 0)]
  | 20 => [(.ireturn, [1], 0)]
  | 21 => [(.aload 1, [], 0), (.getfield 137, [10, 4, 2], 0), (.iload 3, [], 0), (.aaload, [], 0), (.sipush 2, [], 0), (.iaload, [], 0), (.istore 5, [], 0), (.aload 1, [], 0), (.getfield 137, [10, 4, 2], 0), (.iload 3, [], 0), (.aaload, [], 0), (.sipush 2, [], 0), (.sipush 1, [], 0), (.iload 2, [], 0), (.sipush 5, [], 0), (.ishr, [], 0), (.iload 2, [], 0), (.sipush 7, [], 0), (.ishr, [], 0), (.sipush 3, [], 0), (.invokestatic 121, [155, 2], 0), (.ifCond .ne 8, [22], 0), (.sipush 30, [], 0), (.goto 5, [23], 0)]
  | 22 => [(.sipush 6, [], 0), (.invokedynamic 4, [23], 0)]
  | 23 => [(.invokestatic 121, [155, 2], 0), (.iadd, [], 0), (.iastore, [], 0), (.aload 0, [], 0), (.iload 3, [], 0), (.aload 1, [], 0), (.getfield 137, [10, 4, 2], 0), (.iload 3, [], 0), (.aaload, [], 0), (.sipush 2, [], 0), (.iaload, [], 0), (.invokevirtual 220, [129, 3], 0), (.iload 5, [], 0), (.if_icmp .ne 7, [24], 0), (.sipush 1, [], 0), (.goto 4, [25], 0)]
  | 24 => [(.sipush 0, [], 0), (.invokedynamic 4, [25], 0)]
  | 25 => [(.ireturn, [1], 0)]
  | 26 => [(.sipush 1, [], 0), (.iload 2, [], 0), (.sipush 4, [], 0), (.ishr, [], 0), (.iload 2, [], 0), (.sipush 8, [], 0), (.ishr, [], 0), (.sipush 4, [], 0), (.invokestatic 121, [155, 2], 0), (.ifCond .ne 8, [27], 0), (.sipush 20, [], 0), (.goto 4, [28], 0)]
  | 27 => [(.sipush 3, [], 0), (.invokedynamic 4, [28], 0)]
  | 28 => [(.invokestatic 121, [155, 2], 0), (.iadd, [], 0), (.istore 5, [], 0), (.aload 0, [], 0), (.iload 5, [], 0), (.invokevirtual 223, [130, 2], 0), (.aload 1, [], 0), (.iload 5, [], 0), (.invokevirtual 226, [152, 2], 0), (.if_icmp .ne 7, [29], 0), (.sipush 1, [], 0), (.goto 4, [30], 0)]
  | 29 => [(.sipush 0, [], 0), (.invokedynamic 4, [30], 0)]
  | 30 => [(.ireturn, [1], 0)]
  | _ => []
def PL_act : Nat → Nat
  | 0 => 0
  | 1 => 56
  | 2 => 112
  | 3 => 113
  | 4 => 114
  | 5 => 129
  | 6 => 130
  | 7 => 149
  | 8 => 159
  | 9 => 164
  | 10 => 182
  | 11 => 183
  | 12 => 190
  | 13 => 191
  | 14 => 192
  | 15 => 241
  | 16 => 246
  | 17 => 262
  | 18 => 263
  | 19 => 270
  | 20 => 271
  | 21 => 272
  | 22 => 309
  | 23 => 311
  | 24 => 338
  | 25 => 339
  | 26 => 340
  | 27 => 360
  | 28 => 361
  | 29 => 386
  | 30 => 387
  | _ => 0
def BL_leads : Nat → List MI
  | 0 => [(.sipush 0, [], 0), (.istore 4, [], 0), (.invokedynamic 4, [1], 0)]
  | 1 => [(.iload 4, [], 0), (.aload 0, [], 0), (.sipush 2, [], 0), (.invokevirtual 236, [110, 2], 0), (.if_icmp .ge 89, [7], 0), (.aload 0, [], 0), (.iload 4, [], 0), (.sipush 0, [], 0), (.invokevirtual 260, [114, 3], 0), (.iload 1, [], 0), (.if_icmp .ne 14, [2], 0), (.aload 0, [], 0), (.iload 4, [], 0), (.sipush 1, [], 0), (.invokevirtual 260, [114, 3], 0), (.iload 2, [], 0), (.if_icmp .eq 25, [3], 0), (.invokedynamic 4, [2], 0)]
  | 2 => [(.aload 0, [], 0), (.iload 4, [], 0), (.sipush 0, [], 0), (.invokevirtual 260, [114, 3], 0), (.iload 2, [], 0), (.if_icmp .ne 18, [4], 0), (.aload 0, [], 0), (.iload 4, [], 0), (.sipush 1, [], 0), (.invokevirtual 260, [114, 3], 0), (.iload 1, [], 0), (.if_icmp .ne 7, [4], 0), (.invokedynamic 4, [3], 0)]
  | 3 => [(.sipush 1, [], 0), (.goto 4, [5], 0)]
  | 4 => [(.sipush 0, [], 0), (.invokedynamic 4, [5], 0)]
  | 5 => [(.istore 5, [], 0), (.iload 5, [], 0), (.ifCond .eq 27, [6], 0), (.aload 0, [], 0), (.iload 4, [], 0), (.sipush 5, [], 0), (.invokevirtual 260, [114, 3], 0), (.sipush 1, [], 0), (.if_icmp .ne 16, [6], 0), (.aload 0, [], 0), (.iload 4, [], 0), (.sipush 4, [], 0), (.invokevirtual 260, [114, 3], 0), (.iload 3, [], 0), (.if_icmp .ne 5, [6], 0), (.sipush 1, [], 0), (.ireturn, [1], 0)]
  | 6 => [(.iinc 4 1, [], 0), (.goto (-93), [1], 0)]
  | 7 => [(.sipush 0, [], 0), (.ireturn, [1], 0)]
  | _ => []
def PL_leads : Nat → Nat
  | 0 => 0
  | 1 => 3
  | 2 => 35
  | 3 => 57
  | 4 => 61
  | 5 => 62
  | 6 => 93
  | 7 => 99
  | _ => 0
def BJ0_getBytes_840e7 : Nat → List MI
  | 0 => [(.aload 0, [], 0), (.invokevirtual 335, [274, 1], 0), (.iload 3, [], 0), (.if_icmp .ne 23, [1], 0), (.aload 0, [], 0), (.getfield 9, [99, 53, 0], 0), (.sipush 0, [], 0), (.aload 1, [], 0), (.iload 2, [], 0), (.iload 3, [], 0), (.ishl, [], 0), (.aload 0, [], 0), (.getfield 9, [99, 53, 0], 0), (.arraylength, [], 0), (.invokedynamic 0, [212], 0), (.goto 18, [2], 0)]
  | 1 => [(.aload 0, [], 0), (.getfield 9, [99, 53, 0], 0), (.sipush 0, [], 0), (.aload 1, [], 0), (.iload 2, [], 0), (.aload 0, [], 0), (.getfield 9, [99, 53, 0], 0), (.arraylength, [], 0), (.invokedynamic 9, [], 0)]
  | 2 => [(.return_, [], 0)]
  | _ => []
def PJ0_getBytes_840e7 : Nat → Nat
  | 0 => 0
  | 1 => 28
  | 2 => 43
  | _ => 0
def BJ0_init_81219 : Nat → List MI
  | 0 => [(.aload 0, [], 0), (.aload 1, [], 0), (.aconst_null, [], 0), (.invokespecial 489, [165, 3], 0), (.return_, [], 0)]
  | _ => []
def PJ0_init_81219 : Nat → Nat
  | 0 => 0
  | _ => 0
def BJ0_init_db425 : Nat → List MI
  | 0 => [(.aload 0, [], 0), (.invokedynamic 5, [1], 0), (.aload 1, [], 0), (.invokevirtual 552, [174, 1], 0), (.astore 3, [], 0), (.aload 1, [], 0), (.invokevirtual 549, [207, 1], 0), (.istore 4, [], 0), (.aload 1, [], 0), (.invokevirtual 1047, [177, 1], 0), (.ifCond .eq 22, [1], 0), (.aload 0, [], 0), (.sipush 0, [], 0), (.putfield 15, [14, 1, 3], 0), (.aload 0, [], 0), (.aload 3, [], 0), (.sipush 0, [], 0), (.iload 4, [], 0), (.invokestatic 54, [185, 3], 0), (.putfield 9, [14, 0, 2], 0), (.goto 59, [3], 0)]
  | 1 => [(.getstatic 38, [1], 1), (.ifCond .eq 35, [2], 0), (.aload 1, [], 0), (.getfield 1048, [11, 2, 4], 0), (.ifCond .eq 28, [2], 0), (.aload 0, [], 0), (.aload 3, [], 0), (.sipush 0, [], 0), (.iload 4, [], 0), (.invokedynamic 9, [], 0)]
  | 2 => [(.aload 0, [], 0), (.sipush 1, [], 0), (.putfield 15, [14, 1, 3], 0), (.aload 0, [], 0), (.aload 3, [], 0), (.sipush 0, [], 0), (.iload 4, [], 0), (.sipush 1, [], 0), (.ishl, [], 0), (.invokestatic 54, [185, 3], 0), (.putfield 9, [14, 0, 2], 0), (.invokedynamic 4, [3], 0)]
  | 3 => [(.return_, [], 0)]
  | _ => []
def PJ0_init_db425 : Nat → Nat
  | 0 => 0
  | 1 => 41
  | 2 => 79
  | 3 => 97
  | _ => 0
def BJ15_checkIndex_7cf53 : Nat → List MI
  | 0 => [(.iload 0, [], 0), (.iload 1, [], 0), (.aconst_null, [], 0), (.invokestatic 105, [281, 3], 0), (.ireturn, [0], 0)]
  | _ => []
def PJ15_checkIndex_7cf53 : Nat → Nat
  | 0 => 0
  | _ => 0
def BJ5_append_c97b9 : Nat → List MI
  | 0 => [(.aload 0, [], 0), (.getfield 79, [11, 3, 0], 0), (.istore 2, [], 0), (.iload 2, [], 0), (.iload 1, [], 0), (.invokestatic 245, [182, 1], 0), (.iadd, [], 0), (.istore 3, [], 0), (.aload 0, [], 0), (.iload 3, [], 0), (.invokevirtual 100, [173, 2], 0), (.aload 0, [], 0), (.invokevirtual 83, [177, 1], 0), (.ifCond .eq 16, [1], 0), (.iload 1, [], 0), (.iload 3, [], 0), (.aload 0, [], 0), (.getfield 15, [11, 0, 2], 0), (.invokestatic 248, [181, 3], 0), (.pop, [], 0), (.goto 14, [2], 0)]
  | 1 => [(.iload 1, [], 0), (.iload 2, [], 0), (.iload 3, [], 0), (.aload 0, [], 0), (.getfield 15, [11, 0, 2], 0), (.invokedynamic 9, [], 0)]
  | 2 => [(.aload 0, [], 0), (.iload 3, [], 0), (.putfield 79, [11, 3, 0], 0), (.aload 0, [], 0), (.areturn, [], 0)]
  | _ => []
def PJ5_append_c97b9 : Nat → Nat
  | 0 => 0
  | 1 => 37
  | 2 => 48
  | _ => 0
def BJ5_append_cf1ce : Nat → List MI
  | 0 => [(.aload 1, [], 0), (.ifnonnull 8, [1], 0), (.aload 0, [], 0), (.invokedynamic 9, [], 0)]
  | 1 => [(.aload 1, [], 0), (.invokevirtual 32, [270, 1], 0), (.istore 2, [], 0), (.aload 0, [], 0), (.aload 0, [], 0), (.getfield 79, [11, 3, 0], 0), (.iload 2, [], 0), (.iadd, [], 0), (.invokevirtual 100, [173, 2], 0), (.aload 0, [], 0), (.aload 0, [], 0), (.getfield 79, [11, 3, 0], 0), (.aload 1, [], 0), (.invokevirtual 208, [180, 3], 0), (.aload 0, [], 0), (.dup, [], 0), (.getfield 79, [11, 3, 0], 0), (.iload 2, [], 0), (.iadd, [], 0), (.putfield 79, [11, 3, 0], 0), (.aload 0, [], 0), (.areturn, [], 0)]
  | _ => []
def PJ5_append_cf1ce : Nat → Nat
  | 0 => 0
  | 1 => 9
  | _ => 0
def BJ5_ensureCapacityInternal_d00df : Nat → List MI
  | 0 => [(.aload 0, [], 0), (.getfield 15, [11, 0, 2], 0), (.arraylength, [], 0), (.aload 0, [], 0), (.getfield 22, [11, 1, 3], 0), (.ishr, [], 0), (.istore 2, [], 0), (.iload 1, [], 0), (.iload 2, [], 0), (.isub, [], 0), (.ifCond .le 24, [1], 0), (.aload 0, [], 0), (.aload 0, [], 0), (.getfield 15, [11, 0, 2], 0), (.aload 0, [], 0), (.iload 1, [], 0), (.invokevirtual 104, [179, 2], 0), (.aload 0, [], 0), (.getfield 22, [11, 1, 3], 0), (.ishl, [], 0), (.invokestatic 108, [188, 2], 0), (.putfield 15, [11, 0, 2], 0), (.invokedynamic 4, [1], 0)]
  | 1 => [(.return_, [], 0)]
  | _ => []
def PJ5_ensureCapacityInternal_d00df : Nat → Nat
  | 0 => 0
  | 1 => 38
  | _ => 0
def BJ5_getValue_6d5f1 : Nat → List MI
  | 0 => [(.aload 0, [], 0), (.getfield 15, [11, 0, 2], 0), (.areturn, [], 0)]
  | _ => []
def PJ5_getValue_6d5f1 : Nat → Nat
  | 0 => 0
  | _ => 0
def BJ5_inflateIfNeededFor_a7421 : Nat → List MI
  | 0 => [(.getstatic 18, [1], 1), (.ifCond .eq 18, [1], 0), (.aload 0, [], 0), (.getfield 22, [11, 1, 3], 0), (.aload 1, [], 0), (.invokevirtual 40, [274, 1], 0), (.if_icmp .eq 7, [1], 0), (.aload 0, [], 0), (.invokedynamic 9, [], 0)]
  | 1 => [(.return_, [], 0)]
  | _ => []
def PJ5_inflateIfNeededFor_a7421 : Nat → Nat
  | 0 => 0
  | 1 => 21
  | _ => 0
def BJ5_init_d00df : Nat → List MI
  | 0 => [(.aload 0, [], 0), (.invokedynamic 5, [3], 0), (.getstatic 18, [1], 1), (.ifCond .eq 18, [1], 0), (.aload 0, [], 0), (.iload 1, [], 0), (.newarray .byte, [], 0), (.putfield 15, [11, 0, 2], 0), (.aload 0, [], 0), (.sipush 0, [], 0), (.putfield 22, [11, 1, 3], 0), (.goto 16, [2], 0)]
  | 1 => [(.aload 0, [], 0), (.iload 1, [], 0), (.invokedynamic 9, [], 0)]
  | 2 => [(.return_, [], 0)]
  | _ => []
def PJ5_init_d00df : Nat → Nat
  | 0 => 0
  | 1 => 25
  | 2 => 38
  | _ => 0
def BJ5_isLatin1_aae02 : Nat → List MI
  | 0 => [(.getstatic 18, [1], 1), (.ifCond .eq 14, [1], 0), (.aload 0, [], 0), (.getfield 22, [11, 1, 3], 0), (.ifCond .ne 7, [1], 0), (.sipush 1, [], 0), (.goto 4, [2], 0)]
  | 1 => [(.sipush 0, [], 0), (.invokedynamic 4, [2], 0)]
  | 2 => [(.ireturn, [1], 0)]
  | _ => []
def PJ5_isLatin1_aae02 : Nat → Nat
  | 0 => 0
  | 1 => 17
  | 2 => 18
  | _ => 0
def BJ5_length_8abf5 : Nat → List MI
  | 0 => [(.aload 0, [], 0), (.getfield 79, [11, 3, 0], 0), (.ireturn, [0], 0)]
  | _ => []
def PJ5_length_8abf5 : Nat → Nat
  | 0 => 0
  | _ => 0
def BJ5_newCapacity_0f7a4 : Nat → List MI
  | 0 => [(.aload 0, [], 0), (.getfield 15, [11, 0, 2], 0), (.arraylength, [], 0), (.istore 2, [], 0), (.iload 1, [], 0), (.aload 0, [], 0), (.getfield 22, [11, 1, 3], 0), (.ishl, [], 0), (.istore 3, [], 0), (.iload 3, [], 0), (.iload 2, [], 0), (.isub, [], 0), (.istore 4, [], 0), (.iload 2, [], 0), (.iload 4, [], 0), (.iload 2, [], 0), (.sipush 2, [], 0), (.aload 0, [], 0), (.getfield 22, [11, 1, 3], 0), (.ishl, [], 0), (.iadd, [], 0), (.invokestatic 114, [189, 3], 0), (.istore 5, [], 0), (.iload 5, [], 0), (.ldc 39, [], 2147483647), (.if_icmp .ne 13, [1], 0), (.invokedynamic 9, [], 0)]
  | 1 => [(.iload 5, [], 0), (.aload 0, [], 0), (.getfield 22, [11, 1, 3], 0), (.ishr, [], 0), (.ireturn, [0], 0)]
  | _ => []
def PJ5_newCapacity_0f7a4 : Nat → Nat
  | 0 => 0
  | 1 => 51
  | _ => 0
def BJ5_putStringAt_47b60 : Nat → List MI
  | 0 => [(.aload 0, [], 0), (.aload 2, [], 0), (.invokevirtual 397, [175, 2], 0), (.aload 2, [], 0), (.aload 0, [], 0), (.getfield 15, [11, 0, 2], 0), (.iload 1, [], 0), (.aload 0, [], 0), (.getfield 22, [11, 1, 3], 0), (.invokevirtual 399, [163, 4], 0), (.return_, [], 0)]
  | _ => []
def PJ5_putStringAt_47b60 : Nat → Nat
  | 0 => 0
  | _ => 0
def BJ6_getChars_ba4f3 : Nat → List MI
  | 0 => [(.iload 1, [], 0), (.istore 5, [], 0), (.iload 0, [], 0), (.ifCond .ge 7, [1], 0), (.sipush 1, [], 0), (.goto 4, [2], 0)]
  | 1 => [(.sipush 0, [], 0), (.invokedynamic 4, [2], 0)]
  | 2 => [(.istore 6, [], 0), (.iload 6, [], 0), (.ifCond .ne 6, [3], 0), (.iload 0, [], 0), (.ineg, [], 0), (.istore 0, [], 0), (.invokedynamic 4, [3], 0)]
  | 3 => [(.iload 0, [], 0), (.sipush (-100), [], 0), (.if_icmp .gt 47, [4], 0), (.iload 0, [], 0), (.sipush 100, [], 0), (.idiv, [], 0), (.istore 3, [], 0), (.iload 3, [], 0), (.sipush 100, [], 0), (.imul, [], 0), (.iload 0, [], 0), (.isub, [], 0), (.istore 4, [], 0), (.iload 3, [], 0), (.istore 0, [], 0), (.aload 2, [], 0), (.iinc 5 (-1), [], 0), (.iload 5, [], 0), (.getstatic 83, [0, 305], 0), (.iload 4, [], 0), (.baload, [], 0), (.bastore, [], 0), (.aload 2, [], 0), (.iinc 5 (-1), [], 0), (.iload 5, [], 0), (.getstatic 87, [0, 304], 0), (.iload 4, [], 0), (.baload, [], 0), (.bastore, [], 0), (.goto (-47), [3], 0)]
  | 4 => [(.aload 2, [], 0), (.iinc 5 (-1), [], 0), (.iload 5, [], 0), (.getstatic 83, [0, 305], 0), (.iload 0, [], 0), (.ineg, [], 0), (.baload, [], 0), (.bastore, [], 0), (.iload 0, [], 0), (.sipush (-9), [], 0), (.if_icmp .ge 16, [5], 0), (.aload 2, [], 0), (.iinc 5 (-1), [], 0), (.iload 5, [], 0), (.getstatic 87, [0, 304], 0), (.iload 0, [], 0), (.ineg, [], 0), (.baload, [], 0), (.bastore, [], 0), (.invokedynamic 4, [5], 0)]
  | 5 => [(.iload 6, [], 0), (.ifCond .eq 12, [6], 0), (.aload 2, [], 0), (.iinc 5 (-1), [], 0), (.iload 5, [], 0), (.sipush 45, [], 0), (.bastore, [], 0), (.invokedynamic 4, [6], 0)]
  | 6 => [(.iload 5, [], 0), (.ireturn, [0], 0)]
  | _ => []
def PJ6_getChars_ba4f3 : Nat → Nat
  | 0 => 0
  | 1 => 11
  | 2 => 12
  | 3 => 22
  | 4 => 72
  | 5 => 104
  | 6 => 118
  | _ => 0
def BJ6_stringSize_0f7a4 : Nat → List MI
  | 0 => [(.sipush 1, [], 0), (.istore 1, [], 0), (.iload 0, [], 0), (.ifCond .lt 8, [1], 0), (.sipush 0, [], 0), (.istore 1, [], 0), (.iload 0, [], 0), (.ineg, [], 0), (.istore 0, [], 0), (.invokedynamic 4, [1], 0)]
  | 1 => [(.sipush (-10), [], 0), (.istore 2, [], 0), (.sipush 1, [], 0), (.istore 3, [], 0), (.invokedynamic 4, [2], 0)]
  | 2 => [(.iload 3, [], 0), (.sipush 10, [], 0), (.if_icmp .ge 23, [4], 0), (.iload 0, [], 0), (.iload 2, [], 0), (.if_icmp .le 7, [3], 0), (.iload 3, [], 0), (.iload 1, [], 0), (.iadd, [], 0), (.ireturn, [0], 0)]
  | 3 => [(.sipush 10, [], 0), (.iload 2, [], 0), (.imul, [], 0), (.istore 2, [], 0), (.iinc 3 1, [], 0), (.goto (-23), [2], 0)]
  | 4 => [(.sipush 10, [], 0), (.iload 1, [], 0), (.iadd, [], 0), (.ireturn, [0], 0)]
  | _ => []
def PJ6_stringSize_0f7a4 : Nat → Nat
  | 0 => 0
  | 1 => 11
  | 2 => 16
  | 3 => 31
  | 4 => 42
  | _ => 0
def BJ7_checkLength_df160 : Nat → List MI
  | 0 => [(.iload 1, [], 0), (.iload 0, [], 0), (.if_icmp .ge 35, [1], 0), (.invokedynamic 9, [], 0)]
  | 1 => [(.return_, [], 0)]
  | _ => []
def PJ7_checkLength_df160 : Nat → Nat
  | 0 => 0
  | 1 => 37
  | _ => 0
def BJ7_copyOfRangeByte_39247 : Nat → List MI
  | 0 => [(.iload 1, [], 0), (.iload 2, [], 0), (.invokestatic 343, [183, 2], 0), (.iload 2, [], 0), (.iload 1, [], 0), (.isub, [], 0), (.istore 3, [], 0), (.iload 3, [], 0), (.newarray .byte, [], 0), (.astore 4, [], 0), (.aload 0, [], 0), (.iload 1, [], 0), (.aload 4, [], 0), (.sipush 0, [], 0), (.aload 0, [], 0), (.arraylength, [], 0), (.iload 1, [], 0), (.isub, [], 0), (.iload 3, [], 0), (.invokedynamic 2, [304], 0), (.invokedynamic 0, [150], 0), (.aload 4, [], 0), (.areturn, [], 0)]
  | _ => []
def PJ7_copyOfRangeByte_39247 : Nat → Nat
  | 0 => 0
  | _ => 0
def BJ7_copyOfRange_39247 : Nat → List MI
  | 0 => [(.iload 1, [], 0), (.ifCond .ne 9, [1], 0), (.iload 2, [], 0), (.aload 0, [], 0), (.arraylength, [], 0), (.if_icmp .eq 10, [2], 0), (.invokedynamic 4, [1], 0)]
  | 1 => [(.aload 0, [], 0), (.iload 1, [], 0), (.iload 2, [], 0), (.invokestatic 339, [184, 3], 0), (.areturn, [], 0)]
  | 2 => [(.aload 0, [], 0), (.invokedynamic 6, [310], 0), (.checkcast 311, [2], 0), (.areturn, [], 0)]
  | _ => []
def PJ7_copyOfRange_39247 : Nat → Nat
  | 0 => 0
  | 1 => 10
  | 2 => 17
  | _ => 0
def BJ7_copyOf_1904c : Nat → List MI
  | 0 => [(.aload 0, [], 0), (.iload 1, [], 0), (.aload 0, [], 0), (.invokedynamic 7, [86], 0), (.invokestatic 300, [187, 3], 0), (.areturn, [], 0)]
  | _ => []
def PJ7_copyOf_1904c : Nat → Nat
  | 0 => 0
  | _ => 0
def BJ7_copyOf_6403c : Nat → List MI
  | 0 => [(.aload 2, [], 0), (.invokedynamic 8, [110], 0), (.if_acmp .ne 10, [1], 0), (.iload 1, [], 0), (.anewarray 2, [2], 0), (.goto 14, [2], 0)]
  | 1 => [(.aload 2, [], 0), (.invokedynamic 9, [], 0)]
  | 2 => [(.astore 3, [], 0), (.aload 0, [], 0), (.sipush 0, [], 0), (.aload 3, [], 0), (.sipush 0, [], 0), (.aload 0, [], 0), (.arraylength, [], 0), (.iload 1, [], 0), (.invokedynamic 2, [304], 0), (.invokedynamic 0, [150], 0), (.aload 3, [], 0), (.areturn, [], 0)]
  | _ => []
def PJ7_copyOf_6403c : Nat → Nat
  | 0 => 0
  | 1 => 13
  | 2 => 24
  | _ => 0
def BJ7_copyOf_9075b : Nat → List MI
  | 0 => [(.iload 1, [], 0), (.aload 0, [], 0), (.arraylength, [], 0), (.if_icmp .ne 11, [1], 0), (.aload 0, [], 0), (.invokedynamic 6, [310], 0), (.checkcast 311, [2], 0), (.areturn, [], 0)]
  | 1 => [(.iload 1, [], 0), (.newarray .byte, [], 0), (.astore 2, [], 0), (.aload 0, [], 0), (.sipush 0, [], 0), (.aload 2, [], 0), (.sipush 0, [], 0), (.aload 0, [], 0), (.arraylength, [], 0), (.iload 1, [], 0), (.invokedynamic 2, [304], 0), (.invokedynamic 0, [150], 0), (.aload 2, [], 0), (.areturn, [], 0)]
  | _ => []
def PJ7_copyOf_9075b : Nat → Nat
  | 0 => 0
  | 1 => 14
  | _ => 0
def BJ8_newLength_cabcc : Nat → List MI
  | 0 => [(.iload 0, [], 0), (.iload 1, [], 0), (.iload 2, [], 0), (.invokedynamic 1, [194], 0), (.iadd, [], 0), (.istore 3, [], 0), (.sipush 0, [], 0), (.iload 3, [], 0), (.if_icmp .ge 11, [1], 0), (.iload 3, [], 0), (.ldc 200, [], 2147483639), (.if_icmp .gt 5, [1], 0), (.iload 3, [], 0), (.ireturn, [0], 0)]
  | 1 => [(.iload 0, [], 0), (.iload 1, [], 0), (.invokedynamic 9, [], 0)]
  | _ => []
def PJ8_newLength_cabcc : Nat → Nat
  | 0 => 0
  | 1 => 21
  | _ => 0
def BJxa1e45_init_da8c8 : Nat → List MI
  | 0 => [(.aload 0, [], 0), (.invokedynamic 5, [1], 0), (.return_, [], 0)]
  | _ => []
def PJxa1e45_init_da8c8 : Nat → Nat
  | 0 => 0
  | _ => 0
def BJxc12de_init_da8c8 : Nat → List MI
  | 0 => [(.aload 0, [], 0), (.invokespecial 1, [205, 1], 0), (.aload 0, [], 0), (.sipush 0, [], 0), (.putfield 7, [12, 0, 0], 0), (.return_, [], 0)]
  | _ => []
def PJxc12de_init_da8c8 : Nat → Nat
  | 0 => 0
  | _ => 0
def BJ0_coder_7d493 : Nat → List MI
  | 0 => [(.getstatic 38, [1], 1), (.ifCond .eq 10, [1], 0), (.aload 0, [], 0), (.getfield 15, [99, 54, 0], 0), (.goto 4, [2], 0)]
  | 1 => [(.sipush 1, [], 0), (.invokedynamic 4, [2], 0)]
  | 2 => [(.ireturn, [2], 0)]
  | _ => []
def PJ0_coder_7d493 : Nat → Nat
  | 0 => 0
  | 1 => 13
  | 2 => 14
  | _ => 0
def BL_law : Nat → List MI
  | 0 => [(.new 10, [9], 0), (.dup, [], 0), (.invokespecial 227, [104, 1], 0), (.astore 1, [], 0), (.new 32, [11], 0), (.dup, [], 0), (.invokespecial 34, [169, 1], 0), (.astore 2, [], 0), (.aload 0, [], 0), (.aload 2, [], 0), (.invokestatic 228, [160, 2], 0), (.astore 3, [], 0), (.aload 1, [], 0), (.aload 2, [], 0), (.invokevirtual 44, [170, 1], 0), (.invokestatic 232, [157, 2], 0), (.ifCond .eq 5, [1], 0), (.sipush 0, [], 0), (.ireturn, [1], 0)]
  | 1 => [(.aload 1, [], 0), (.sipush 1, [], 0), (.invokevirtual 236, [110, 2], 0), (.istore 4, [], 0), (.aload 1, [], 0), (.sipush 2, [], 0), (.invokevirtual 236, [110, 2], 0), (.istore 5, [], 0), (.aload 1, [], 0), (.sipush 3, [], 0), (.invokevirtual 236, [110, 2], 0), (.istore 6, [], 0), (.sipush 0, [], 0), (.istore 7, [], 0), (.invokedynamic 4, [2], 0)]
  | 2 => [(.iload 7, [], 0), (.sipush 12, [], 0), (.if_icmp .ge 1260, [83], 0), (.aload 0, [], 0), (.iload 7, [], 0), (.sipush 16, [], 0), (.irem, [], 0), (.invokestatic 115, [156, 2], 0), (.sipush 3, [], 0), (.ishr, [], 0), (.sipush 59, [], 0), (.iload 7, [], 0), (.imul, [], 0), (.iadd, [], 0), (.istore 8, [], 0), (.aload 1, [], 0), (.aload 3, [], 0), (.iload 8, [], 0), (.invokestatic 239, [161, 3], 0), (.ifCond .ne 5, [3], 0), (.sipush 0, [], 0), (.ireturn, [1], 0)]
  | 3 => [(.aload 1, [], 0), (.invokevirtual 243, [137, 1], 0), (.lstore 9, [], 0), (.iload 4, [], 0), (.iload 4, [], 0), (.multianewarray 158 2, [0], 0), (.astore 11, [], 0), (.sipush 0, [], 0), (.istore 12, [], 0), (.invokedynamic 4, [4], 0)]
  | 4 => [(.iload 12, [], 0), (.iload 4, [], 0), (.if_icmp .ge 41, [7], 0), (.sipush 0, [], 0), (.istore 13, [], 0), (.invokedynamic 4, [5], 0)]
  | 5 => [(.iload 13, [], 0), (.iload 4, [], 0), (.if_icmp .ge 25, [6], 0), (.aload 11, [], 0), (.iload 12, [], 0), (.aaload, [], 0), (.iload 13, [], 0), (.aload 1, [], 0), (.iload 12, [], 0), (.iload 13, [], 0), (.invokevirtual 247, [122, 3], 0), (.iastore, [], 0), (.iinc 13 1, [], 0), (.goto (-26), [5], 0)]
  | 6 => [(.iinc 12 1, [], 0), (.goto (-42), [4], 0)]
  | 7 => [(.sipush 0, [], 0), (.istore 12, [], 0), (.sipush 0, [], 0), (.istore 13, [], 0), (.invokedynamic 4, [8], 0)]
  | 8 => [(.iload 13, [], 0), (.iload 4, [], 0), (.if_icmp .ge 319, [30], 0), (.iload 13, [], 0), (.istore 14, [], 0), (.iload 4, [], 0), (.sipush 1, [], 0), (.isub, [], 0), (.istore 15, [], 0), (.invokedynamic 4, [9], 0)]
  | 9 => [(.iload 15, [], 0), (.ifCond .lt 267, [26], 0), (.aload 11, [], 0), (.iload 13, [], 0), (.aaload, [], 0), (.iload 15, [], 0), (.iaload, [], 0), (.aload 11, [], 0), (.iload 15, [], 0), (.aaload, [], 0), (.iload 13, [], 0), (.iaload, [], 0), (.if_icmp .ne 46, [14], 0), (.aload 11, [], 0), (.iload 13, [], 0), (.aaload, [], 0), (.iload 15, [], 0), (.iaload, [], 0), (.ifCond .ne 7, [10], 0), (.sipush 1, [], 0), (.goto 4, [11], 0)]
  | 10 => [(.sipush 0, [], 0), (.invokedynamic 4, [11], 0)]
  | 11 => [(.iload 13, [], 0), (.iload 15, [], 0), (.if_icmp .ne 7, [12], 0), (.sipush 1, [], 0), (.goto 4, [13], 0)]
  | 12 => [(.sipush 0, [], 0), (.invokedynamic 4, [13], 0)]
  | 13 => [(.if_icmp .ne 15, [14], 0), (.aload 11, [], 0), (.iload 13, [], 0), (.aaload, [], 0), (.iload 15, [], 0), (.iaload, [], 0), (.sipush (-1), [], 0), (.if_icmp .ge 5, [15], 0), (.invokedynamic 4, [14], 0)]
  | 14 => [(.sipush 0, [], 0), (.ireturn, [1], 0)]
  | 15 => [(.aload 11, [], 0), (.iload 13, [], 0), (.aaload, [], 0), (.iload 15, [], 0), (.iaload, [], 0), (.ifCond .lt 12, [16], 0), (.iload 14, [], 0), (.iload 15, [], 0), (.invokedynamic 2, [197], 0), (.istore 14, [], 0), (.invokedynamic 4, [16], 0)]
  | 16 => [(.sipush 0, [], 0), (.istore 16, [], 0), (.invokedynamic 4, [17], 0)]
  | 17 => [(.iload 16, [], 0), (.iload 4, [], 0), (.if_icmp .ge 72, [20], 0), (.aload 11, [], 0), (.iload 13, [], 0), (.aaload, [], 0), (.iload 16, [], 0), (.iaload, [], 0), (.ifCond .lt 55, [19], 0), (.aload 11, [], 0), (.iload 16, [], 0), (.aaload, [], 0), (.iload 15, [], 0), (.iaload, [], 0), (.ifCond .lt 44, [19], 0), (.aload 11, [], 0), (.iload 13, [], 0), (.aaload, [], 0), (.iload 15, [], 0), (.iaload, [], 0), (.ifCond .lt 31, [18], 0), (.aload 11, [], 0), (.iload 13, [], 0), (.aaload, [], 0), (.iload 15, [], 0), (.iaload, [], 0), (.aload 11, [], 0), (.iload 13, [], 0), (.aaload, [], 0), (.iload 16, [], 0), (.iaload, [], 0), (.aload 11, [], 0), (.iload 16, [], 0), (.aaload, [], 0), (.iload 15, [], 0), (.iaload, [], 0), (.iadd, [], 0), (.if_icmp .le 5, [19], 0), (.invokedynamic 4, [18], 0)]
  | 18 => [(.sipush 0, [], 0), (.ireturn, [1], 0)]
  | 19 => [(.iinc 16 1, [], 0), (.goto (-73), [17], 0)]
  | 20 => [(.aload 1, [], 0), (.iload 13, [], 0), (.iload 15, [], 0), (.invokevirtual 250, [123, 3], 0), (.istore 16, [], 0), (.aload 11, [], 0), (.iload 13, [], 0), (.aaload, [], 0), (.iload 15, [], 0), (.iaload, [], 0), (.ifCond .gt 24, [23], 0), (.iload 16, [], 0), (.iload 13, [], 0), (.iload 15, [], 0), (.if_icmp .ne 8, [21], 0), (.iload 13, [], 0), (.goto 4, [22], 0)]
  | 21 => [(.sipush (-1), [], 0), (.invokedynamic 4, [22], 0)]
  | 22 => [(.if_icmp .eq 59, [25], 0), (.goto 54, [24], 0)]
  | 23 => [(.iload 16, [], 0), (.ifCond .lt 49, [24], 0), (.iload 16, [], 0), (.iload 13, [], 0), (.if_icmp .eq 42, [24], 0), (.aload 11, [], 0), (.iload 16, [], 0), (.aaload, [], 0), (.iload 15, [], 0), (.iaload, [], 0), (.ifCond .lt 31, [24], 0), (.aload 1, [], 0), (.iload 13, [], 0), (.iload 16, [], 0), (.aload 11, [], 0), (.iload 13, [], 0), (.aaload, [], 0), (.iload 15, [], 0), (.iaload, [], 0), (.aload 11, [], 0), (.iload 16, [], 0), (.aaload, [], 0), (.iload 15, [], 0), (.iaload, [], 0), (.isub, [], 0), (.invokestatic 253, [162, 4], 0), (.ifCond .ne 5, [25], 0), (.invokedynamic 4, [24], 0)]
  | 24 => [(.sipush 0, [], 0), (.ireturn, [1], 0)]
  | 25 => [(.iinc 15 (-1), [], 0), (.goto (-266), [9], 0)]
  | 26 => [(.aload 1, [], 0), (.iload 13, [], 0), (.sipush 2, [], 0), (.invokevirtual 257, [112, 3], 0), (.iload 14, [], 0), (.if_icmp .eq 5, [27], 0), (.sipush 0, [], 0), (.ireturn, [1], 0)]
  | 27 => [(.iload 12, [], 0), (.iload 14, [], 0), (.iload 13, [], 0), (.if_icmp .ne 7, [28], 0), (.sipush 1, [], 0), (.goto 4, [29], 0)]
  | 28 => [(.sipush 0, [], 0), (.invokedynamic 4, [29], 0)]
  | 29 => [(.iadd, [], 0), (.istore 12, [], 0), (.iinc 13 1, [], 0), (.goto (-320), [8], 0)]
  | 30 => [(.sipush 0, [], 0), (.istore 13, [], 0), (.sipush 0, [], 0), (.istore 14, [], 0), (.sipush 0, [], 0), (.istore 15, [], 0), (.sipush 0, [], 0), (.istore 16, [], 0), (.sipush 0, [], 0), (.istore 17, [], 0), (.invokedynamic 4, [31], 0)]
  | 31 => [(.iload 17, [], 0), (.iload 5, [], 0), (.if_icmp .ge 358, [59], 0), (.aload 1, [], 0), (.iload 17, [], 0), (.sipush 3, [], 0), (.invokevirtual 260, [114, 3], 0), (.istore 18, [], 0), (.aload 1, [], 0), (.iload 17, [], 0), (.sipush 4, [], 0), (.invokevirtual 260, [114, 3], 0), (.istore 19, [], 0), (.aload 1, [], 0), (.iload 17, [], 0), (.sipush 5, [], 0), (.invokevirtual 260, [114, 3], 0), (.sipush 1, [], 0), (.if_icmp .ne 7, [32], 0), (.sipush 1, [], 0), (.goto 4, [33], 0)]
  | 32 => [(.sipush 0, [], 0), (.invokedynamic 4, [33], 0)]
  | 33 => [(.istore 20, [], 0), (.aload 1, [], 0), (.iload 17, [], 0), (.sipush 7, [], 0), (.invokevirtual 260, [114, 3], 0), (.sipush 1, [], 0), (.if_icmp .ne 7, [34], 0), (.sipush 1, [], 0), (.goto 4, [35], 0)]
  | 34 => [(.sipush 0, [], 0), (.invokedynamic 4, [35], 0)]
  | 35 => [(.istore 21, [], 0), (.aload 1, [], 0), (.iload 17, [], 0), (.sipush 6, [], 0), (.invokevirtual 260, [114, 3], 0), (.sipush 1, [], 0), (.if_icmp .ne 7, [36], 0), (.sipush 1, [], 0), (.goto 4, [37], 0)]
  | 36 => [(.sipush 0, [], 0), (.invokedynamic 4, [37], 0)]
  | 37 => [(.istore 22, [], 0), (.aload 11, [], 0), (.aload 1, [], 0), (.iload 17, [], 0), (.sipush 0, [], 0), (.invokevirtual 260, [114, 3], 0), (.aaload, [], 0), (.aload 1, [], 0), (.iload 17, [], 0), (.sipush 1, [], 0), (.invokevirtual 260, [114, 3], 0), (.iaload, [], 0), (.istore 23, [], 0), (.aload 1, [], 0), (.iload 17, [], 0), (.invokevirtual 263, [124, 2], 0), (.istore 24, [], 0), (.aload 1, [], 0), (.iload 17, [], 0), (.invokevirtual 266, [125, 2], 0), (.istore 25, [], 0), (.iload 18, [], 0), (.ifCond .lt 94, [45], 0), (.iload 18, [], 0), (.sipush 3, [], 0), (.if_icmp .gt 88, [45], 0), (.iload 19, [], 0), (.aload 1, [], 0), (.iload 17, [], 0), (.sipush 2, [], 0), (.invokevirtual 260, [114, 3], 0), (.sipush 2, [], 0), (.iload 18, [], 0), (.imul, [], 0), (.iadd, [], 0), (.if_icmp .ne 71, [45], 0), (.iload 20, [], 0), (.iload 18, [], 0), (.sipush 3, [], 0), (.if_icmp .ge 7, [38], 0), (.sipush 1, [], 0), (.goto 4, [39], 0)]
  | 38 => [(.sipush 0, [], 0), (.invokedynamic 4, [39], 0)]
  | 39 => [(.if_icmp .ne 55, [45], 0), (.iload 20, [], 0), (.ifCond .eq 10, [40], 0), (.iload 23, [], 0), (.iload 19, [], 0), (.if_icmp .gt 43, [45], 0), (.invokedynamic 4, [40], 0)]
  | 40 => [(.iload 21, [], 0), (.ifCond .eq 8, [41], 0), (.iload 20, [], 0), (.ifCond .eq 33, [45], 0), (.invokedynamic 4, [41], 0)]
  | 41 => [(.iload 22, [], 0), (.ifCond .eq 8, [42], 0), (.iload 21, [], 0), (.ifCond .eq 23, [45], 0), (.invokedynamic 4, [42], 0)]
  | 42 => [(.iload 22, [], 0), (.iload 20, [], 0), (.ifCond .eq 12, [43], 0), (.iload 24, [], 0), (.ifCond .ge 7, [43], 0), (.sipush 1, [], 0), (.goto 4, [44], 0)]
  | 43 => [(.sipush 0, [], 0), (.invokedynamic 4, [44], 0)]
  | 44 => [(.if_icmp .eq 5, [46], 0), (.invokedynamic 4, [45], 0)]
  | 45 => [(.sipush 0, [], 0), (.ireturn, [1], 0)]
  | 46 => [(.iload 24, [], 0), (.ifCond .lt 18, [47], 0), (.iload 23, [], 0), (.ifCond .lt 23, [48], 0), (.iload 23, [], 0), (.iload 24, [], 0), (.if_icmp .le 18, [49], 0), (.goto 13, [48], 0)]
  | 47 => [(.iload 20, [], 0), (.ifCond .ne 10, [49], 0), (.iload 23, [], 0), (.ifCond .lt 5, [49], 0), (.invokedynamic 4, [48], 0)]
  | 48 => [(.sipush 0, [], 0), (.ireturn, [1], 0)]
  | 49 => [(.iload 21, [], 0), (.ifCond .eq 40, [50], 0), (.iload 22, [], 0), (.ifCond .ne 35, [50], 0), (.iload 25, [], 0), (.ifCond .lt 36, [51], 0), (.aload 1, [], 0), (.iload 25, [], 0), (.sipush 7, [], 0), (.invokevirtual 260, [114, 3], 0), (.sipush 1, [], 0), (.if_icmp .eq 24, [51], 0), (.aload 1, [], 0), (.iload 25, [], 0), (.sipush 4, [], 0), (.invokevirtual 260, [114, 3], 0), (.iload 19, [], 0), (.if_icmp .ge 14, [52], 0), (.goto 9, [51], 0)]
  | 50 => [(.iload 25, [], 0), (.sipush (-1), [], 0), (.if_icmp .eq 5, [52], 0), (.invokedynamic 4, [51], 0)]
  | 51 => [(.sipush 0, [], 0), (.ireturn, [1], 0)]
  | 52 => [(.iload 13, [], 0), (.iload 21, [], 0), (.ifCond .eq 7, [53], 0), (.sipush 1, [], 0), (.goto 4, [54], 0)]
  | 53 => [(.sipush 0, [], 0), (.invokedynamic 4, [54], 0)]
  | 54 => [(.iadd, [], 0), (.istore 13, [], 0), (.iload 14, [], 0), (.iload 21, [], 0), (.ifCond .eq 8, [55], 0), (.iload 19, [], 0), (.goto 4, [56], 0)]
  | 55 => [(.sipush 0, [], 0), (.invokedynamic 4, [56], 0)]
  | 56 => [(.iadd, [], 0), (.istore 14, [], 0), (.iload 15, [], 0), (.iload 22, [], 0), (.ifCond .eq 7, [57], 0), (.sipush 1, [], 0), (.goto 4, [58], 0)]
  | 57 => [(.sipush 0, [], 0), (.invokedynamic 4, [58], 0)]
  | 58 => [(.iadd, [], 0), (.istore 15, [], 0), (.iload 16, [], 0), (.aload 1, [], 0), (.iload 17, [], 0), (.sipush 8, [], 0), (.invokevirtual 260, [114, 3], 0), (.iadd, [], 0), (.istore 16, [], 0), (.iinc 17 1, [], 0), (.goto (-359), [31], 0)]
  | 59 => [(.iload 12, [], 0), (.aload 1, [], 0), (.sipush 7, [], 0), (.invokevirtual 236, [110, 2], 0), (.if_icmp .ne 57, [60], 0), (.iload 13, [], 0), (.iload 12, [], 0), (.iadd, [], 0), (.iload 4, [], 0), (.if_icmp .ne 47, [60], 0), (.iload 14, [], 0), (.aload 1, [], 0), (.sipush 11, [], 0), (.invokevirtual 236, [110, 2], 0), (.if_icmp .ne 36, [60], 0), (.iload 15, [], 0), (.aload 1, [], 0), (.sipush 6, [], 0), (.invokevirtual 236, [110, 2], 0), (.if_icmp .ne 25, [60], 0), (.iload 16, [], 0), (.aload 1, [], 0), (.sipush 8, [], 0), (.invokevirtual 236, [110, 2], 0), (.if_icmp .ne 14, [60], 0), (.aload 1, [], 0), (.sipush 12, [], 0), (.invokevirtual 236, [110, 2], 0), (.iload 15, [], 0), (.if_icmp .le 5, [61], 0), (.invokedynamic 4, [60], 0)]
  | 60 => [(.sipush 0, [], 0), (.ireturn, [1], 0)]
  | 61 => [(.iload 4, [], 0), (.iload 6, [], 0), (.multianewarray 158 2, [0], 0), (.astore 17, [], 0), (.sipush 0, [], 0), (.istore 18, [], 0), (.sipush 0, [], 0), (.istore 19, [], 0), (.invokedynamic 4, [62], 0)]
  | 62 => [(.iload 19, [], 0), (.iload 6, [], 0), (.if_icmp .ge 128, [70], 0), (.sipush 0, [], 0), (.istore 20, [], 0), (.sipush 0, [], 0), (.istore 21, [], 0), (.invokedynamic 4, [63], 0)]
  | 63 => [(.iload 21, [], 0), (.iload 4, [], 0), (.if_icmp .ge 76, [68], 0), (.aload 17, [], 0), (.iload 21, [], 0), (.aaload, [], 0), (.iload 19, [], 0), (.aload 1, [], 0), (.iload 21, [], 0), (.iload 19, [], 0), (.invokevirtual 269, [118, 3], 0), (.iastore, [], 0), (.iload 20, [], 0), (.aload 17, [], 0), (.iload 21, [], 0), (.aaload, [], 0), (.iload 19, [], 0), (.iaload, [], 0), (.ifCond .lt 7, [64], 0), (.sipush 1, [], 0), (.goto 4, [65], 0)]
  | 64 => [(.sipush 0, [], 0), (.invokedynamic 4, [65], 0)]
  | 65 => [(.iadd, [], 0), (.istore 20, [], 0), (.aload 17, [], 0), (.iload 21, [], 0), (.aaload, [], 0), (.iload 19, [], 0), (.iaload, [], 0), (.aload 1, [], 0), (.sipush 0, [], 0), (.invokevirtual 236, [110, 2], 0), (.if_icmp .gt 15, [66], 0), (.aload 17, [], 0), (.iload 21, [], 0), (.aaload, [], 0), (.iload 19, [], 0), (.iaload, [], 0), (.sipush (-1), [], 0), (.if_icmp .ge 5, [67], 0), (.invokedynamic 4, [66], 0)]
  | 66 => [(.sipush 0, [], 0), (.ireturn, [1], 0)]
  | 67 => [(.iinc 21 1, [], 0), (.goto (-77), [63], 0)]
  | 68 => [(.aload 1, [], 0), (.iload 19, [], 0), (.sipush 2, [], 0), (.invokevirtual 271, [116, 3], 0), (.iload 20, [], 0), (.if_icmp .eq 5, [69], 0), (.sipush 0, [], 0), (.ireturn, [1], 0)]
  | 69 => [(.iload 16, [], 0), (.aload 1, [], 0), (.iload 19, [], 0), (.sipush 3, [], 0), (.invokevirtual 271, [116, 3], 0), (.isub, [], 0), (.istore 16, [], 0), (.iload 18, [], 0), (.iload 20, [], 0), (.iadd, [], 0), (.istore 18, [], 0), (.iinc 19 1, [], 0), (.goto (-129), [62], 0)]
  | 70 => [(.aload 1, [], 0), (.invokevirtual 274, [135, 1], 0), (.istore 19, [], 0), (.iload 16, [], 0), (.ifCond .ne 51, [72], 0), (.iload 18, [], 0), (.aload 1, [], 0), (.sipush 9, [], 0), (.invokevirtual 236, [110, 2], 0), (.if_icmp .ne 40, [72], 0), (.iload 19, [], 0), (.ifCond .lt 13, [71], 0), (.aload 1, [], 0), (.iload 19, [], 0), (.sipush 3, [], 0), (.invokevirtual 260, [114, 3], 0), (.ifCond .eq 25, [72], 0), (.invokedynamic 4, [71], 0)]
  | 71 => [(.aload 1, [], 0), (.sipush 2, [], 0), (.sipush 9, [], 0), (.invokevirtual 277, [132, 3], 0), (.iload 18, [], 0), (.if_icmp .lt 13, [72], 0), (.aload 1, [], 0), (.invokevirtual 243, [137, 1], 0), (.lload 9, [], 0), (.lcmp, [], 0), (.ifCond .eq 5, [73], 0), (.invokedynamic 4, [72], 0)]
  | 72 => [(.sipush 0, [], 0), (.ireturn, [1], 0)]
  | 73 => [(.sipush 1, [], 0), (.iload 8, [], 0), (.sipush 5, [], 0), (.ishr, [], 0), (.sipush 4, [], 0), (.invokestatic 121, [155, 2], 0), (.iadd, [], 0), (.istore 20, [], 0), (.aload 1, [], 0), (.sipush 0, [], 0), (.invokevirtual 236, [110, 2], 0), (.istore 21, [], 0), (.aload 1, [], 0), (.iload 20, [], 0), (.invokevirtual 223, [130, 2], 0), (.istore 22, [], 0), (.aload 3, [], 0), (.iload 20, [], 0), (.invokevirtual 226, [152, 2], 0), (.iload 22, [], 0), (.if_icmp .ne 30, [74], 0), (.aload 1, [], 0), (.sipush 9, [], 0), (.invokevirtual 236, [110, 2], 0), (.iload 18, [], 0), (.iload 22, [], 0), (.iadd, [], 0), (.if_icmp .ne 16, [74], 0), (.aload 1, [], 0), (.sipush 0, [], 0), (.invokevirtual 236, [110, 2], 0), (.iload 21, [], 0), (.iload 20, [], 0), (.iadd, [], 0), (.if_icmp .eq 5, [75], 0), (.invokedynamic 4, [74], 0)]
  | 74 => [(.sipush 0, [], 0), (.ireturn, [1], 0)]
  | 75 => [(.sipush 0, [], 0), (.istore 23, [], 0), (.invokedynamic 4, [76], 0)]
  | 76 => [(.iload 23, [], 0), (.iload 4, [], 0), (.if_icmp .ge 100, [82], 0), (.sipush 0, [], 0), (.istore 24, [], 0), (.invokedynamic 4, [77], 0)]
  | 77 => [(.iload 24, [], 0), (.iload 6, [], 0), (.if_icmp .ge 84, [81], 0), (.aload 17, [], 0), (.iload 23, [], 0), (.aaload, [], 0), (.iload 24, [], 0), (.iaload, [], 0), (.ifCond .lt 25, [78], 0), (.aload 1, [], 0), (.iload 23, [], 0), (.iload 24, [], 0), (.invokevirtual 269, [118, 3], 0), (.aload 17, [], 0), (.iload 23, [], 0), (.aaload, [], 0), (.iload 24, [], 0), (.iaload, [], 0), (.if_icmp .eq 48, [80], 0), (.goto 43, [79], 0)]
  | 78 => [(.aload 1, [], 0), (.iload 23, [], 0), (.iload 24, [], 0), (.invokevirtual 269, [118, 3], 0), (.ifCond .lt 34, [80], 0), (.aload 1, [], 0), (.iload 23, [], 0), (.iload 24, [], 0), (.invokevirtual 269, [118, 3], 0), (.iload 21, [], 0), (.if_icmp .lt 19, [79], 0), (.aload 1, [], 0), (.iload 23, [], 0), (.iload 24, [], 0), (.invokevirtual 269, [118, 3], 0), (.iload 21, [], 0), (.iload 20, [], 0), (.iadd, [], 0), (.if_icmp .lt 5, [80], 0), (.invokedynamic 4, [79], 0)]
  | 79 => [(.sipush 0, [], 0), (.ireturn, [1], 0)]
  | 80 => [(.iinc 24 1, [], 0), (.goto (-85), [77], 0)]
  | 81 => [(.iinc 23 1, [], 0), (.goto (-101), [76], 0)]
  | 82 => [(.iinc 7 1, [], 0), (.goto (-1261), [2], 0)]
  | 83 => [(.aload 3, [], 0), (.aload 1, [], 0), (.invokevirtual 280, [154, 2], 0), (.ireturn, [1], 0)]
  | _ => []
def PL_law : Nat → Nat
  | 0 => 0
  | 1 => 35
  | 2 => 59
  | 3 => 97
  | 4 => 116
  | 5 => 126
  | 6 => 155
  | 7 => 161
  | 8 => 167
  | 9 => 184
  | 10 => 223
  | 11 => 224
  | 12 => 235
  | 13 => 236
  | 14 => 251
  | 15 => 253
  | 16 => 273
  | 17 => 276
  | 18 => 344
  | 19 => 346
  | 20 => 352
  | 21 => 387
  | 22 => 388
  | 23 => 394
  | 24 => 445
  | 25 => 447
  | 26 => 453
  | 27 => 467
  | 28 => 480
  | 29 => 481
  | 30 => 490
  | 31 => 505
  | 32 => 545
  | 33 => 546
  | 34 => 564
  | 35 => 565
  | 36 => 583
  | 37 => 584
  | 38 => 662
  | 39 => 663
  | 40 => 678
  | 41 => 688
  | 42 => 698
  | 43 => 714
  | 44 => 715
  | 45 => 718
  | 46 => 720
  | 47 => 740
  | 48 => 750
  | 49 => 752
  | 50 => 794
  | 51 => 800
  | 52 => 802
  | 53 => 813
  | 54 => 814
  | 55 => 829
  | 56 => 830
  | 57 => 844
  | 58 => 845
  | 59 => 867
  | 60 => 932
  | 61 => 934
  | 62 => 950
  | 63 => 963
  | 64 => 1003
  | 65 => 1004
  | 66 => 1035
  | 67 => 1037
  | 68 => 1043
  | 69 => 1057
  | 70 => 1082
  | 71 => 1119
  | 72 => 1141
  | 73 => 1143
  | 74 => 1208
  | 75 => 1210
  | 76 => 1213
  | 77 => 1223
  | 78 => 1263
  | 79 => 1303
  | 80 => 1305
  | 81 => 1311
  | 82 => 1317
  | 83 => 1323
  | _ => 0
def BJ0_length_8abf5 : Nat → List MI
  | 0 => [(.aload 0, [], 0), (.getfield 9, [99, 53, 0], 0), (.arraylength, [], 0), (.aload 0, [], 0), (.invokevirtual 335, [274, 1], 0), (.ishr, [], 0), (.ireturn, [0], 0)]
  | _ => []
def PJ0_length_8abf5 : Nat → Nat
  | 0 => 0
  | _ => 0
def BJ0_charAt_5068e : Nat → List MI
  | 0 => [(.aload 0, [], 0), (.invokevirtual 492, [275, 1], 0), (.ifCond .eq 12, [1], 0), (.aload 0, [], 0), (.getfield 9, [99, 53, 0], 0), (.iload 1, [], 0), (.invokestatic 495, [277, 2], 0), (.ireturn, [3], 0)]
  | 1 => [(.aload 0, [], 0), (.getfield 9, [99, 53, 0], 0), (.iload 1, [], 0), (.invokedynamic 9, [], 0)]
  | _ => []
def PJ0_charAt_5068e : Nat → Nat
  | 0 => 0
  | 1 => 16
  | _ => 0
def BJ0_isLatin1_aae02 : Nat → List MI
  | 0 => [(.getstatic 38, [1], 1), (.ifCond .eq 14, [1], 0), (.aload 0, [], 0), (.getfield 15, [99, 54, 0], 0), (.ifCond .ne 7, [1], 0), (.sipush 1, [], 0), (.goto 4, [2], 0)]
  | 1 => [(.sipush 0, [], 0), (.invokedynamic 4, [2], 0)]
  | 2 => [(.ireturn, [1], 0)]
  | _ => []
def PJ0_isLatin1_aae02 : Nat → Nat
  | 0 => 0
  | 1 => 17
  | 2 => 18
  | _ => 0
def BJ0_checkIndex_df160 : Nat → List MI
  | 0 => [(.iload 0, [], 0), (.iload 1, [], 0), (.getstatic 1053, [2], 0), (.invokestatic 1059, [281, 3], 0), (.pop, [], 0), (.return_, [], 0)]
  | _ => []
def PJ0_checkIndex_df160 : Nat → Nat
  | 0 => 0
  | _ => 0
def BJ1_charAt_3b067 : Nat → List MI
  | 0 => [(.iload 1, [], 0), (.aload 0, [], 0), (.arraylength, [], 0), (.invokestatic 9, [276, 2], 0), (.aload 0, [], 0), (.iload 1, [], 0), (.baload, [], 0), (.sipush 255, [], 0), (.iand, [], 0), (.i2c, [], 0), (.ireturn, [3], 0)]
  | _ => []
def PJ1_charAt_3b067 : Nat → Nat
  | 0 => 0
  | _ => 0
def BJ3_checkIndex_8e157 : Nat → List MI
  | 0 => [(.iload 0, [], 0), (.ifCond .lt 8, [1], 0), (.iload 0, [], 0), (.iload 1, [], 0), (.if_icmp .lt 10, [2], 0), (.invokedynamic 4, [1], 0)]
  | 1 => [(.aload 2, [], 0), (.iload 0, [], 0), (.iload 1, [], 0), (.invokedynamic 9, [], 0)]
  | 2 => [(.iload 0, [], 0), (.ireturn, [0], 0)]
  | _ => []
def PJ3_checkIndex_8e157 : Nat → Nat
  | 0 => 0
  | 1 => 9
  | 2 => 16
  | _ => 0
def BJ7_fill_53178 : Nat → List MI
  | 0 => [(.sipush 0, [], 0), (.istore 2, [], 0), (.aload 0, [], 0), (.arraylength, [], 0), (.istore 3, [], 0), (.invokedynamic 4, [1], 0)]
  | 1 => [(.iload 2, [], 0), (.iload 3, [], 0), (.if_icmp .ge 13, [2], 0), (.aload 0, [], 0), (.iload 2, [], 0), (.iload 1, [], 0), (.iastore, [], 0), (.iinc 2 1, [], 0), (.goto (-12), [1], 0)]
  | 2 => [(.return_, [], 0)]
  | _ => []
def PJ7_fill_53178 : Nat → Nat
  | 0 => 0
  | 1 => 5
  | 2 => 20
  | _ => 0
def BJx29ce0_ordinal_8abf5 : Nat → List MI
  | 0 => [(.aload 0, [], 0), (.getfield 7, [99, 52, 0], 0), (.ireturn, [0], 0)]
  | _ => []
def PJx29ce0_ordinal_8abf5 : Nat → Nat
  | 0 => 0
  | _ => 0
