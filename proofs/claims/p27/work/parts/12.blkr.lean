/-! ===== BLOCKS of the methods, by program out of the claim's own listing: the hand-made land, text, list ===== -/
def BX10_init : Nat → List MI
  | 0 => [(.aload 0, [], 0), (.invokedynamic 5, [1], 0), (.aload 0, [], 0), (.sipush 0, [], 0), (.anewarray 7, [1], 0), (.putfield 9, [10, 4, 2], 0), (.aload 0, [], 0), (.sipush 0, [], 0), (.anewarray 7, [1], 0), (.putfield 15, [10, 5, 2], 0), (.aload 0, [], 0), (.sipush 0, [], 0), (.anewarray 7, [1], 0), (.putfield 18, [10, 6, 2], 0), (.aload 0, [], 0), (.sipush 0, [], 0), (.anewarray 21, [3], 0), (.putfield 23, [10, 7, 2], 0), (.aload 0, [], 0), (.sipush 0, [], 0), (.newarray .boolean, [], 0), (.putfield 27, [10, 8, 2], 0), (.aload 0, [], 0), (.new 30, [12], 0), (.dup, [], 0), (.invokespecial 32, [201, 1], 0), (.putfield 33, [10, 9, 2], 0), (.aload 0, [], 0), (.sipush 0, [], 0), (.anewarray 7, [1], 0), (.putfield 37, [10, 10, 2], 0), (.return_, [], 0)]
  | _ => []
def PX10_init : Nat → Nat
  | 0 => 0
  | _ => 0
def BX10_isOpen : Nat → List MI
  | 0 => [(.aload 0, [], 0), (.getfield 9, [10, 4, 2], 0), (.iload 1, [], 0), (.aaload, [], 0), (.sipush 3, [], 0), (.iaload, [], 0), (.sipush 3, [], 0), (.if_icmp .eq 7, [1], 0), (.sipush 1, [], 0), (.goto 4, [2], 0)]
  | 1 => [(.sipush 0, [], 0), (.invokedynamic 4, [2], 0)]
  | 2 => [(.ireturn, [1], 0)]
  | _ => []
def PX10_isOpen : Nat → Nat
  | 0 => 0
  | 1 => 16
  | 2 => 17
  | _ => 0
def BX10_length : Nat → List MI
  | 0 => [(.aload 0, [], 0), (.getfield 9, [10, 4, 2], 0), (.iload 1, [], 0), (.aaload, [], 0), (.sipush 2, [], 0), (.iaload, [], 0), (.aload 0, [], 0), (.getfield 9, [10, 4, 2], 0), (.iload 1, [], 0), (.aaload, [], 0), (.sipush 3, [], 0), (.iaload, [], 0), (.iadd, [], 0), (.aload 0, [], 0), (.getfield 9, [10, 4, 2], 0), (.iload 1, [], 0), (.aaload, [], 0), (.sipush 3, [], 0), (.iaload, [], 0), (.iadd, [], 0), (.ireturn, [0], 0)]
  | _ => []
def PX10_length : Nat → Nat
  | 0 => 0
  | _ => 0
def BX10_ways : Nat → List MI
  | 0 => [(.aload 0, [], 0), (.getfield 51, [10, 3, 0], 0), (.aload 0, [], 0), (.getfield 51, [10, 3, 0], 0), (.multianewarray 76 2, [0], 0), (.astore 2, [], 0), (.sipush 0, [], 0), (.istore 3, [], 0), (.invokedynamic 4, [1], 0)]
  | 1 => [(.iload 3, [], 0), (.aload 0, [], 0), (.getfield 51, [10, 3, 0], 0), (.if_icmp .ge 46, [6], 0), (.sipush 0, [], 0), (.istore 4, [], 0), (.invokedynamic 4, [2], 0)]
  | 2 => [(.iload 4, [], 0), (.aload 0, [], 0), (.getfield 51, [10, 3, 0], 0), (.if_icmp .ge 28, [5], 0), (.aload 2, [], 0), (.iload 3, [], 0), (.aaload, [], 0), (.iload 4, [], 0), (.iload 3, [], 0), (.iload 4, [], 0), (.if_icmp .ne 7, [3], 0), (.sipush 0, [], 0), (.goto 6, [4], 0)]
  | 3 => [(.sipush 9999, [], 0), (.invokedynamic 4, [4], 0)]
  | 4 => [(.iastore, [], 0), (.iinc 4 1, [], 0), (.goto (-31), [2], 0)]
  | 5 => [(.iinc 3 1, [], 0), (.goto (-48), [1], 0)]
  | 6 => [(.sipush 0, [], 0), (.istore 3, [], 0), (.invokedynamic 4, [7], 0)]
  | 7 => [(.iload 3, [], 0), (.aload 0, [], 0), (.getfield 9, [10, 4, 2], 0), (.arraylength, [], 0), (.if_icmp .ge 96, [10], 0), (.iload 3, [], 0), (.iload 1, [], 0), (.if_icmp .eq 85, [9], 0), (.aload 0, [], 0), (.iload 3, [], 0), (.invokevirtual 77, [131, 2], 0), (.ifCond .ne 6, [8], 0), (.goto 74, [9], 0)]
  | 8 => [(.aload 0, [], 0), (.iload 3, [], 0), (.invokevirtual 81, [133, 2], 0), (.aload 2, [], 0), (.aload 0, [], 0), (.getfield 9, [10, 4, 2], 0), (.iload 3, [], 0), (.aaload, [], 0), (.sipush 0, [], 0), (.iaload, [], 0), (.aaload, [], 0), (.aload 0, [], 0), (.getfield 9, [10, 4, 2], 0), (.iload 3, [], 0), (.aaload, [], 0), (.sipush 1, [], 0), (.iaload, [], 0), (.iaload, [], 0), (.invokedynamic 2, [85], 0), (.istore 4, [], 0), (.aload 2, [], 0), (.aload 0, [], 0), (.getfield 9, [10, 4, 2], 0), (.iload 3, [], 0), (.aaload, [], 0), (.sipush 0, [], 0), (.iaload, [], 0), (.aaload, [], 0), (.aload 0, [], 0), (.getfield 9, [10, 4, 2], 0), (.iload 3, [], 0), (.aaload, [], 0), (.sipush 1, [], 0), (.iaload, [], 0), (.iload 4, [], 0), (.iastore, [], 0), (.aload 2, [], 0), (.aload 0, [], 0), (.getfield 9, [10, 4, 2], 0), (.iload 3, [], 0), (.aaload, [], 0), (.sipush 1, [], 0), (.iaload, [], 0), (.aaload, [], 0), (.aload 0, [], 0), (.getfield 9, [10, 4, 2], 0), (.iload 3, [], 0), (.aaload, [], 0), (.sipush 0, [], 0), (.iaload, [], 0), (.iload 4, [], 0), (.iastore, [], 0), (.invokedynamic 4, [9], 0)]
  | 9 => [(.iinc 3 1, [], 0), (.goto (-99), [7], 0)]
  | 10 => [(.sipush 0, [], 0), (.istore 3, [], 0), (.invokedynamic 4, [11], 0)]
  | 11 => [(.iload 3, [], 0), (.aload 0, [], 0), (.getfield 51, [10, 3, 0], 0), (.if_icmp .ge 75, [16], 0), (.sipush 0, [], 0), (.istore 4, [], 0), (.invokedynamic 4, [12], 0)]
  | 12 => [(.iload 4, [], 0), (.aload 0, [], 0), (.getfield 51, [10, 3, 0], 0), (.if_icmp .ge 57, [15], 0), (.sipush 0, [], 0), (.istore 5, [], 0), (.invokedynamic 4, [13], 0)]
  | 13 => [(.iload 5, [], 0), (.aload 0, [], 0), (.getfield 51, [10, 3, 0], 0), (.if_icmp .ge 39, [14], 0), (.aload 2, [], 0), (.iload 4, [], 0), (.aaload, [], 0), (.iload 5, [], 0), (.aload 2, [], 0), (.iload 4, [], 0), (.aaload, [], 0), (.iload 5, [], 0), (.iaload, [], 0), (.aload 2, [], 0), (.iload 4, [], 0), (.aaload, [], 0), (.iload 3, [], 0), (.iaload, [], 0), (.aload 2, [], 0), (.iload 3, [], 0), (.aaload, [], 0), (.iload 5, [], 0), (.iaload, [], 0), (.iadd, [], 0), (.invokedynamic 2, [85], 0), (.iastore, [], 0), (.iinc 5 1, [], 0), (.goto (-42), [13], 0)]
  | 14 => [(.iinc 4 1, [], 0), (.goto (-60), [12], 0)]
  | 15 => [(.iinc 3 1, [], 0), (.goto (-77), [11], 0)]
  | 16 => [(.aload 2, [], 0), (.areturn, [], 0)]
  | _ => []
def PX10_ways : Nat → Nat
  | 0 => 0
  | 1 => 15
  | 2 => 26
  | 3 => 50
  | 4 => 53
  | 5 => 60
  | 6 => 66
  | 7 => 68
  | 8 => 93
  | 9 => 164
  | 10 => 170
  | 11 => 172
  | 12 => 183
  | 13 => 195
  | 14 => 240
  | 15 => 246
  | 16 => 252
  | _ => 0
def BX10_far : Nat → List MI
  | 0 => [(.aload 0, [], 0), (.sipush (-1), [], 0), (.invokevirtual 91, [134, 2], 0), (.iload 1, [], 0), (.aaload, [], 0), (.iload 2, [], 0), (.iaload, [], 0), (.istore 3, [], 0), (.iload 3, [], 0), (.sipush 9999, [], 0), (.if_icmp .ge 7, [1], 0), (.iload 3, [], 0), (.goto 4, [2], 0)]
  | 1 => [(.sipush (-1), [], 0), (.invokedynamic 4, [2], 0)]
  | 2 => [(.ireturn, [0], 0)]
  | _ => []
def PX10_far : Nat → Nat
  | 0 => 0
  | 1 => 21
  | 2 => 22
  | _ => 0
def BX10_parts : Nat → List MI
  | 0 => [(.aload 0, [], 0), (.sipush (-1), [], 0), (.invokevirtual 91, [134, 2], 0), (.astore 1, [], 0), (.sipush 0, [], 0), (.istore 2, [], 0), (.sipush 0, [], 0), (.istore 3, [], 0), (.invokedynamic 4, [1], 0)]
  | 1 => [(.iload 3, [], 0), (.aload 0, [], 0), (.getfield 51, [10, 3, 0], 0), (.if_icmp .ge 44, [6], 0), (.sipush 0, [], 0), (.istore 4, [], 0), (.invokedynamic 4, [2], 0)]
  | 2 => [(.aload 1, [], 0), (.iload 4, [], 0), (.aaload, [], 0), (.iload 3, [], 0), (.iaload, [], 0), (.sipush 9999, [], 0), (.if_icmp .lt 9, [3], 0), (.iinc 4 1, [], 0), (.goto (-15), [2], 0)]
  | 3 => [(.iload 2, [], 0), (.iload 4, [], 0), (.iload 3, [], 0), (.if_icmp .ne 7, [4], 0), (.sipush 1, [], 0), (.goto 4, [5], 0)]
  | 4 => [(.sipush 0, [], 0), (.invokedynamic 4, [5], 0)]
  | 5 => [(.iadd, [], 0), (.istore 2, [], 0), (.iinc 3 1, [], 0), (.goto (-46), [1], 0)]
  | 6 => [(.iload 2, [], 0), (.ireturn, [0], 0)]
  | _ => []
def PX10_parts : Nat → Nat
  | 0 => 0
  | 1 => 10
  | 2 => 21
  | 3 => 39
  | 4 => 50
  | 5 => 51
  | 6 => 59
  | _ => 0
def BX10_net : Nat → List MI
  | 0 => [(.aload 0, [], 0), (.getfield 9, [10, 4, 2], 0), (.arraylength, [], 0), (.newarray .boolean, [], 0), (.astore 2, [], 0), (.sipush 0, [], 0), (.istore 3, [], 0), (.invokedynamic 4, [1], 0)]
  | 1 => [(.iload 3, [], 0), (.aload 0, [], 0), (.getfield 9, [10, 4, 2], 0), (.arraylength, [], 0), (.if_icmp .ge 233, [18], 0), (.iload 3, [], 0), (.iload 1, [], 0), (.if_icmp .eq 222, [17], 0), (.aload 0, [], 0), (.iload 3, [], 0), (.invokevirtual 77, [131, 2], 0), (.ifCond .ne 6, [2], 0), (.goto 211, [17], 0)]
  | 2 => [(.aload 0, [], 0), (.getfield 51, [10, 3, 0], 0), (.newarray .boolean, [], 0), (.astore 4, [], 0), (.aload 4, [], 0), (.aload 0, [], 0), (.getfield 9, [10, 4, 2], 0), (.iload 3, [], 0), (.aaload, [], 0), (.sipush 0, [], 0), (.iaload, [], 0), (.sipush 1, [], 0), (.bastore, [], 0), (.sipush 0, [], 0), (.istore 5, [], 0), (.invokedynamic 4, [3], 0)]
  | 3 => [(.iload 5, [], 0), (.aload 0, [], 0), (.getfield 51, [10, 3, 0], 0), (.if_icmp .ge 157, [14], 0), (.sipush 0, [], 0), (.istore 6, [], 0), (.invokedynamic 4, [4], 0)]
  | 4 => [(.iload 6, [], 0), (.aload 0, [], 0), (.getfield 9, [10, 4, 2], 0), (.arraylength, [], 0), (.if_icmp .ge 138, [13], 0), (.aload 0, [], 0), (.iload 6, [], 0), (.invokevirtual 81, [133, 2], 0), (.aload 0, [], 0), (.iload 3, [], 0), (.invokevirtual 81, [133, 2], 0), (.if_icmp .lt 23, [5], 0), (.aload 0, [], 0), (.iload 6, [], 0), (.invokevirtual 81, [133, 2], 0), (.aload 0, [], 0), (.iload 3, [], 0), (.invokevirtual 81, [133, 2], 0), (.if_icmp .ne 13, [6], 0), (.iload 6, [], 0), (.iload 3, [], 0), (.if_icmp .ge 7, [6], 0), (.invokedynamic 4, [5], 0)]
  | 5 => [(.sipush 1, [], 0), (.goto 4, [7], 0)]
  | 6 => [(.sipush 0, [], 0), (.invokedynamic 4, [7], 0)]
  | 7 => [(.istore 7, [], 0), (.iload 6, [], 0), (.iload 1, [], 0), (.if_icmp .eq 85, [12], 0), (.aload 0, [], 0), (.iload 6, [], 0), (.invokevirtual 77, [131, 2], 0), (.ifCond .eq 76, [12], 0), (.iload 7, [], 0), (.ifCond .ne 6, [8], 0), (.goto 68, [12], 0)]
  | 8 => [(.aload 4, [], 0), (.aload 0, [], 0), (.getfield 9, [10, 4, 2], 0), (.iload 6, [], 0), (.aaload, [], 0), (.sipush 0, [], 0), (.iaload, [], 0), (.baload, [], 0), (.ifCond .ne 18, [9], 0), (.aload 4, [], 0), (.aload 0, [], 0), (.getfield 9, [10, 4, 2], 0), (.iload 6, [], 0), (.aaload, [], 0), (.sipush 1, [], 0), (.iaload, [], 0), (.baload, [], 0), (.ifCond .eq 7, [10], 0), (.invokedynamic 4, [9], 0)]
  | 9 => [(.sipush 1, [], 0), (.goto 4, [11], 0)]
  | 10 => [(.sipush 0, [], 0), (.invokedynamic 4, [11], 0)]
  | 11 => [(.istore 8, [], 0), (.aload 4, [], 0), (.aload 0, [], 0), (.getfield 9, [10, 4, 2], 0), (.iload 6, [], 0), (.aaload, [], 0), (.sipush 0, [], 0), (.iaload, [], 0), (.iload 8, [], 0), (.bastore, [], 0), (.aload 4, [], 0), (.aload 0, [], 0), (.getfield 9, [10, 4, 2], 0), (.iload 6, [], 0), (.aaload, [], 0), (.sipush 1, [], 0), (.iaload, [], 0), (.iload 8, [], 0), (.bastore, [], 0), (.invokedynamic 4, [12], 0)]
  | 12 => [(.iinc 6 1, [], 0), (.goto (-142), [4], 0)]
  | 13 => [(.iinc 5 1, [], 0), (.goto (-160), [3], 0)]
  | 14 => [(.aload 2, [], 0), (.iload 3, [], 0), (.aload 4, [], 0), (.aload 0, [], 0), (.getfield 9, [10, 4, 2], 0), (.iload 3, [], 0), (.aaload, [], 0), (.sipush 1, [], 0), (.iaload, [], 0), (.baload, [], 0), (.ifCond .ne 7, [15], 0), (.sipush 1, [], 0), (.goto 4, [16], 0)]
  | 15 => [(.sipush 0, [], 0), (.invokedynamic 4, [16], 0)]
  | 16 => [(.bastore, [], 0), (.invokedynamic 4, [17], 0)]
  | 17 => [(.iinc 3 1, [], 0), (.goto (-236), [1], 0)]
  | 18 => [(.aload 2, [], 0), (.areturn, [], 0)]
  | _ => []
def PX10_net : Nat → Nat
  | 0 => 0
  | 1 => 10
  | 2 => 35
  | 3 => 58
  | 4 => 70
  | 5 => 114
  | 6 => 118
  | 7 => 119
  | 8 => 144
  | 9 => 174
  | 10 => 178
  | 11 => 179
  | 12 => 209
  | 13 => 215
  | 14 => 221
  | 15 => 241
  | 16 => 242
  | 17 => 243
  | 18 => 249
  | _ => 0
def BX10_lengthOf : Nat → List MI
  | 0 => [(.sipush 0, [], 0), (.istore 2, [], 0), (.sipush 0, [], 0), (.istore 3, [], 0), (.invokedynamic 4, [1], 0)]
  | 1 => [(.iload 3, [], 0), (.aload 0, [], 0), (.getfield 9, [10, 4, 2], 0), (.arraylength, [], 0), (.if_icmp .ge 27, [4], 0), (.iload 2, [], 0), (.aload 1, [], 0), (.iload 3, [], 0), (.baload, [], 0), (.ifCond .eq 11, [2], 0), (.aload 0, [], 0), (.iload 3, [], 0), (.invokevirtual 81, [133, 2], 0), (.goto 4, [3], 0)]
  | 2 => [(.sipush 0, [], 0), (.invokedynamic 4, [3], 0)]
  | 3 => [(.iadd, [], 0), (.istore 2, [], 0), (.iinc 3 1, [], 0), (.goto (-30), [1], 0)]
  | 4 => [(.iload 2, [], 0), (.ireturn, [0], 0)]
  | _ => []
def PX10_lengthOf : Nat → Nat
  | 0 => 0
  | 1 => 4
  | 2 => 28
  | 3 => 29
  | 4 => 37
  | _ => 0
def BX10_detour : Nat → List MI
  | 0 => [(.aload 0, [], 0), (.iload 1, [], 0), (.invokevirtual 91, [134, 2], 0), (.aload 0, [], 0), (.getfield 9, [10, 4, 2], 0), (.iload 1, [], 0), (.aaload, [], 0), (.sipush 0, [], 0), (.iaload, [], 0), (.aaload, [], 0), (.aload 0, [], 0), (.getfield 9, [10, 4, 2], 0), (.iload 1, [], 0), (.aaload, [], 0), (.sipush 1, [], 0), (.iaload, [], 0), (.iaload, [], 0), (.istore 2, [], 0), (.iload 2, [], 0), (.sipush 9999, [], 0), (.if_icmp .ge 7, [1], 0), (.iload 2, [], 0), (.goto 4, [2], 0)]
  | 1 => [(.sipush (-1), [], 0), (.invokedynamic 4, [2], 0)]
  | 2 => [(.ireturn, [0], 0)]
  | _ => []
def PX10_detour : Nat → Nat
  | 0 => 0
  | 1 => 35
  | 2 => 36
  | _ => 0
def BX10_isSpan : Nat → List MI
  | 0 => [(.aload 0, [], 0), (.iload 1, [], 0), (.invokevirtual 77, [131, 2], 0), (.ifCond .eq 15, [1], 0), (.aload 0, [], 0), (.iload 1, [], 0), (.invokevirtual 99, [144, 2], 0), (.ifCond .ge 7, [1], 0), (.sipush 1, [], 0), (.goto 4, [2], 0)]
  | 1 => [(.sipush 0, [], 0), (.invokedynamic 4, [2], 0)]
  | 2 => [(.ireturn, [1], 0)]
  | _ => []
def PX10_isSpan : Nat → Nat
  | 0 => 0
  | 1 => 20
  | 2 => 21
  | _ => 0
def BX10_heard : Nat → List MI
  | 0 => [(.sipush 0, [], 0), (.istore 2, [], 0), (.aload 0, [], 0), (.getfield 18, [10, 6, 2], 0), (.astore 3, [], 0), (.aload 3, [], 0), (.arraylength, [], 0), (.istore 4, [], 0), (.sipush 0, [], 0), (.istore 5, [], 0), (.invokedynamic 4, [1], 0)]
  | 1 => [(.iload 5, [], 0), (.iload 4, [], 0), (.if_icmp .ge 30, [4], 0), (.aload 3, [], 0), (.iload 5, [], 0), (.aaload, [], 0), (.astore 6, [], 0), (.iload 2, [], 0), (.aload 6, [], 0), (.iload 1, [], 0), (.iaload, [], 0), (.ifCond .lt 7, [2], 0), (.sipush 1, [], 0), (.goto 4, [3], 0)]
  | 2 => [(.sipush 0, [], 0), (.invokedynamic 4, [3], 0)]
  | 3 => [(.iadd, [], 0), (.istore 2, [], 0), (.iinc 5 1, [], 0), (.goto (-31), [1], 0)]
  | 4 => [(.iload 2, [], 0), (.ireturn, [0], 0)]
  | _ => []
def PX10_heard : Nat → Nat
  | 0 => 0
  | 1 => 14
  | 2 => 39
  | 3 => 40
  | 4 => 48
  | _ => 0
def BX10_all : Nat → List MI
  | 0 => [(.sipush 0, [], 0), (.istore 1, [], 0), (.sipush 0, [], 0), (.istore 2, [], 0), (.invokedynamic 4, [1], 0)]
  | 1 => [(.iload 2, [], 0), (.aload 0, [], 0), (.getfield 15, [10, 5, 2], 0), (.arraylength, [], 0), (.if_icmp .ge 17, [2], 0), (.iload 1, [], 0), (.aload 0, [], 0), (.iload 2, [], 0), (.invokevirtual 102, [146, 2], 0), (.iadd, [], 0), (.istore 1, [], 0), (.iinc 2 1, [], 0), (.goto (-20), [1], 0)]
  | 2 => [(.iload 1, [], 0), (.ireturn, [0], 0)]
  | _ => []
def PX10_all : Nat → Nat
  | 0 => 0
  | 1 => 4
  | 2 => 27
  | _ => 0
def BX10_sum : Nat → List MI
  | 0 => [(.aload 1, [], 0), (.sipush 4, [], 0), (.iaload, [], 0), (.istore 2, [], 0), (.aload 1, [], 0), (.sipush 2, [], 0), (.iaload, [], 0), (.tableswitch 108 0 6 #[41, 45, 56, 69, 76, 91, 105], [8, 1, 2, 3, 4, 5, 6, 7], 0)]
  | 1 => [(.iload 2, [], 0), (.sipush 4, [], 0), (.irem, [], 0), (.ireturn, [0], 0)]
  | 2 => [(.aload 0, [], 0), (.getfield 9, [10, 4, 2], 0), (.aload 1, [], 0), (.sipush 5, [], 0), (.iaload, [], 0), (.aaload, [], 0), (.sipush 3, [], 0), (.iaload, [], 0), (.ireturn, [0], 0)]
  | 3 => [(.aload 0, [], 0), (.aload 1, [], 0), (.sipush 8, [], 0), (.iaload, [], 0), (.invokevirtual 102, [146, 2], 0), (.iload 2, [], 0), (.sipush 3, [], 0), (.irem, [], 0), (.isub, [], 0), (.ireturn, [0], 0)]
  | 4 => [(.aload 0, [], 0), (.getfield 41, [10, 0, 0], 0), (.sipush 5, [], 0), (.idiv, [], 0), (.ireturn, [0], 0)]
  | 5 => [(.aload 0, [], 0), (.aload 1, [], 0), (.sipush 6, [], 0), (.iaload, [], 0), (.aload 1, [], 0), (.sipush 7, [], 0), (.iaload, [], 0), (.invokevirtual 105, [140, 3], 0), (.iload 2, [], 0), (.isub, [], 0), (.ireturn, [0], 0)]
  | 6 => [(.aload 0, [], 0), (.aload 1, [], 0), (.sipush 5, [], 0), (.iaload, [], 0), (.invokevirtual 81, [133, 2], 0), (.iload 2, [], 0), (.invokedynamic 2, [85], 0), (.sipush 3, [], 0), (.idiv, [], 0), (.ireturn, [0], 0)]
  | 7 => [(.iload 2, [], 0), (.ineg, [], 0), (.ireturn, [0], 0)]
  | 8 => [(.sipush 1, [], 0), (.iload 2, [], 0), (.sipush 5, [], 0), (.isub, [], 0), (.invokedynamic 1, [108], 0), (.ireturn, [0], 0)]
  | _ => []
def PX10_sum : Nat → Nat
  | 0 => 0
  | 1 => 48
  | 2 => 52
  | 3 => 63
  | 4 => 76
  | 5 => 83
  | 6 => 98
  | 7 => 112
  | 8 => 115
  | _ => 0
def BX10_holds : Nat → List MI
  | 0 => [(.aload 1, [], 0), (.sipush 4, [], 0), (.iaload, [], 0), (.istore 2, [], 0), (.aload 1, [], 0), (.sipush 3, [], 0), (.iaload, [], 0), (.tableswitch 231 0 7 #[45, 59, 67, 97, 120, 141, 161, 185], [26, 1, 4, 5, 9, 12, 15, 18, 21], 0)]
  | 1 => [(.aload 0, [], 0), (.getfield 41, [10, 0, 0], 0), (.iload 2, [], 0), (.if_icmp .le 7, [2], 0), (.sipush 1, [], 0), (.goto 4, [3], 0)]
  | 2 => [(.sipush 0, [], 0), (.invokedynamic 4, [3], 0)]
  | 3 => [(.ireturn, [1], 0)]
  | 4 => [(.aload 0, [], 0), (.aload 1, [], 0), (.sipush 5, [], 0), (.iaload, [], 0), (.invokevirtual 77, [131, 2], 0), (.ireturn, [1], 0)]
  | 5 => [(.aload 0, [], 0), (.aload 1, [], 0), (.sipush 5, [], 0), (.iaload, [], 0), (.invokevirtual 77, [131, 2], 0), (.ifCond .eq 17, [6], 0), (.aload 0, [], 0), (.getfield 9, [10, 4, 2], 0), (.aload 1, [], 0), (.sipush 5, [], 0), (.iaload, [], 0), (.aaload, [], 0), (.sipush 3, [], 0), (.iaload, [], 0), (.sipush 1, [], 0), (.if_icmp .le 7, [7], 0), (.invokedynamic 4, [6], 0)]
  | 6 => [(.sipush 1, [], 0), (.goto 4, [8], 0)]
  | 7 => [(.sipush 0, [], 0), (.invokedynamic 4, [8], 0)]
  | 8 => [(.ireturn, [1], 0)]
  | 9 => [(.aload 0, [], 0), (.getfield 18, [10, 6, 2], 0), (.aload 1, [], 0), (.sipush 6, [], 0), (.iaload, [], 0), (.aaload, [], 0), (.aload 1, [], 0), (.sipush 8, [], 0), (.iaload, [], 0), (.iaload, [], 0), (.ifCond .lt 7, [10], 0), (.sipush 1, [], 0), (.goto 4, [11], 0)]
  | 10 => [(.sipush 0, [], 0), (.invokedynamic 4, [11], 0)]
  | 11 => [(.ireturn, [1], 0)]
  | 12 => [(.aload 0, [], 0), (.aload 1, [], 0), (.sipush 6, [], 0), (.iaload, [], 0), (.aload 1, [], 0), (.sipush 7, [], 0), (.iaload, [], 0), (.invokevirtual 105, [140, 3], 0), (.ifCond .ge 7, [13], 0), (.sipush 1, [], 0), (.goto 4, [14], 0)]
  | 13 => [(.sipush 0, [], 0), (.invokedynamic 4, [14], 0)]
  | 14 => [(.ireturn, [1], 0)]
  | 15 => [(.aload 0, [], 0), (.aload 1, [], 0), (.sipush 8, [], 0), (.iaload, [], 0), (.invokevirtual 102, [146, 2], 0), (.iload 2, [], 0), (.sipush 4, [], 0), (.irem, [], 0), (.if_icmp .lt 7, [16], 0), (.sipush 1, [], 0), (.goto 4, [17], 0)]
  | 16 => [(.sipush 0, [], 0), (.invokedynamic 4, [17], 0)]
  | 17 => [(.ireturn, [1], 0)]
  | 18 => [(.aload 0, [], 0), (.aload 1, [], 0), (.sipush 6, [], 0), (.iaload, [], 0), (.aload 1, [], 0), (.sipush 7, [], 0), (.iaload, [], 0), (.invokevirtual 105, [140, 3], 0), (.sipush 4, [], 0), (.iload 2, [], 0), (.imul, [], 0), (.if_icmp .ge 7, [19], 0), (.sipush 1, [], 0), (.goto 4, [20], 0)]
  | 19 => [(.sipush 0, [], 0), (.invokedynamic 4, [20], 0)]
  | 20 => [(.ireturn, [1], 0)]
  | 21 => [(.aload 0, [], 0), (.getfield 18, [10, 6, 2], 0), (.aload 1, [], 0), (.sipush 7, [], 0), (.iaload, [], 0), (.aaload, [], 0), (.aload 1, [], 0), (.sipush 8, [], 0), (.iaload, [], 0), (.iaload, [], 0), (.ifCond .lt 17, [22], 0), (.aload 0, [], 0), (.aload 1, [], 0), (.sipush 5, [], 0), (.iaload, [], 0), (.invokevirtual 81, [133, 2], 0), (.sipush 9, [], 0), (.iload 2, [], 0), (.imul, [], 0), (.if_icmp .lt 12, [23], 0), (.invokedynamic 4, [22], 0)]
  | 22 => [(.aload 0, [], 0), (.getfield 41, [10, 0, 0], 0), (.sipush 4, [], 0), (.irem, [], 0), (.ifCond .ne 7, [24], 0), (.invokedynamic 4, [23], 0)]
  | 23 => [(.sipush 1, [], 0), (.goto 4, [25], 0)]
  | 24 => [(.sipush 0, [], 0), (.invokedynamic 4, [25], 0)]
  | 25 => [(.ireturn, [1], 0)]
  | 26 => [(.sipush 1, [], 0), (.ireturn, [1], 0)]
  | _ => []
def PX10_holds : Nat → Nat
  | 0 => 0
  | 1 => 52
  | 2 => 64
  | 3 => 65
  | 4 => 66
  | 5 => 74
  | 6 => 98
  | 7 => 102
  | 8 => 103
  | 9 => 104
  | 10 => 125
  | 11 => 126
  | 12 => 127
  | 13 => 146
  | 14 => 147
  | 15 => 148
  | 16 => 166
  | 17 => 167
  | 18 => 168
  | 19 => 190
  | 20 => 191
  | 21 => 192
  | 22 => 223
  | 23 => 232
  | 24 => 236
  | 25 => 237
  | 26 => 238
  | _ => 0
def BX10_carries : Nat → List MI
  | 0 => [(.aload 0, [], 0), (.aload 1, [], 0), (.invokevirtual 111, [149, 2], 0), (.ifCond .ne 5, [1], 0), (.sipush 0, [], 0), (.ireturn, [1], 0)]
  | 1 => [(.aload 1, [], 0), (.sipush 0, [], 0), (.iaload, [], 0), (.sipush 2, [], 0), (.if_icmp .ne 31, [4], 0), (.aload 0, [], 0), (.getfield 27, [10, 8, 2], 0), (.aload 1, [], 0), (.sipush 1, [], 0), (.iaload, [], 0), (.baload, [], 0), (.istore 2, [], 0), (.aload 0, [], 0), (.getfield 27, [10, 8, 2], 0), (.aload 1, [], 0), (.sipush 1, [], 0), (.iaload, [], 0), (.sipush 1, [], 0), (.bastore, [], 0), (.iload 2, [], 0), (.ifCond .ne 7, [2], 0), (.sipush 1, [], 0), (.goto 4, [3], 0)]
  | 2 => [(.sipush 0, [], 0), (.invokedynamic 4, [3], 0)]
  | 3 => [(.ireturn, [1], 0)]
  | 4 => [(.aload 0, [], 0), (.getfield 9, [10, 4, 2], 0), (.aload 1, [], 0), (.sipush 1, [], 0), (.iaload, [], 0), (.aaload, [], 0), (.astore 2, [], 0), (.aload 2, [], 0), (.sipush 3, [], 0), (.iaload, [], 0), (.istore 3, [], 0), (.aload 1, [], 0), (.sipush 0, [], 0), (.iaload, [], 0), (.sipush 1, [], 0), (.if_icmp .ne 16, [5], 0), (.aload 2, [], 0), (.sipush 3, [], 0), (.sipush 0, [], 0), (.iload 3, [], 0), (.sipush 1, [], 0), (.isub, [], 0), (.invokedynamic 1, [108], 0), (.iastore, [], 0), (.goto 25, [6], 0)]
  | 5 => [(.aload 2, [], 0), (.sipush 3, [], 0), (.iload 3, [], 0), (.sipush 3, [], 0), (.iload 3, [], 0), (.sipush 3, [], 0), (.aload 0, [], 0), (.aload 1, [], 0), (.invokevirtual 115, [148, 2], 0), (.invokedynamic 2, [85], 0), (.iadd, [], 0), (.invokedynamic 2, [85], 0), (.invokedynamic 1, [108], 0), (.iastore, [], 0), (.invokedynamic 4, [6], 0)]
  | 6 => [(.aload 2, [], 0), (.sipush 3, [], 0), (.iaload, [], 0), (.iload 3, [], 0), (.if_icmp .eq 7, [7], 0), (.sipush 1, [], 0), (.goto 4, [8], 0)]
  | 7 => [(.sipush 0, [], 0), (.invokedynamic 4, [8], 0)]
  | 8 => [(.ireturn, [1], 0)]
  | _ => []
def PX10_carries : Nat → Nat
  | 0 => 0
  | 1 => 10
  | 2 => 43
  | 3 => 44
  | 4 => 45
  | 5 => 78
  | 6 => 100
  | 7 => 111
  | 8 => 112
  | _ => 0
def BX10_hears : Nat → List MI
  | 0 => [(.aload 0, [], 0), (.getfield 18, [10, 6, 2], 0), (.iload 1, [], 0), (.aaload, [], 0), (.iload 2, [], 0), (.iaload, [], 0), (.ifCond .lt 5, [1], 0), (.sipush 0, [], 0), (.ireturn, [1], 0)]
  | 1 => [(.aload 0, [], 0), (.getfield 18, [10, 6, 2], 0), (.iload 1, [], 0), (.aaload, [], 0), (.iload 2, [], 0), (.aload 0, [], 0), (.getfield 41, [10, 0, 0], 0), (.iastore, [], 0), (.sipush 1, [], 0), (.ireturn, [1], 0)]
  | _ => []
def PX10_hears : Nat → Nat
  | 0 => 0
  | 1 => 13
  | _ => 0
def BX10_pass : Nat → List MI
  | 0 => [(.aload 0, [], 0), (.invokevirtual 119, [147, 1], 0), (.istore 2, [], 0), (.sipush 0, [], 0), (.istore 3, [], 0), (.invokedynamic 4, [1], 0)]
  | 1 => [(.iload 3, [], 0), (.iload 1, [], 0), (.if_icmp .ge 477, [27], 0), (.aload 0, [], 0), (.getfield 37, [10, 10, 2], 0), (.astore 4, [], 0), (.aload 4, [], 0), (.arraylength, [], 0), (.istore 5, [], 0), (.sipush 0, [], 0), (.istore 6, [], 0), (.invokedynamic 4, [2], 0)]
  | 2 => [(.iload 6, [], 0), (.iload 5, [], 0), (.if_icmp .ge 39, [5], 0), (.aload 4, [], 0), (.iload 6, [], 0), (.aaload, [], 0), (.astore 7, [], 0), (.aload 0, [], 0), (.dup, [], 0), (.getfield 45, [10, 1, 0], 0), (.aload 0, [], 0), (.aload 7, [], 0), (.invokevirtual 123, [150, 2], 0), (.ifCond .eq 7, [3], 0), (.sipush 1, [], 0), (.goto 4, [4], 0)]
  | 3 => [(.sipush 0, [], 0), (.invokedynamic 4, [4], 0)]
  | 4 => [(.iadd, [], 0), (.putfield 45, [10, 1, 0], 0), (.iinc 6 1, [], 0), (.goto (-40), [2], 0)]
  | 5 => [(.aload 0, [], 0), (.getfield 33, [10, 9, 2], 0), (.invokevirtual 126, [204, 1], 0), (.sipush 1, [], 0), (.isub, [], 0), (.istore 4, [], 0), (.invokedynamic 4, [6], 0)]
  | 6 => [(.iload 4, [], 0), (.ifCond .lt 53, [9], 0), (.aload 0, [], 0), (.aload 0, [], 0), (.getfield 33, [10, 9, 2], 0), (.iload 4, [], 0), (.invokevirtual 129, [198, 2], 0), (.checkcast 7, [0], 0), (.sipush 1, [], 0), (.iaload, [], 0), (.invokevirtual 77, [131, 2], 0), (.ifCond .eq 6, [7], 0), (.goto 23, [8], 0)]
  | 7 => [(.aload 0, [], 0), (.getfield 33, [10, 9, 2], 0), (.iload 4, [], 0), (.invokevirtual 133, [203, 2], 0), (.pop, [], 0), (.aload 0, [], 0), (.dup, [], 0), (.getfield 48, [10, 2, 0], 0), (.sipush 1, [], 0), (.iadd, [], 0), (.putfield 48, [10, 2, 0], 0), (.invokedynamic 4, [8], 0)]
  | 8 => [(.iinc 4 (-1), [], 0), (.goto (-52), [6], 0)]
  | 9 => [(.sipush 0, [], 0), (.istore 4, [], 0), (.invokedynamic 4, [10], 0)]
  | 10 => [(.iload 4, [], 0), (.aload 0, [], 0), (.getfield 15, [10, 5, 2], 0), (.arraylength, [], 0), (.if_icmp .ge 41, [12], 0), (.aload 0, [], 0), (.getfield 15, [10, 5, 2], 0), (.iload 4, [], 0), (.aaload, [], 0), (.sipush 1, [], 0), (.iaload, [], 0), (.aload 0, [], 0), (.getfield 41, [10, 0, 0], 0), (.if_icmp .ne 19, [11], 0), (.aload 0, [], 0), (.aload 0, [], 0), (.getfield 15, [10, 5, 2], 0), (.iload 4, [], 0), (.aaload, [], 0), (.sipush 0, [], 0), (.iaload, [], 0), (.iload 4, [], 0), (.invokevirtual 136, [151, 3], 0), (.pop, [], 0), (.invokedynamic 4, [11], 0)]
  | 11 => [(.iinc 4 1, [], 0), (.goto (-45), [10], 0)]
  | 12 => [(.sipush 0, [], 0), (.istore 4, [], 0), (.invokedynamic 4, [13], 0)]
  | 13 => [(.iload 4, [], 0), (.aload 0, [], 0), (.getfield 33, [10, 9, 2], 0), (.invokevirtual 126, [204, 1], 0), (.if_icmp .ge 87, [16], 0), (.aload 0, [], 0), (.getfield 33, [10, 9, 2], 0), (.iload 4, [], 0), (.invokevirtual 129, [198, 2], 0), (.checkcast 7, [0], 0), (.astore 5, [], 0), (.aload 5, [], 0), (.sipush 3, [], 0), (.dup2, [], 0), (.iaload, [], 0), (.sipush 1, [], 0), (.iadd, [], 0), (.iastore, [], 0), (.aload 5, [], 0), (.sipush 3, [], 0), (.iaload, [], 0), (.aload 0, [], 0), (.aload 5, [], 0), (.sipush 1, [], 0), (.iaload, [], 0), (.invokevirtual 81, [133, 2], 0), (.if_icmp .ge 6, [14], 0), (.goto 41, [15], 0)]
  | 14 => [(.aload 0, [], 0), (.aload 0, [], 0), (.getfield 9, [10, 4, 2], 0), (.aload 5, [], 0), (.sipush 1, [], 0), (.iaload, [], 0), (.aaload, [], 0), (.sipush 1, [], 0), (.aload 5, [], 0), (.sipush 2, [], 0), (.iaload, [], 0), (.isub, [], 0), (.iaload, [], 0), (.aload 5, [], 0), (.sipush 0, [], 0), (.iaload, [], 0), (.invokevirtual 136, [151, 3], 0), (.pop, [], 0), (.aload 0, [], 0), (.getfield 33, [10, 9, 2], 0), (.iload 4, [], 0), (.invokevirtual 133, [203, 2], 0), (.pop, [], 0), (.iinc 4 (-1), [], 0), (.invokedynamic 4, [15], 0)]
  | 15 => [(.iinc 4 1, [], 0), (.goto (-93), [13], 0)]
  | 16 => [(.sipush 0, [], 0), (.istore 4, [], 0), (.invokedynamic 4, [17], 0)]
  | 17 => [(.iload 4, [], 0), (.aload 0, [], 0), (.getfield 51, [10, 3, 0], 0), (.if_icmp .ge 166, [26], 0), (.sipush 0, [], 0), (.istore 5, [], 0), (.invokedynamic 4, [18], 0)]
  | 18 => [(.iload 5, [], 0), (.aload 0, [], 0), (.getfield 15, [10, 5, 2], 0), (.arraylength, [], 0), (.if_icmp .ge 147, [25], 0), (.aload 0, [], 0), (.getfield 27, [10, 8, 2], 0), (.iload 4, [], 0), (.baload, [], 0), (.ifCond .ne 131, [24], 0), (.aload 0, [], 0), (.getfield 18, [10, 6, 2], 0), (.iload 4, [], 0), (.aaload, [], 0), (.iload 5, [], 0), (.iaload, [], 0), (.ifCond .lt 118, [24], 0), (.aload 0, [], 0), (.getfield 23, [10, 7, 2], 0), (.iload 4, [], 0), (.aaload, [], 0), (.iload 5, [], 0), (.baload, [], 0), (.ifCond .eq 6, [19], 0), (.goto 102, [24], 0)]
  | 19 => [(.aload 0, [], 0), (.getfield 23, [10, 7, 2], 0), (.iload 4, [], 0), (.aaload, [], 0), (.iload 5, [], 0), (.sipush 1, [], 0), (.bastore, [], 0), (.sipush 0, [], 0), (.istore 6, [], 0), (.invokedynamic 4, [20], 0)]
  | 20 => [(.iload 6, [], 0), (.aload 0, [], 0), (.getfield 9, [10, 4, 2], 0), (.arraylength, [], 0), (.if_icmp .ge 78, [24], 0), (.sipush 0, [], 0), (.istore 7, [], 0), (.invokedynamic 4, [21], 0)]
  | 21 => [(.iload 7, [], 0), (.sipush 2, [], 0), (.if_icmp .ge 63, [23], 0), (.aload 0, [], 0), (.iload 6, [], 0), (.invokevirtual 77, [131, 2], 0), (.ifCond .eq 48, [22], 0), (.aload 0, [], 0), (.getfield 9, [10, 4, 2], 0), (.iload 6, [], 0), (.aaload, [], 0), (.iload 7, [], 0), (.iaload, [], 0), (.iload 4, [], 0), (.if_icmp .ne 33, [22], 0), (.aload 0, [], 0), (.getfield 33, [10, 9, 2], 0), (.sipush 4, [], 0), (.newarray .int, [], 0), (.dup, [], 0), (.sipush 0, [], 0), (.iload 5, [], 0), (.iastore, [], 0), (.dup, [], 0), (.sipush 1, [], 0), (.iload 6, [], 0), (.iastore, [], 0), (.dup, [], 0), (.sipush 2, [], 0), (.iload 7, [], 0), (.iastore, [], 0), (.dup, [], 0), (.sipush 3, [], 0), (.sipush 0, [], 0), (.iastore, [], 0), (.invokevirtual 72, [195, 2], 0), (.pop, [], 0), (.invokedynamic 4, [22], 0)]
  | 22 => [(.iinc 7 1, [], 0), (.goto (-63), [21], 0)]
  | 23 => [(.iinc 6 1, [], 0), (.goto (-82), [20], 0)]
  | 24 => [(.iinc 5 1, [], 0), (.goto (-151), [18], 0)]
  | 25 => [(.iinc 4 1, [], 0), (.goto (-169), [17], 0)]
  | 26 => [(.aload 0, [], 0), (.dup, [], 0), (.getfield 41, [10, 0, 0], 0), (.sipush 1, [], 0), (.iadd, [], 0), (.putfield 41, [10, 0, 0], 0), (.aload 0, [], 0), (.aload 0, [], 0), (.getfield 51, [10, 3, 0], 0), (.newarray .boolean, [], 0), (.putfield 27, [10, 8, 2], 0), (.iinc 3 1, [], 0), (.goto (-476), [1], 0)]
  | 27 => [(.aload 0, [], 0), (.invokevirtual 119, [147, 1], 0), (.iload 2, [], 0), (.isub, [], 0), (.ireturn, [0], 0)]
  | _ => []
def PX10_pass : Nat → Nat
  | 0 => 0
  | 1 => 7
  | 2 => 26
  | 3 => 58
  | 4 => 59
  | 5 => 69
  | 6 => 80
  | 7 => 109
  | 8 => 129
  | 9 => 135
  | 10 => 138
  | 11 => 180
  | 12 => 186
  | 13 => 189
  | 14 => 241
  | 15 => 279
  | 16 => 285
  | 17 => 288
  | 18 => 300
  | 19 => 349
  | 20 => 363
  | 21 => 376
  | 22 => 436
  | 23 => 442
  | 24 => 448
  | 25 => 454
  | 26 => 460
  | 27 => 486
  | _ => 0
def BX10_counts : Nat → List MI
  | 0 => [(.sipush 0, [], 0), (.istore 1, [], 0), (.sipush 0, [], 0), (.istore 2, [], 0), (.sipush 0, [], 0), (.istore 3, [], 0), (.sipush 0, [], 0), (.istore 4, [], 0), (.invokedynamic 4, [1], 0)]
  | 1 => [(.iload 4, [], 0), (.aload 0, [], 0), (.getfield 9, [10, 4, 2], 0), (.arraylength, [], 0), (.if_icmp .ge 72, [8], 0), (.iload 1, [], 0), (.aload 0, [], 0), (.iload 4, [], 0), (.invokevirtual 77, [131, 2], 0), (.ifCond .eq 7, [2], 0), (.sipush 1, [], 0), (.goto 4, [3], 0)]
  | 2 => [(.sipush 0, [], 0), (.invokedynamic 4, [3], 0)]
  | 3 => [(.iadd, [], 0), (.istore 1, [], 0), (.iload 2, [], 0), (.aload 0, [], 0), (.iload 4, [], 0), (.invokevirtual 140, [145, 2], 0), (.ifCond .eq 7, [4], 0), (.sipush 1, [], 0), (.goto 4, [5], 0)]
  | 4 => [(.sipush 0, [], 0), (.invokedynamic 4, [5], 0)]
  | 5 => [(.iadd, [], 0), (.istore 2, [], 0), (.iload 3, [], 0), (.aload 0, [], 0), (.iload 4, [], 0), (.invokevirtual 140, [145, 2], 0), (.ifCond .eq 19, [6], 0), (.aload 0, [], 0), (.getfield 9, [10, 4, 2], 0), (.iload 4, [], 0), (.aaload, [], 0), (.sipush 3, [], 0), (.iaload, [], 0), (.ifCond .le 7, [6], 0), (.sipush 1, [], 0), (.goto 4, [7], 0)]
  | 6 => [(.sipush 0, [], 0), (.invokedynamic 4, [7], 0)]
  | 7 => [(.iadd, [], 0), (.istore 3, [], 0), (.iinc 4 1, [], 0), (.goto (-76), [1], 0)]
  | 8 => [(.sipush 15, [], 0), (.newarray .int, [], 0), (.dup, [], 0), (.sipush 0, [], 0), (.aload 0, [], 0), (.getfield 41, [10, 0, 0], 0), (.iastore, [], 0), (.dup, [], 0), (.sipush 1, [], 0), (.aload 0, [], 0), (.getfield 51, [10, 3, 0], 0), (.iastore, [], 0), (.dup, [], 0), (.sipush 2, [], 0), (.aload 0, [], 0), (.getfield 9, [10, 4, 2], 0), (.arraylength, [], 0), (.iastore, [], 0), (.dup, [], 0), (.sipush 3, [], 0), (.aload 0, [], 0), (.getfield 15, [10, 5, 2], 0), (.arraylength, [], 0), (.iastore, [], 0), (.dup, [], 0), (.sipush 4, [], 0), (.aload 0, [], 0), (.getfield 37, [10, 10, 2], 0), (.arraylength, [], 0), (.iastore, [], 0), (.dup, [], 0), (.sipush 5, [], 0), (.iload 1, [], 0), (.iastore, [], 0), (.dup, [], 0), (.sipush 6, [], 0), (.iload 2, [], 0), (.iastore, [], 0), (.dup, [], 0), (.sipush 7, [], 0), (.aload 0, [], 0), (.invokevirtual 143, [141, 1], 0), (.iastore, [], 0), (.dup, [], 0), (.sipush 8, [], 0), (.aload 0, [], 0), (.getfield 33, [10, 9, 2], 0), (.invokevirtual 126, [204, 1], 0), (.iastore, [], 0), (.dup, [], 0), (.sipush 9, [], 0), (.aload 0, [], 0), (.invokevirtual 119, [147, 1], 0), (.iastore, [], 0), (.dup, [], 0), (.sipush 10, [], 0), (.aload 0, [], 0), (.getfield 45, [10, 1, 0], 0), (.iastore, [], 0), (.dup, [], 0), (.sipush 11, [], 0), (.aload 0, [], 0), (.aload 0, [], 0), (.sipush (-1), [], 0), (.invokevirtual 95, [142, 2], 0), (.invokevirtual 146, [143, 2], 0), (.iastore, [], 0), (.dup, [], 0), (.sipush 12, [], 0), (.iload 3, [], 0), (.iastore, [], 0), (.dup, [], 0), (.sipush 13, [], 0), (.aload 0, [], 0), (.getfield 48, [10, 2, 0], 0), (.iastore, [], 0), (.dup, [], 0), (.sipush 14, [], 0), (.sipush 0, [], 0), (.iastore, [], 0), (.areturn, [], 0)]
  | _ => []
def PX10_counts : Nat → Nat
  | 0 => 0
  | 1 => 9
  | 2 => 33
  | 3 => 34
  | 4 => 50
  | 5 => 51
  | 6 => 79
  | 7 => 80
  | 8 => 88
  | _ => 0
def BX10_isSame : Nat → List MI
  | 0 => [(.aload 0, [], 0), (.invokevirtual 150, [153, 1], 0), (.astore 2, [], 0), (.sipush 0, [], 0), (.istore 3, [], 0), (.invokedynamic 4, [1], 0)]
  | 1 => [(.iload 3, [], 0), (.sipush 15, [], 0), (.if_icmp .ge 22, [3], 0), (.aload 1, [], 0), (.iload 3, [], 0), (.invokevirtual 154, [110, 2], 0), (.aload 2, [], 0), (.iload 3, [], 0), (.iaload, [], 0), (.if_icmp .eq 5, [2], 0), (.sipush 0, [], 0), (.ireturn, [1], 0)]
  | 2 => [(.iinc 3 1, [], 0), (.goto (-22), [1], 0)]
  | 3 => [(.aload 0, [], 0), (.sipush (-1), [], 0), (.invokevirtual 91, [134, 2], 0), (.astore 3, [], 0), (.aload 0, [], 0), (.sipush (-1), [], 0), (.invokevirtual 95, [142, 2], 0), (.astore 4, [], 0), (.sipush 0, [], 0), (.istore 5, [], 0), (.sipush 0, [], 0), (.istore 6, [], 0), (.invokedynamic 4, [4], 0)]
  | 4 => [(.iload 6, [], 0), (.aload 0, [], 0), (.getfield 51, [10, 3, 0], 0), (.if_icmp .ge 260, [22], 0), (.sipush 4, [], 0), (.newarray .int, [], 0), (.dup, [], 0), (.sipush 0, [], 0), (.sipush 0, [], 0), (.iastore, [], 0), (.dup, [], 0), (.sipush 1, [], 0), (.sipush 0, [], 0), (.iastore, [], 0), (.dup, [], 0), (.sipush 2, [], 0), (.aload 0, [], 0), (.getfield 51, [10, 3, 0], 0), (.iastore, [], 0), (.dup, [], 0), (.sipush 3, [], 0), (.sipush 0, [], 0), (.iastore, [], 0), (.astore 7, [], 0), (.sipush 0, [], 0), (.istore 8, [], 0), (.invokedynamic 4, [5], 0)]
  | 5 => [(.iload 8, [], 0), (.aload 0, [], 0), (.getfield 9, [10, 4, 2], 0), (.arraylength, [], 0), (.if_icmp .ge 58, [9], 0), (.aload 7, [], 0), (.sipush 0, [], 0), (.dup2, [], 0), (.iaload, [], 0), (.aload 0, [], 0), (.iload 8, [], 0), (.invokevirtual 77, [131, 2], 0), (.ifCond .eq 35, [7], 0), (.aload 0, [], 0), (.getfield 9, [10, 4, 2], 0), (.iload 8, [], 0), (.aaload, [], 0), (.sipush 0, [], 0), (.iaload, [], 0), (.iload 6, [], 0), (.if_icmp .eq 17, [6], 0), (.aload 0, [], 0), (.getfield 9, [10, 4, 2], 0), (.iload 8, [], 0), (.aaload, [], 0), (.sipush 1, [], 0), (.iaload, [], 0), (.iload 6, [], 0), (.if_icmp .ne 7, [7], 0), (.invokedynamic 4, [6], 0)]
  | 6 => [(.sipush 1, [], 0), (.goto 4, [8], 0)]
  | 7 => [(.sipush 0, [], 0), (.invokedynamic 4, [8], 0)]
  | 8 => [(.iadd, [], 0), (.iastore, [], 0), (.iinc 8 1, [], 0), (.goto (-62), [5], 0)]
  | 9 => [(.sipush 0, [], 0), (.istore 8, [], 0), (.invokedynamic 4, [10], 0)]
  | 10 => [(.iload 8, [], 0), (.aload 0, [], 0), (.getfield 15, [10, 5, 2], 0), (.arraylength, [], 0), (.if_icmp .ge 57, [14], 0), (.aload 7, [], 0), (.sipush 1, [], 0), (.dup2, [], 0), (.iaload, [], 0), (.aload 0, [], 0), (.getfield 18, [10, 6, 2], 0), (.iload 6, [], 0), (.aaload, [], 0), (.iload 8, [], 0), (.iaload, [], 0), (.ifCond .lt 7, [11], 0), (.sipush 1, [], 0), (.goto 4, [12], 0)]
  | 11 => [(.sipush 0, [], 0), (.invokedynamic 4, [12], 0)]
  | 12 => [(.iadd, [], 0), (.iastore, [], 0), (.aload 1, [], 0), (.iload 6, [], 0), (.iload 8, [], 0), (.invokevirtual 159, [118, 3], 0), (.aload 0, [], 0), (.getfield 18, [10, 6, 2], 0), (.iload 6, [], 0), (.aaload, [], 0), (.iload 8, [], 0), (.iaload, [], 0), (.if_icmp .eq 5, [13], 0), (.sipush 0, [], 0), (.ireturn, [1], 0)]
  | 13 => [(.iinc 8 1, [], 0), (.goto (-61), [10], 0)]
  | 14 => [(.aload 0, [], 0), (.getfield 51, [10, 3, 0], 0), (.sipush 1, [], 0), (.isub, [], 0), (.istore 8, [], 0), (.invokedynamic 4, [15], 0)]
  | 15 => [(.iload 8, [], 0), (.ifCond .lt 49, [18], 0), (.aload 3, [], 0), (.iload 6, [], 0), (.aaload, [], 0), (.iload 8, [], 0), (.iaload, [], 0), (.sipush 9999, [], 0), (.if_icmp .lt 6, [16], 0), (.goto 27, [17], 0)]
  | 16 => [(.aload 7, [], 0), (.sipush 2, [], 0), (.iload 8, [], 0), (.iastore, [], 0), (.aload 7, [], 0), (.sipush 3, [], 0), (.aload 7, [], 0), (.sipush 3, [], 0), (.iaload, [], 0), (.aload 3, [], 0), (.iload 6, [], 0), (.aaload, [], 0), (.iload 8, [], 0), (.iaload, [], 0), (.invokedynamic 1, [108], 0), (.iastore, [], 0), (.invokedynamic 4, [17], 0)]
  | 17 => [(.iinc 8 (-1), [], 0), (.goto (-48), [15], 0)]
  | 18 => [(.sipush 0, [], 0), (.istore 8, [], 0), (.invokedynamic 4, [19], 0)]
  | 19 => [(.iload 8, [], 0), (.sipush 4, [], 0), (.if_icmp .ge 27, [21], 0), (.aload 1, [], 0), (.iload 6, [], 0), (.iload 8, [], 0), (.invokevirtual 161, [112, 3], 0), (.aload 7, [], 0), (.iload 8, [], 0), (.iaload, [], 0), (.if_icmp .eq 5, [20], 0), (.sipush 0, [], 0), (.ireturn, [1], 0)]
  | 20 => [(.iinc 8 1, [], 0), (.goto (-27), [19], 0)]
  | 21 => [(.iinc 6 1, [], 0), (.goto (-263), [4], 0)]
  | 22 => [(.sipush 0, [], 0), (.istore 6, [], 0), (.invokedynamic 4, [23], 0)]
  | 23 => [(.iload 6, [], 0), (.aload 0, [], 0), (.getfield 9, [10, 4, 2], 0), (.arraylength, [], 0), (.if_icmp .ge 243, [39], 0), (.sipush 9, [], 0), (.newarray .int, [], 0), (.dup, [], 0), (.sipush 0, [], 0), (.aload 0, [], 0), (.getfield 9, [10, 4, 2], 0), (.iload 6, [], 0), (.aaload, [], 0), (.sipush 0, [], 0), (.iaload, [], 0), (.iastore, [], 0), (.dup, [], 0), (.sipush 1, [], 0), (.aload 0, [], 0), (.getfield 9, [10, 4, 2], 0), (.iload 6, [], 0), (.aaload, [], 0), (.sipush 1, [], 0), (.iaload, [], 0), (.iastore, [], 0), (.dup, [], 0), (.sipush 2, [], 0), (.aload 0, [], 0), (.getfield 9, [10, 4, 2], 0), (.iload 6, [], 0), (.aaload, [], 0), (.sipush 2, [], 0), (.iaload, [], 0), (.iastore, [], 0), (.dup, [], 0), (.sipush 3, [], 0), (.aload 0, [], 0), (.getfield 9, [10, 4, 2], 0), (.iload 6, [], 0), (.aaload, [], 0), (.sipush 3, [], 0), (.iaload, [], 0), (.iastore, [], 0), (.dup, [], 0), (.sipush 4, [], 0), (.aload 0, [], 0), (.iload 6, [], 0), (.invokevirtual 81, [133, 2], 0), (.iastore, [], 0), (.dup, [], 0), (.sipush 5, [], 0), (.aload 0, [], 0), (.iload 6, [], 0), (.invokevirtual 77, [131, 2], 0), (.ifCond .eq 7, [24], 0), (.sipush 1, [], 0), (.goto 4, [25], 0)]
  | 24 => [(.sipush 0, [], 0), (.invokedynamic 4, [25], 0)]
  | 25 => [(.iastore, [], 0), (.dup, [], 0), (.sipush 6, [], 0), (.aload 0, [], 0), (.iload 6, [], 0), (.invokevirtual 140, [145, 2], 0), (.ifCond .eq 7, [26], 0), (.sipush 1, [], 0), (.goto 4, [27], 0)]
  | 26 => [(.sipush 0, [], 0), (.invokedynamic 4, [27], 0)]
  | 27 => [(.iastore, [], 0), (.dup, [], 0), (.sipush 7, [], 0), (.aload 4, [], 0), (.iload 6, [], 0), (.baload, [], 0), (.ifCond .eq 7, [28], 0), (.sipush 1, [], 0), (.goto 4, [29], 0)]
  | 28 => [(.sipush 0, [], 0), (.invokedynamic 4, [29], 0)]
  | 29 => [(.iastore, [], 0), (.dup, [], 0), (.sipush 8, [], 0), (.sipush 0, [], 0), (.iastore, [], 0), (.astore 7, [], 0), (.aload 0, [], 0), (.getfield 33, [10, 9, 2], 0), (.invokevirtual 59, [202, 1], 0), (.astore 8, [], 0), (.invokedynamic 4, [30], 0)]
  | 30 => [(.aload 8, [], 0), (.invokeinterface 63 1, [191, 1], 0), (.ifCond .eq 40, [33], 0), (.aload 8, [], 0), (.invokeinterface 69 1, [193, 1], 0), (.checkcast 7, [0], 0), (.astore 9, [], 0), (.aload 7, [], 0), (.sipush 8, [], 0), (.dup2, [], 0), (.iaload, [], 0), (.aload 9, [], 0), (.sipush 1, [], 0), (.iaload, [], 0), (.iload 6, [], 0), (.if_icmp .ne 7, [31], 0), (.sipush 1, [], 0), (.goto 4, [32], 0)]
  | 31 => [(.sipush 0, [], 0), (.invokedynamic 4, [32], 0)]
  | 32 => [(.iadd, [], 0), (.iastore, [], 0), (.goto (-44), [30], 0)]
  | 33 => [(.sipush 0, [], 0), (.istore 8, [], 0), (.invokedynamic 4, [34], 0)]
  | 34 => [(.iload 8, [], 0), (.sipush 9, [], 0), (.if_icmp .ge 27, [36], 0), (.aload 1, [], 0), (.iload 6, [], 0), (.iload 8, [], 0), (.invokevirtual 164, [114, 3], 0), (.aload 7, [], 0), (.iload 8, [], 0), (.iaload, [], 0), (.if_icmp .eq 5, [35], 0), (.sipush 0, [], 0), (.ireturn, [1], 0)]
  | 35 => [(.iinc 8 1, [], 0), (.goto (-28), [34], 0)]
  | 36 => [(.iload 5, [], 0), (.aload 0, [], 0), (.iload 6, [], 0), (.invokevirtual 77, [131, 2], 0), (.ifCond .eq 12, [37], 0), (.aload 0, [], 0), (.iload 6, [], 0), (.invokevirtual 81, [133, 2], 0), (.goto 4, [38], 0)]
  | 37 => [(.sipush 0, [], 0), (.invokedynamic 4, [38], 0)]
  | 38 => [(.iadd, [], 0), (.istore 5, [], 0), (.iinc 6 1, [], 0), (.goto (-247), [23], 0)]
  | 39 => [(.sipush 0, [], 0), (.istore 6, [], 0), (.invokedynamic 4, [40], 0)]
  | 40 => [(.iload 6, [], 0), (.aload 0, [], 0), (.getfield 15, [10, 5, 2], 0), (.arraylength, [], 0), (.if_icmp .ge 139, [48], 0), (.sipush 4, [], 0), (.newarray .int, [], 0), (.dup, [], 0), (.sipush 0, [], 0), (.aload 0, [], 0), (.getfield 15, [10, 5, 2], 0), (.iload 6, [], 0), (.aaload, [], 0), (.sipush 0, [], 0), (.iaload, [], 0), (.iastore, [], 0), (.dup, [], 0), (.sipush 1, [], 0), (.aload 0, [], 0), (.getfield 15, [10, 5, 2], 0), (.iload 6, [], 0), (.aaload, [], 0), (.sipush 1, [], 0), (.iaload, [], 0), (.iastore, [], 0), (.dup, [], 0), (.sipush 2, [], 0), (.aload 0, [], 0), (.iload 6, [], 0), (.invokevirtual 102, [146, 2], 0), (.iastore, [], 0), (.dup, [], 0), (.sipush 3, [], 0), (.sipush 0, [], 0), (.iastore, [], 0), (.astore 7, [], 0), (.aload 0, [], 0), (.getfield 33, [10, 9, 2], 0), (.invokevirtual 59, [202, 1], 0), (.astore 8, [], 0), (.invokedynamic 4, [41], 0)]
  | 41 => [(.aload 8, [], 0), (.invokeinterface 63 1, [191, 1], 0), (.ifCond .eq 39, [44], 0), (.aload 8, [], 0), (.invokeinterface 69 1, [193, 1], 0), (.checkcast 7, [0], 0), (.astore 9, [], 0), (.aload 7, [], 0), (.sipush 3, [], 0), (.dup2, [], 0), (.iaload, [], 0), (.aload 9, [], 0), (.sipush 0, [], 0), (.iaload, [], 0), (.iload 6, [], 0), (.if_icmp .ne 7, [42], 0), (.sipush 1, [], 0), (.goto 4, [43], 0)]
  | 42 => [(.sipush 0, [], 0), (.invokedynamic 4, [43], 0)]
  | 43 => [(.iadd, [], 0), (.iastore, [], 0), (.goto (-43), [41], 0)]
  | 44 => [(.sipush 0, [], 0), (.istore 8, [], 0), (.invokedynamic 4, [45], 0)]
  | 45 => [(.iload 8, [], 0), (.sipush 4, [], 0), (.if_icmp .ge 27, [47], 0), (.aload 1, [], 0), (.iload 6, [], 0), (.iload 8, [], 0), (.invokevirtual 167, [116, 3], 0), (.aload 7, [], 0), (.iload 8, [], 0), (.iaload, [], 0), (.if_icmp .eq 5, [46], 0), (.sipush 0, [], 0), (.ireturn, [1], 0)]
  | 46 => [(.iinc 8 1, [], 0), (.goto (-27), [45], 0)]
  | 47 => [(.iinc 6 1, [], 0), (.goto (-143), [40], 0)]
  | 48 => [(.aload 1, [], 0), (.invokevirtual 170, [136, 1], 0), (.aload 2, [], 0), (.sipush 5, [], 0), (.iaload, [], 0), (.ifCond .ne 7, [49], 0), (.dconst 0, [], 0), (.goto 11, [50], 0)]
  | 49 => [(.iload 5, [], 0), (.i2d, [], 0), (.aload 2, [], 0), (.sipush 5, [], 0), (.iaload, [], 0), (.i2d, [], 0), (.ddiv, [], 0), (.invokedynamic 4, [50], 0)]
  | 50 => [(.dcmp .l, [], 0), (.ifCond .ne 7, [51], 0), (.sipush 1, [], 0), (.goto 4, [52], 0)]
  | 51 => [(.sipush 0, [], 0), (.invokedynamic 4, [52], 0)]
  | 52 => [(.ireturn, [1], 0)]
  | _ => []
def PX10_isSame : Nat → Nat
  | 0 => 0
  | 1 => 7
  | 2 => 26
  | 3 => 32
  | 4 => 51
  | 5 => 87
  | 6 => 139
  | 7 => 143
  | 8 => 144
  | 9 => 152
  | 10 => 155
  | 11 => 187
  | 12 => 188
  | 13 => 213
  | 14 => 219
  | 15 => 227
  | 16 => 248
  | 17 => 272
  | 18 => 278
  | 19 => 281
  | 20 => 305
  | 21 => 311
  | 22 => 317
  | 23 => 320
  | 24 => 406
  | 25 => 407
  | 26 => 424
  | 27 => 425
  | 28 => 441
  | 29 => 442
  | 30 => 459
  | 31 => 500
  | 32 => 501
  | 33 => 506
  | 34 => 509
  | 35 => 534
  | 36 => 540
  | 37 => 560
  | 38 => 561
  | 39 => 570
  | 40 => 573
  | 41 => 634
  | 42 => 674
  | 43 => 675
  | 44 => 680
  | 45 => 683
  | 46 => 707
  | 47 => 713
  | 48 => 719
  | 49 => 733
  | 50 => 741
  | 51 => 749
  | 52 => 750
  | _ => 0
def BJ4_append_15ec4 : Nat → List MI
  | 0 => [(.aload 0, [], 0), (.aload 1, [], 0), (.invokespecial 29, [172, 2], 0), (.pop, [], 0), (.aload 0, [], 0), (.areturn, [], 0)]
  | _ => []
def PJ4_append_15ec4 : Nat → Nat
  | 0 => 0
  | _ => 0
def BJ4_append_bf812 : Nat → List MI
  | 0 => [(.aload 0, [], 0), (.iload 1, [], 0), (.invokespecial 53, [171, 2], 0), (.pop, [], 0), (.aload 0, [], 0), (.areturn, [], 0)]
  | _ => []
def PJ4_append_bf812 : Nat → Nat
  | 0 => 0
  | _ => 0
def BJ4_init_da8c8 : Nat → List MI
  | 0 => [(.aload 0, [], 0), (.sipush 16, [], 0), (.invokespecial 1, [176, 2], 0), (.return_, [], 0)]
  | _ => []
def PJ4_init_da8c8 : Nat → Nat
  | 0 => 0
  | _ => 0
def BJ4_toString_0e30d : Nat → List MI
  | 0 => [(.new 18, [14], 0), (.dup, [], 0), (.aload 0, [], 0), (.invokespecial 137, [164, 2], 0), (.areturn, [], 0)]
  | _ => []
def PJ4_toString_0e30d : Nat → Nat
  | 0 => 0
  | _ => 0
def BJx4a65c_add_72be8 : Nat → List MI
  | 0 => [(.iload 3, [], 0), (.aload 2, [], 0), (.arraylength, [], 0), (.if_icmp .ne 8, [1], 0), (.aload 0, [], 0), (.invokevirtual 129, [200, 1], 0), (.astore 2, [], 0), (.invokedynamic 4, [1], 0)]
  | 1 => [(.aload 2, [], 0), (.iload 3, [], 0), (.aload 1, [], 0), (.aastore, [], 0), (.aload 0, [], 0), (.iload 3, [], 0), (.sipush 1, [], 0), (.iadd, [], 0), (.putfield 48, [12, 2, 0], 0), (.return_, [], 0)]
  | _ => []
def PJx4a65c_add_72be8 : Nat → Nat
  | 0 => 0
  | 1 => 11
  | _ => 0
def BJx4a65c_add_9ea2d : Nat → List MI
  | 0 => [(.aload 0, [], 0), (.dup, [], 0), (.getfield 63, [12, 0, 0], 0), (.sipush 1, [], 0), (.iadd, [], 0), (.putfield 63, [12, 0, 0], 0), (.aload 0, [], 0), (.aload 1, [], 0), (.aload 0, [], 0), (.getfield 9, [12, 1, 2], 0), (.aload 0, [], 0), (.getfield 48, [12, 2, 0], 0), (.invokevirtual 131, [194, 4], 0), (.sipush 1, [], 0), (.ireturn, [1], 0)]
  | _ => []
def PJx4a65c_add_9ea2d : Nat → Nat
  | 0 => 0
  | _ => 0
def BJx4a65c_elementData_915e3 : Nat → List MI
  | 0 => [(.aload 0, [], 0), (.getfield 9, [12, 1, 2], 0), (.iload 1, [], 0), (.aaload, [], 0), (.areturn, [], 0)]
  | _ => []
def PJx4a65c_elementData_915e3 : Nat → Nat
  | 0 => 0
  | _ => 0
def BJx4a65c_fastRemove_b59b0 : Nat → List MI
  | 0 => [(.aload 0, [], 0), (.dup, [], 0), (.getfield 63, [12, 0, 0], 0), (.sipush 1, [], 0), (.iadd, [], 0), (.putfield 63, [12, 0, 0], 0), (.aload 0, [], 0), (.getfield 48, [12, 2, 0], 0), (.sipush 1, [], 0), (.isub, [], 0), (.dup, [], 0), (.istore 3, [], 0), (.iload 2, [], 0), (.if_icmp .le 15, [1], 0), (.aload 1, [], 0), (.iload 2, [], 0), (.sipush 1, [], 0), (.iadd, [], 0), (.aload 1, [], 0), (.iload 2, [], 0), (.iload 3, [], 0), (.iload 2, [], 0), (.isub, [], 0), (.invokedynamic 0, [112], 0), (.invokedynamic 4, [1], 0)]
  | 1 => [(.aload 1, [], 0), (.aload 0, [], 0), (.iload 3, [], 0), (.dup_x1, [], 0), (.putfield 48, [12, 2, 0], 0), (.aconst_null, [], 0), (.aastore, [], 0), (.return_, [], 0)]
  | _ => []
def PJx4a65c_fastRemove_b59b0 : Nat → Nat
  | 0 => 0
  | 1 => 34
  | _ => 0
def BJx4a65c_get_915e3 : Nat → List MI
  | 0 => [(.iload 1, [], 0), (.aload 0, [], 0), (.getfield 48, [12, 2, 0], 0), (.invokestatic 118, [166, 2], 0), (.pop, [], 0), (.aload 0, [], 0), (.iload 1, [], 0), (.invokevirtual 123, [196, 2], 0), (.areturn, [], 0)]
  | _ => []
def PJx4a65c_get_915e3 : Nat → Nat
  | 0 => 0
  | _ => 0
def BJx4a65c_grow_92f84 : Nat → List MI
  | 0 => [(.aload 0, [], 0), (.getfield 9, [12, 1, 2], 0), (.arraylength, [], 0), (.istore 2, [], 0), (.iload 2, [], 0), (.ifCond .gt 13, [1], 0), (.aload 0, [], 0), (.getfield 9, [12, 1, 2], 0), (.getstatic 39, [0, 301], 0), (.if_acmp .eq 28, [2], 0), (.invokedynamic 4, [1], 0)]
  | 1 => [(.iload 2, [], 0), (.iload 1, [], 0), (.iload 2, [], 0), (.isub, [], 0), (.iload 2, [], 0), (.sipush 1, [], 0), (.ishr, [], 0), (.invokestatic 73, [189, 3], 0), (.istore 3, [], 0), (.aload 0, [], 0), (.aload 0, [], 0), (.getfield 9, [12, 1, 2], 0), (.iload 3, [], 0), (.invokestatic 66, [186, 2], 0), (.dup_x1, [], 0), (.putfield 9, [12, 1, 2], 0), (.areturn, [], 0)]
  | 2 => [(.aload 0, [], 0), (.sipush 10, [], 0), (.iload 1, [], 0), (.invokedynamic 1, [79], 0), (.anewarray 7, [2], 0), (.dup_x1, [], 0), (.putfield 9, [12, 1, 2], 0), (.areturn, [], 0)]
  | _ => []
def PJx4a65c_grow_92f84 : Nat → Nat
  | 0 => 0
  | 1 => 20
  | 2 => 45
  | _ => 0
def BJx4a65c_grow_d5877 : Nat → List MI
  | 0 => [(.aload 0, [], 0), (.aload 0, [], 0), (.getfield 48, [12, 2, 0], 0), (.sipush 1, [], 0), (.iadd, [], 0), (.invokevirtual 69, [199, 2], 0), (.areturn, [], 0)]
  | _ => []
def PJx4a65c_grow_d5877 : Nat → Nat
  | 0 => 0
  | _ => 0
def BJx4a65c_init_da8c8 : Nat → List MI
  | 0 => [(.aload 0, [], 0), (.invokespecial 1, [206, 1], 0), (.aload 0, [], 0), (.getstatic 39, [0, 301], 0), (.putfield 9, [12, 1, 2], 0), (.return_, [], 0)]
  | _ => []
def PJx4a65c_init_da8c8 : Nat → Nat
  | 0 => 0
  | _ => 0
def BJx4a65c_iterator_32c93 : Nat → List MI
  | 0 => [(.new 267, [0], 0), (.dup, [], 0), (.aload 0, [], 0), (.invokespecial 269, [192, 2], 0), (.areturn, [], 0)]
  | _ => []
def PJx4a65c_iterator_32c93 : Nat → Nat
  | 0 => 0
  | _ => 0
def BJx4a65c_remove_915e3 : Nat → List MI
  | 0 => [(.iload 1, [], 0), (.aload 0, [], 0), (.getfield 48, [12, 2, 0], 0), (.invokestatic 118, [166, 2], 0), (.pop, [], 0), (.aload 0, [], 0), (.getfield 9, [12, 1, 2], 0), (.astore 2, [], 0), (.aload 2, [], 0), (.iload 1, [], 0), (.aaload, [], 0), (.astore 3, [], 0), (.aload 0, [], 0), (.aload 2, [], 0), (.iload 1, [], 0), (.invokevirtual 144, [197, 3], 0), (.aload 3, [], 0), (.areturn, [], 0)]
  | _ => []
def PJx4a65c_remove_915e3 : Nat → Nat
  | 0 => 0
  | _ => 0
def BJx4a65c_size_8abf5 : Nat → List MI
  | 0 => [(.aload 0, [], 0), (.getfield 48, [12, 2, 0], 0), (.ireturn, [0], 0)]
  | _ => []
def PJx4a65c_size_8abf5 : Nat → Nat
  | 0 => 0
  | _ => 0
def BJ4_length_8abf5 : Nat → List MI
  | 0 => [(.aload 0, [], 0), (.invokespecial 343, [178, 1], 0), (.ireturn, [0], 0)]
  | _ => []
def PJ4_length_8abf5 : Nat → Nat
  | 0 => 0
  | _ => 0
