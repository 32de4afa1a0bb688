/-! ===== BLOCKS of the methods, by program out of the claim's own listing: the class ===== -/
def BX1_init : Nat → List MI
  | 0 => [(.aload 0, [], 0), (.invokedynamic 5, [3], 0), (.aload 0, [], 0), (.sipush 0, [], 0), (.putfield 9, [1, 1, 0], 0), (.aload 0, [], 0), (.getstatic 15, [0, 45], 0), (.putfield 21, [1, 2, 2], 0), (.aload 0, [], 0), (.aload 1, [], 0), (.putfield 24, [1, 0, 2], 0), (.return_, [], 0)]
  | _ => []
def PX1_init : Nat → Nat
  | 0 => 0
  | _ => 0
def BX1_reads : Nat → List MI
  | 0 => [(.aload 0, [], 0), (.aload 1, [], 0), (.putfield 24, [1, 0, 2], 0), (.aload 0, [], 0), (.sipush 0, [], 0), (.putfield 9, [1, 1, 0], 0), (.aload 0, [], 0), (.aload 0, [], 0), (.getfield 24, [1, 0, 2], 0), (.getfield 28, [5, 0, 2], 0), (.sipush 0, [], 0), (.invokevirtual 34, [88, 2], 0), (.putfield 21, [1, 2, 2], 0), (.sipush 1, [], 0), (.istore 2, [], 0), (.sipush 0, [], 0), (.istore 3, [], 0), (.invokedynamic 4, [1], 0)]
  | 1 => [(.iload 2, [], 0), (.ifCond .eq 49, [4], 0), (.iload 3, [], 0), (.sipush 400, [], 0), (.if_icmp .ge 42, [4], 0), (.aload 0, [], 0), (.getfield 21, [1, 2, 2], 0), (.getstatic 15, [0, 45], 0), (.if_acmp .eq 32, [4], 0), (.aload 0, [], 0), (.invokevirtual 40, [3, 1], 0), (.ifCond .eq 17, [2], 0), (.aload 0, [], 0), (.getstatic 44, [0, 30], 0), (.invokevirtual 47, [2, 2], 0), (.ifCond .eq 7, [2], 0), (.sipush 1, [], 0), (.goto 4, [3], 0)]
  | 2 => [(.sipush 0, [], 0), (.invokedynamic 4, [3], 0)]
  | 3 => [(.istore 2, [], 0), (.iinc 3 1, [], 0), (.goto (-47), [1], 0)]
  | 4 => [(.iload 2, [], 0), (.ifCond .eq 17, [5], 0), (.aload 0, [], 0), (.getfield 21, [1, 2, 2], 0), (.getstatic 15, [0, 45], 0), (.if_acmp .ne 7, [5], 0), (.sipush 1, [], 0), (.goto 4, [6], 0)]
  | 5 => [(.sipush 0, [], 0), (.invokedynamic 4, [6], 0)]
  | 6 => [(.ireturn, [1], 0)]
  | _ => []
def PX1_reads : Nat → Nat
  | 0 => 0
  | 1 => 29
  | 2 => 71
  | 3 => 72
  | 4 => 79
  | 5 => 97
  | 6 => 98
  | _ => 0
def BX1_take : Nat → List MI
  | 0 => [(.aload 0, [], 0), (.getfield 21, [1, 2, 2], 0), (.aload 1, [], 0), (.if_acmp .ne 7, [1], 0), (.sipush 1, [], 0), (.goto 4, [2], 0)]
  | 1 => [(.sipush 0, [], 0), (.invokedynamic 4, [2], 0)]
  | 2 => [(.istore 2, [], 0), (.iload 2, [], 0), (.ifCond .eq 55, [5], 0), (.aload 0, [], 0), (.dup, [], 0), (.getfield 9, [1, 1, 0], 0), (.sipush 1, [], 0), (.iadd, [], 0), (.putfield 9, [1, 1, 0], 0), (.aload 0, [], 0), (.aload 0, [], 0), (.getfield 9, [1, 1, 0], 0), (.aload 0, [], 0), (.getfield 24, [1, 0, 2], 0), (.getfield 28, [5, 0, 2], 0), (.getfield 51, [8, 4, 0], 0), (.if_icmp .ge 21, [3], 0), (.aload 0, [], 0), (.getfield 24, [1, 0, 2], 0), (.getfield 28, [5, 0, 2], 0), (.getfield 54, [8, 0, 2], 0), (.aload 0, [], 0), (.getfield 9, [1, 1, 0], 0), (.aaload, [], 0), (.goto 6, [4], 0)]
  | 3 => [(.getstatic 15, [0, 45], 0), (.invokedynamic 4, [4], 0)]
  | 4 => [(.putfield 21, [1, 2, 2], 0), (.invokedynamic 4, [5], 0)]
  | 5 => [(.iload 2, [], 0), (.ireturn, [1], 0)]
  | _ => []
def PX1_take : Nat → Nat
  | 0 => 0
  | 1 => 12
  | 2 => 13
  | 3 => 64
  | 4 => 67
  | 5 => 70
  | _ => 0
def BX1_line : Nat → List MI
  | 0 => [(.getstatic 58, [0, 303], 0), (.aload 0, [], 0), (.getfield 21, [1, 2, 2], 0), (.invokevirtual 64, [283, 1], 0), (.iaload, [], 0), (.tableswitch 203 1 3 #[25, 51, 137], [10, 1, 4, 7], 0)]
  | 1 => [(.aload 0, [], 0), (.getstatic 68, [0, 0], 0), (.invokevirtual 47, [2, 2], 0), (.ifCond .eq 17, [2], 0), (.aload 0, [], 0), (.getstatic 71, [0, 42], 0), (.invokevirtual 47, [2, 2], 0), (.ifCond .eq 7, [2], 0), (.sipush 1, [], 0), (.goto 4, [3], 0)]
  | 2 => [(.sipush 0, [], 0), (.invokedynamic 4, [3], 0)]
  | 3 => [(.ireturn, [1], 0)]
  | 4 => [(.aload 0, [], 0), (.getstatic 74, [0, 1], 0), (.invokevirtual 47, [2, 2], 0), (.ifCond .eq 77, [5], 0), (.aload 0, [], 0), (.getstatic 71, [0, 42], 0), (.invokevirtual 47, [2, 2], 0), (.ifCond .eq 67, [5], 0), (.aload 0, [], 0), (.getstatic 77, [0, 2], 0), (.invokevirtual 47, [2, 2], 0), (.ifCond .eq 57, [5], 0), (.aload 0, [], 0), (.getstatic 71, [0, 42], 0), (.invokevirtual 47, [2, 2], 0), (.ifCond .eq 47, [5], 0), (.aload 0, [], 0), (.getstatic 80, [0, 3], 0), (.invokevirtual 47, [2, 2], 0), (.ifCond .eq 37, [5], 0), (.aload 0, [], 0), (.getstatic 71, [0, 42], 0), (.invokevirtual 47, [2, 2], 0), (.ifCond .eq 27, [5], 0), (.aload 0, [], 0), (.getstatic 83, [0, 4], 0), (.invokevirtual 47, [2, 2], 0), (.ifCond .eq 17, [5], 0), (.aload 0, [], 0), (.getstatic 86, [0, 43], 0), (.invokevirtual 47, [2, 2], 0), (.ifCond .eq 7, [5], 0), (.sipush 1, [], 0), (.goto 4, [6], 0)]
  | 5 => [(.sipush 0, [], 0), (.invokedynamic 4, [6], 0)]
  | 6 => [(.ireturn, [1], 0)]
  | 7 => [(.aload 0, [], 0), (.getstatic 89, [0, 5], 0), (.invokevirtual 47, [2, 2], 0), (.ifCond .eq 57, [8], 0), (.aload 0, [], 0), (.getstatic 71, [0, 42], 0), (.invokevirtual 47, [2, 2], 0), (.ifCond .eq 47, [8], 0), (.aload 0, [], 0), (.getstatic 92, [0, 6], 0), (.invokevirtual 47, [2, 2], 0), (.ifCond .eq 37, [8], 0), (.aload 0, [], 0), (.getstatic 71, [0, 42], 0), (.invokevirtual 47, [2, 2], 0), (.ifCond .eq 27, [8], 0), (.aload 0, [], 0), (.getstatic 95, [0, 7], 0), (.invokevirtual 47, [2, 2], 0), (.ifCond .eq 17, [8], 0), (.aload 0, [], 0), (.getstatic 86, [0, 43], 0), (.invokevirtual 47, [2, 2], 0), (.ifCond .eq 7, [8], 0), (.sipush 1, [], 0), (.goto 4, [9], 0)]
  | 8 => [(.sipush 0, [], 0), (.invokedynamic 4, [9], 0)]
  | 9 => [(.ireturn, [1], 0)]
  | 10 => [(.aload 0, [], 0), (.invokevirtual 98, [4, 1], 0), (.ireturn, [1], 0)]
  | _ => []
def PX1_line : Nat → Nat
  | 0 => 0
  | 1 => 36
  | 2 => 60
  | 3 => 61
  | 4 => 62
  | 5 => 146
  | 6 => 147
  | 7 => 148
  | 8 => 212
  | 9 => 213
  | 10 => 214
  | _ => 0
def BX1_order : Nat → List MI
  | 0 => [(.aload 0, [], 0), (.getfield 9, [1, 1, 0], 0), (.istore 1, [], 0), (.aload 0, [], 0), (.getfield 24, [1, 0, 2], 0), (.getfield 101, [5, 2, 0], 0), (.istore 2, [], 0), (.aload 0, [], 0), (.getfield 21, [1, 2, 2], 0), (.getstatic 104, [0, 8], 0), (.if_acmp .ne 51, [3], 0), (.aload 0, [], 0), (.getstatic 104, [0, 8], 0), (.invokevirtual 47, [2, 2], 0), (.ifCond .eq 36, [1], 0), (.aload 0, [], 0), (.getstatic 71, [0, 42], 0), (.invokevirtual 47, [2, 2], 0), (.ifCond .eq 26, [1], 0), (.aload 0, [], 0), (.getstatic 107, [0, 9], 0), (.invokevirtual 47, [2, 2], 0), (.ifCond .eq 16, [1], 0), (.aload 0, [], 0), (.sipush 3, [], 0), (.sipush 0, [], 0), (.invokevirtual 110, [5, 3], 0), (.ifCond .eq 7, [1], 0), (.sipush 1, [], 0), (.goto 4, [2], 0)]
  | 1 => [(.sipush 0, [], 0), (.invokedynamic 4, [2], 0)]
  | 2 => [(.istore 3, [], 0), (.goto 39, [7], 0)]
  | 3 => [(.aload 0, [], 0), (.getstatic 114, [0, 10], 0), (.invokevirtual 47, [2, 2], 0), (.ifCond .ne 13, [4], 0), (.aload 0, [], 0), (.getstatic 117, [0, 11], 0), (.invokevirtual 47, [2, 2], 0), (.ifCond .eq 17, [5], 0), (.invokedynamic 4, [4], 0)]
  | 4 => [(.aload 0, [], 0), (.getstatic 71, [0, 42], 0), (.invokevirtual 47, [2, 2], 0), (.ifCond .eq 7, [5], 0), (.sipush 1, [], 0), (.goto 4, [6], 0)]
  | 5 => [(.sipush 0, [], 0), (.invokedynamic 4, [6], 0)]
  | 6 => [(.istore 3, [], 0), (.invokedynamic 4, [7], 0)]
  | 7 => [(.aload 0, [], 0), (.getfield 24, [1, 0, 2], 0), (.getfield 101, [5, 2, 0], 0), (.istore 4, [], 0), (.iload 3, [], 0), (.ifCond .eq 26, [8], 0), (.aload 0, [], 0), (.getstatic 120, [0, 12], 0), (.invokevirtual 47, [2, 2], 0), (.ifCond .eq 16, [8], 0), (.aload 0, [], 0), (.sipush 0, [], 0), (.sipush 0, [], 0), (.invokevirtual 110, [5, 3], 0), (.ifCond .eq 7, [8], 0), (.sipush 1, [], 0), (.goto 4, [9], 0)]
  | 8 => [(.sipush 0, [], 0), (.invokedynamic 4, [9], 0)]
  | 9 => [(.istore 3, [], 0), (.iload 3, [], 0), (.ifCond .eq 14, [10], 0), (.aload 0, [], 0), (.getfield 24, [1, 0, 2], 0), (.iload 1, [], 0), (.iload 2, [], 0), (.iload 4, [], 0), (.invokevirtual 123, [48, 4], 0), (.invokedynamic 4, [10], 0)]
  | 10 => [(.iload 3, [], 0), (.ireturn, [1], 0)]
  | _ => []
def PX1_order : Nat → Nat
  | 0 => 0
  | 1 => 66
  | 2 => 67
  | 3 => 71
  | 4 => 91
  | 5 => 105
  | 6 => 106
  | 7 => 107
  | 8 => 143
  | 9 => 144
  | 10 => 160
  | _ => 0
def BX1_chain : Nat → List MI
  | 0 => [(.aload 0, [], 0), (.iload 1, [], 0), (.iload 2, [], 0), (.invokevirtual 127, [7, 3], 0), (.istore 3, [], 0), (.sipush 0, [], 0), (.istore 4, [], 0), (.invokedynamic 4, [1], 0)]
  | 1 => [(.iload 3, [], 0), (.ifCond .eq 66, [4], 0), (.iload 4, [], 0), (.sipush 400, [], 0), (.if_icmp .ge 58, [4], 0), (.aload 0, [], 0), (.iload 1, [], 0), (.invokevirtual 130, [6, 2], 0), (.ifCond .eq 50, [4], 0), (.aload 0, [], 0), (.getfield 9, [1, 1, 0], 0), (.istore 5, [], 0), (.aload 0, [], 0), (.aload 0, [], 0), (.getfield 21, [1, 2, 2], 0), (.invokevirtual 47, [2, 2], 0), (.ifCond .eq 16, [2], 0), (.aload 0, [], 0), (.iload 1, [], 0), (.iload 2, [], 0), (.invokevirtual 127, [7, 3], 0), (.ifCond .eq 7, [2], 0), (.sipush 1, [], 0), (.goto 4, [3], 0)]
  | 2 => [(.sipush 0, [], 0), (.invokedynamic 4, [3], 0)]
  | 3 => [(.istore 3, [], 0), (.aload 0, [], 0), (.getfield 24, [1, 0, 2], 0), (.iload 5, [], 0), (.invokevirtual 134, [44, 2], 0), (.iinc 4 1, [], 0), (.goto (-64), [1], 0)]
  | 4 => [(.iload 3, [], 0), (.ireturn, [1], 0)]
  | _ => []
def PX1_chain : Nat → Nat
  | 0 => 0
  | 1 => 10
  | 2 => 60
  | 3 => 61
  | 4 => 77
  | _ => 0
def BX1_joinsAt : Nat → List MI
  | 0 => [(.iload 1, [], 0), (.tableswitch 145 0 3 #[31, 47, 63, 119], [15, 1, 4, 7, 11], 0)]
  | 1 => [(.aload 0, [], 0), (.getfield 21, [1, 2, 2], 0), (.getstatic 138, [0, 23], 0), (.if_acmp .ne 7, [2], 0), (.sipush 1, [], 0), (.goto 4, [3], 0)]
  | 2 => [(.sipush 0, [], 0), (.invokedynamic 4, [3], 0)]
  | 3 => [(.ireturn, [1], 0)]
  | 4 => [(.aload 0, [], 0), (.getfield 21, [1, 2, 2], 0), (.getstatic 141, [0, 22], 0), (.if_acmp .ne 7, [5], 0), (.sipush 1, [], 0), (.goto 4, [6], 0)]
  | 5 => [(.sipush 0, [], 0), (.invokedynamic 4, [6], 0)]
  | 6 => [(.ireturn, [1], 0)]
  | 7 => [(.aload 0, [], 0), (.getfield 21, [1, 2, 2], 0), (.getstatic 144, [0, 36], 0), (.if_acmp .eq 43, [8], 0), (.aload 0, [], 0), (.getfield 21, [1, 2, 2], 0), (.getstatic 147, [0, 37], 0), (.if_acmp .eq 33, [8], 0), (.aload 0, [], 0), (.getfield 21, [1, 2, 2], 0), (.getstatic 150, [0, 38], 0), (.if_acmp .eq 23, [8], 0), (.aload 0, [], 0), (.getfield 21, [1, 2, 2], 0), (.getstatic 153, [0, 39], 0), (.if_acmp .eq 13, [8], 0), (.aload 0, [], 0), (.getfield 21, [1, 2, 2], 0), (.getstatic 156, [0, 40], 0), (.if_acmp .ne 7, [9], 0), (.invokedynamic 4, [8], 0)]
  | 8 => [(.sipush 1, [], 0), (.goto 4, [10], 0)]
  | 9 => [(.sipush 0, [], 0), (.invokedynamic 4, [10], 0)]
  | 10 => [(.ireturn, [1], 0)]
  | 11 => [(.aload 0, [], 0), (.getfield 21, [1, 2, 2], 0), (.getstatic 159, [0, 32], 0), (.if_acmp .eq 13, [12], 0), (.aload 0, [], 0), (.getfield 21, [1, 2, 2], 0), (.getstatic 162, [0, 33], 0), (.if_acmp .ne 7, [13], 0), (.invokedynamic 4, [12], 0)]
  | 12 => [(.sipush 1, [], 0), (.goto 4, [14], 0)]
  | 13 => [(.sipush 0, [], 0), (.invokedynamic 4, [14], 0)]
  | 14 => [(.ireturn, [1], 0)]
  | 15 => [(.aload 0, [], 0), (.getfield 21, [1, 2, 2], 0), (.getstatic 165, [0, 34], 0), (.if_acmp .eq 13, [16], 0), (.aload 0, [], 0), (.getfield 21, [1, 2, 2], 0), (.getstatic 168, [0, 35], 0), (.if_acmp .ne 7, [17], 0), (.invokedynamic 4, [16], 0)]
  | 16 => [(.sipush 1, [], 0), (.goto 4, [18], 0)]
  | 17 => [(.sipush 0, [], 0), (.invokedynamic 4, [18], 0)]
  | 18 => [(.ireturn, [1], 0)]
  | _ => []
def PX1_joinsAt : Nat → Nat
  | 0 => 0
  | 1 => 32
  | 2 => 46
  | 3 => 47
  | 4 => 48
  | 5 => 62
  | 6 => 63
  | 7 => 64
  | 8 => 114
  | 9 => 118
  | 10 => 119
  | 11 => 120
  | 12 => 140
  | 13 => 144
  | 14 => 145
  | 15 => 146
  | 16 => 166
  | 17 => 170
  | 18 => 171
  | _ => 0
def BX1_part : Nat → List MI
  | 0 => [(.iload 1, [], 0), (.tableswitch 51 0 3 #[31, 38, 51, 44], [4, 1, 2, 4, 3], 0)]
  | 1 => [(.aload 0, [], 0), (.sipush 1, [], 0), (.iload 2, [], 0), (.invokevirtual 110, [5, 3], 0), (.ireturn, [1], 0)]
  | 2 => [(.aload 0, [], 0), (.iload 2, [], 0), (.invokevirtual 171, [8, 2], 0), (.ireturn, [1], 0)]
  | 3 => [(.aload 0, [], 0), (.sipush 4, [], 0), (.iload 2, [], 0), (.invokevirtual 110, [5, 3], 0), (.ireturn, [1], 0)]
  | 4 => [(.aload 0, [], 0), (.iload 2, [], 0), (.invokevirtual 174, [9, 2], 0), (.ireturn, [1], 0)]
  | _ => []
def PX1_part : Nat → Nat
  | 0 => 0
  | 1 => 32
  | 2 => 39
  | 3 => 45
  | 4 => 52
  | _ => 0
def BX1_single : Nat → List MI
  | 0 => [(.aload 0, [], 0), (.getfield 9, [1, 1, 0], 0), (.istore 2, [], 0), (.getstatic 58, [0, 303], 0), (.aload 0, [], 0), (.getfield 21, [1, 2, 2], 0), (.invokevirtual 64, [283, 1], 0), (.iaload, [], 0), (.tableswitch 183 4 8 #[36, 79, 114, 143, 143], [13, 1, 4, 7, 10, 10], 0)]
  | 1 => [(.iload 1, [], 0), (.sipush 8, [], 0), (.if_icmp .ge 38, [2], 0), (.aload 0, [], 0), (.getstatic 177, [0, 28], 0), (.invokevirtual 47, [2, 2], 0), (.ifCond .eq 28, [2], 0), (.aload 0, [], 0), (.sipush 0, [], 0), (.iload 1, [], 0), (.sipush 1, [], 0), (.iadd, [], 0), (.invokevirtual 110, [5, 3], 0), (.ifCond .eq 17, [2], 0), (.aload 0, [], 0), (.getstatic 180, [0, 29], 0), (.invokevirtual 47, [2, 2], 0), (.ifCond .eq 7, [2], 0), (.sipush 1, [], 0), (.goto 4, [3], 0)]
  | 2 => [(.sipush 0, [], 0), (.invokedynamic 4, [3], 0)]
  | 3 => [(.ireturn, [1], 0)]
  | 4 => [(.iload 1, [], 0), (.sipush 8, [], 0), (.if_icmp .ge 27, [5], 0), (.aload 0, [], 0), (.getstatic 183, [0, 21], 0), (.invokevirtual 47, [2, 2], 0), (.ifCond .eq 17, [5], 0), (.aload 0, [], 0), (.iload 1, [], 0), (.sipush 1, [], 0), (.iadd, [], 0), (.invokevirtual 171, [8, 2], 0), (.ifCond .eq 7, [5], 0), (.sipush 1, [], 0), (.goto 4, [6], 0)]
  | 5 => [(.sipush 0, [], 0), (.invokedynamic 4, [6], 0)]
  | 6 => [(.istore 3, [], 0), (.goto 122, [16], 0)]
  | 7 => [(.aload 0, [], 0), (.getstatic 186, [0, 18], 0), (.invokevirtual 47, [2, 2], 0), (.ifCond .eq 17, [8], 0), (.aload 0, [], 0), (.getstatic 71, [0, 42], 0), (.invokevirtual 47, [2, 2], 0), (.ifCond .eq 7, [8], 0), (.sipush 1, [], 0), (.goto 4, [9], 0)]
  | 8 => [(.sipush 0, [], 0), (.invokedynamic 4, [9], 0)]
  | 9 => [(.istore 3, [], 0), (.goto 93, [16], 0)]
  | 10 => [(.aload 0, [], 0), (.aload 0, [], 0), (.getfield 21, [1, 2, 2], 0), (.invokevirtual 47, [2, 2], 0), (.ifCond .eq 27, [11], 0), (.aload 0, [], 0), (.getstatic 71, [0, 42], 0), (.invokevirtual 47, [2, 2], 0), (.ifCond .eq 17, [11], 0), (.aload 0, [], 0), (.getstatic 71, [0, 42], 0), (.invokevirtual 47, [2, 2], 0), (.ifCond .eq 7, [11], 0), (.sipush 1, [], 0), (.goto 4, [12], 0)]
  | 11 => [(.sipush 0, [], 0), (.invokedynamic 4, [12], 0)]
  | 12 => [(.istore 3, [], 0), (.goto 53, [16], 0)]
  | 13 => [(.aload 0, [], 0), (.sipush 3, [], 0), (.iload 1, [], 0), (.invokevirtual 110, [5, 3], 0), (.istore 3, [], 0), (.aload 0, [], 0), (.getfield 9, [1, 1, 0], 0), (.istore 2, [], 0), (.iload 3, [], 0), (.ifCond .eq 35, [14], 0), (.aload 0, [], 0), (.sipush 2, [], 0), (.invokevirtual 130, [6, 2], 0), (.ifCond .eq 27, [14], 0), (.aload 0, [], 0), (.aload 0, [], 0), (.getfield 21, [1, 2, 2], 0), (.invokevirtual 47, [2, 2], 0), (.ifCond .eq 16, [14], 0), (.aload 0, [], 0), (.sipush 3, [], 0), (.iload 1, [], 0), (.invokevirtual 110, [5, 3], 0), (.ifCond .eq 7, [14], 0), (.sipush 1, [], 0), (.goto 4, [15], 0)]
  | 14 => [(.sipush 0, [], 0), (.invokedynamic 4, [15], 0)]
  | 15 => [(.istore 3, [], 0), (.invokedynamic 4, [16], 0)]
  | 16 => [(.aload 0, [], 0), (.getfield 24, [1, 0, 2], 0), (.iload 2, [], 0), (.invokevirtual 134, [44, 2], 0), (.iload 3, [], 0), (.ireturn, [1], 0)]
  | _ => []
def PX1_single : Nat → Nat
  | 0 => 0
  | 1 => 52
  | 2 => 93
  | 3 => 94
  | 4 => 95
  | 5 => 125
  | 6 => 126
  | 7 => 130
  | 8 => 154
  | 9 => 155
  | 10 => 159
  | 11 => 194
  | 12 => 195
  | 13 => 199
  | 14 => 247
  | 15 => 248
  | 16 => 249
  | _ => 0
def BX1_value : Nat → List MI
  | 0 => [(.aload 0, [], 0), (.getfield 9, [1, 1, 0], 0), (.istore 2, [], 0), (.getstatic 58, [0, 303], 0), (.aload 0, [], 0), (.getfield 21, [1, 2, 2], 0), (.invokevirtual 64, [283, 1], 0), (.iaload, [], 0), (.tableswitch 307 9 18 #[56, 99, 148, 148, 160, 160, 160, 190, 229, 229], [17, 1, 4, 7, 7, 8, 8, 8, 11, 14, 14], 0)]
  | 1 => [(.iload 1, [], 0), (.sipush 8, [], 0), (.if_icmp .ge 38, [2], 0), (.aload 0, [], 0), (.getstatic 189, [0, 26], 0), (.invokevirtual 47, [2, 2], 0), (.ifCond .eq 28, [2], 0), (.aload 0, [], 0), (.sipush 3, [], 0), (.iload 1, [], 0), (.sipush 1, [], 0), (.iadd, [], 0), (.invokevirtual 110, [5, 3], 0), (.ifCond .eq 17, [2], 0), (.aload 0, [], 0), (.getstatic 192, [0, 27], 0), (.invokevirtual 47, [2, 2], 0), (.ifCond .eq 7, [2], 0), (.sipush 1, [], 0), (.goto 4, [3], 0)]
  | 2 => [(.sipush 0, [], 0), (.invokedynamic 4, [3], 0)]
  | 3 => [(.ireturn, [1], 0)]
  | 4 => [(.iload 1, [], 0), (.sipush 8, [], 0), (.if_icmp .ge 27, [5], 0), (.aload 0, [], 0), (.getstatic 162, [0, 33], 0), (.invokevirtual 47, [2, 2], 0), (.ifCond .eq 17, [5], 0), (.aload 0, [], 0), (.iload 1, [], 0), (.sipush 1, [], 0), (.iadd, [], 0), (.invokevirtual 174, [9, 2], 0), (.ifCond .eq 7, [5], 0), (.sipush 1, [], 0), (.goto 4, [6], 0)]
  | 5 => [(.sipush 0, [], 0), (.invokedynamic 4, [6], 0)]
  | 6 => [(.istore 3, [], 0), (.aload 0, [], 0), (.getfield 24, [1, 0, 2], 0), (.getfield 28, [5, 0, 2], 0), (.iload 2, [], 0), (.getstatic 195, [0, 41], 0), (.invokevirtual 198, [93, 3], 0), (.goto 164, [18], 0)]
  | 7 => [(.aload 0, [], 0), (.aload 0, [], 0), (.getfield 21, [1, 2, 2], 0), (.invokevirtual 47, [2, 2], 0), (.istore 3, [], 0), (.goto 152, [18], 0)]
  | 8 => [(.aload 0, [], 0), (.aload 0, [], 0), (.getfield 21, [1, 2, 2], 0), (.invokevirtual 47, [2, 2], 0), (.ifCond .eq 17, [9], 0), (.aload 0, [], 0), (.getstatic 71, [0, 42], 0), (.invokevirtual 47, [2, 2], 0), (.ifCond .eq 7, [9], 0), (.sipush 1, [], 0), (.goto 4, [10], 0)]
  | 9 => [(.sipush 0, [], 0), (.invokedynamic 4, [10], 0)]
  | 10 => [(.istore 3, [], 0), (.goto 122, [18], 0)]
  | 11 => [(.aload 0, [], 0), (.getstatic 202, [0, 16], 0), (.invokevirtual 47, [2, 2], 0), (.ifCond .eq 27, [12], 0), (.aload 0, [], 0), (.getstatic 71, [0, 42], 0), (.invokevirtual 47, [2, 2], 0), (.ifCond .eq 17, [12], 0), (.aload 0, [], 0), (.getstatic 71, [0, 42], 0), (.invokevirtual 47, [2, 2], 0), (.ifCond .eq 7, [12], 0), (.sipush 1, [], 0), (.goto 4, [13], 0)]
  | 12 => [(.sipush 0, [], 0), (.invokedynamic 4, [13], 0)]
  | 13 => [(.istore 3, [], 0), (.goto 83, [18], 0)]
  | 14 => [(.aload 0, [], 0), (.aload 0, [], 0), (.getfield 21, [1, 2, 2], 0), (.invokevirtual 47, [2, 2], 0), (.ifCond .eq 65, [15], 0), (.iload 1, [], 0), (.sipush 8, [], 0), (.if_icmp .ge 59, [15], 0), (.aload 0, [], 0), (.getstatic 189, [0, 26], 0), (.invokevirtual 47, [2, 2], 0), (.ifCond .eq 49, [15], 0), (.aload 0, [], 0), (.sipush 3, [], 0), (.iload 1, [], 0), (.sipush 1, [], 0), (.iadd, [], 0), (.invokevirtual 110, [5, 3], 0), (.ifCond .eq 38, [15], 0), (.aload 0, [], 0), (.getstatic 205, [0, 31], 0), (.invokevirtual 47, [2, 2], 0), (.ifCond .eq 28, [15], 0), (.aload 0, [], 0), (.sipush 3, [], 0), (.iload 1, [], 0), (.sipush 1, [], 0), (.iadd, [], 0), (.invokevirtual 110, [5, 3], 0), (.ifCond .eq 17, [15], 0), (.aload 0, [], 0), (.getstatic 192, [0, 27], 0), (.invokevirtual 47, [2, 2], 0), (.ifCond .eq 7, [15], 0), (.sipush 1, [], 0), (.goto 4, [16], 0)]
  | 15 => [(.sipush 0, [], 0), (.invokedynamic 4, [16], 0)]
  | 16 => [(.istore 3, [], 0), (.goto 5, [18], 0)]
  | 17 => [(.sipush 0, [], 0), (.ireturn, [1], 0)]
  | 18 => [(.aload 0, [], 0), (.getfield 24, [1, 0, 2], 0), (.iload 2, [], 0), (.invokevirtual 134, [44, 2], 0), (.iload 3, [], 0), (.ireturn, [1], 0)]
  | _ => []
def PX1_value : Nat → Nat
  | 0 => 0
  | 1 => 72
  | 2 => 113
  | 3 => 114
  | 4 => 115
  | 5 => 145
  | 6 => 146
  | 7 => 164
  | 8 => 176
  | 9 => 201
  | 10 => 202
  | 11 => 206
  | 12 => 240
  | 13 => 241
  | 14 => 245
  | 15 => 318
  | 16 => 319
  | 17 => 323
  | 18 => 325
  | _ => 0
def BX3_init : Nat → List MI
  | 0 => [(.aload 0, [], 0), (.invokedynamic 5, [3], 0), (.aload 0, [], 0), (.new 9, [7], 0), (.dup, [], 0), (.invokespecial 11, [58, 1], 0), (.putfield 12, [3, 0, 2], 0), (.aload 0, [], 0), (.new 18, [6], 0), (.dup, [], 0), (.invokespecial 20, [51, 1], 0), (.putfield 21, [3, 1, 2], 0), (.aload 0, [], 0), (.sipush 0, [], 0), (.putfield 25, [3, 3, 0], 0), (.aload 0, [], 0), (.sipush 0, [], 0), (.putfield 29, [3, 4, 0], 0), (.aload 0, [], 0), (.sipush 0, [], 0), (.putfield 32, [3, 5, 0], 0), (.aload 0, [], 0), (.sipush 60, [], 0), (.newarray .int, [], 0), (.putfield 35, [3, 6, 2], 0), (.aload 0, [], 0), (.sipush 60, [], 0), (.newarray .boolean, [], 0), (.putfield 39, [3, 7, 2], 0), (.aload 0, [], 0), (.sipush 10, [], 0), (.newarray .boolean, [], 0), (.putfield 43, [3, 8, 2], 0), (.aload 0, [], 0), (.sipush 0, [], 0), (.putfield 46, [3, 9, 0], 0), (.aload 0, [], 0), (.sipush 168, [], 0), (.newarray .int, [], 0), (.putfield 49, [3, 10, 2], 0), (.aload 0, [], 0), (.sipush 168, [], 0), (.newarray .int, [], 0), (.putfield 52, [3, 11, 2], 0), (.aload 0, [], 0), (.sipush 168, [], 0), (.newarray .int, [], 0), (.putfield 55, [3, 12, 2], 0), (.aload 0, [], 0), (.sipush 168, [], 0), (.newarray .int, [], 0), (.putfield 58, [3, 13, 2], 0), (.aload 0, [], 0), (.aload 1, [], 0), (.putfield 61, [3, 2, 2], 0), (.return_, [], 0)]
  | _ => []
def PX3_init : Nat → Nat
  | 0 => 0
  | _ => 0
def BX3_begin : Nat → List MI
  | 0 => [(.aload 0, [], 0), (.aload 1, [], 0), (.putfield 61, [3, 2, 2], 0), (.aload 0, [], 0), (.getfield 12, [3, 0, 2], 0), (.aload 1, [], 0), (.invokevirtual 65, [59, 2], 0), (.aload 0, [], 0), (.sipush 0, [], 0), (.putfield 29, [3, 4, 0], 0), (.aload 0, [], 0), (.sipush 0, [], 0), (.putfield 32, [3, 5, 0], 0), (.aload 0, [], 0), (.sipush 0, [], 0), (.putfield 46, [3, 9, 0], 0), (.aload 0, [], 0), (.getfield 35, [3, 6, 2], 0), (.sipush (-1), [], 0), (.invokestatic 69, [282, 2], 0), (.sipush 0, [], 0), (.istore 2, [], 0), (.invokedynamic 4, [1], 0)]
  | 1 => [(.iload 2, [], 0), (.aload 0, [], 0), (.getfield 39, [3, 7, 2], 0), (.arraylength, [], 0), (.if_icmp .ge 16, [2], 0), (.aload 0, [], 0), (.getfield 39, [3, 7, 2], 0), (.iload 2, [], 0), (.sipush 0, [], 0), (.bastore, [], 0), (.iinc 2 1, [], 0), (.goto (-19), [1], 0)]
  | 2 => [(.return_, [], 0)]
  | _ => []
def PX3_begin : Nat → Nat
  | 0 => 0
  | 1 => 38
  | 2 => 60
  | _ => 0
def BX3_copy : Nat → List MI
  | 0 => [(.aload 0, [], 0), (.aload 1, [], 0), (.getfield 61, [3, 2, 2], 0), (.putfield 61, [3, 2, 2], 0), (.aload 0, [], 0), (.getfield 12, [3, 0, 2], 0), (.aload 1, [], 0), (.getfield 12, [3, 0, 2], 0), (.invokevirtual 75, [60, 2], 0), (.aload 0, [], 0), (.aload 1, [], 0), (.getfield 25, [3, 3, 0], 0), (.putfield 25, [3, 3, 0], 0), (.aload 0, [], 0), (.aload 1, [], 0), (.getfield 29, [3, 4, 0], 0), (.putfield 29, [3, 4, 0], 0), (.aload 0, [], 0), (.aload 1, [], 0), (.getfield 32, [3, 5, 0], 0), (.putfield 32, [3, 5, 0], 0), (.aload 1, [], 0), (.getfield 35, [3, 6, 2], 0), (.sipush 0, [], 0), (.aload 0, [], 0), (.getfield 35, [3, 6, 2], 0), (.sipush 0, [], 0), (.aload 0, [], 0), (.getfield 35, [3, 6, 2], 0), (.arraylength, [], 0), (.invokedynamic 0, [79], 0), (.sipush 0, [], 0), (.istore 2, [], 0), (.invokedynamic 4, [1], 0)]
  | 1 => [(.iload 2, [], 0), (.aload 0, [], 0), (.getfield 39, [3, 7, 2], 0), (.arraylength, [], 0), (.if_icmp .ge 21, [2], 0), (.aload 0, [], 0), (.getfield 39, [3, 7, 2], 0), (.iload 2, [], 0), (.aload 1, [], 0), (.getfield 39, [3, 7, 2], 0), (.iload 2, [], 0), (.baload, [], 0), (.bastore, [], 0), (.iinc 2 1, [], 0), (.goto (-24), [1], 0)]
  | 2 => [(.aload 0, [], 0), (.aload 1, [], 0), (.getfield 46, [3, 9, 0], 0), (.putfield 46, [3, 9, 0], 0), (.aload 1, [], 0), (.getfield 49, [3, 10, 2], 0), (.sipush 0, [], 0), (.aload 0, [], 0), (.getfield 49, [3, 10, 2], 0), (.sipush 0, [], 0), (.aload 0, [], 0), (.getfield 46, [3, 9, 0], 0), (.invokedynamic 0, [79], 0), (.aload 1, [], 0), (.getfield 52, [3, 11, 2], 0), (.sipush 0, [], 0), (.aload 0, [], 0), (.getfield 52, [3, 11, 2], 0), (.sipush 0, [], 0), (.aload 0, [], 0), (.getfield 46, [3, 9, 0], 0), (.invokedynamic 0, [79], 0), (.aload 1, [], 0), (.getfield 55, [3, 12, 2], 0), (.sipush 0, [], 0), (.aload 0, [], 0), (.getfield 55, [3, 12, 2], 0), (.sipush 0, [], 0), (.aload 0, [], 0), (.getfield 46, [3, 9, 0], 0), (.invokedynamic 0, [79], 0), (.aload 1, [], 0), (.getfield 58, [3, 13, 2], 0), (.sipush 0, [], 0), (.aload 0, [], 0), (.getfield 58, [3, 13, 2], 0), (.sipush 0, [], 0), (.aload 0, [], 0), (.getfield 46, [3, 9, 0], 0), (.invokedynamic 0, [79], 0), (.return_, [], 0)]
  | _ => []
def PX3_copy : Nat → Nat
  | 0 => 0
  | 1 => 63
  | 2 => 90
  | _ => 0
def BX3_hourOfHearing : Nat → List MI
  | 0 => [(.aload 0, [], 0), (.getfield 35, [3, 6, 2], 0), (.iload 1, [], 0), (.sipush 6, [], 0), (.imul, [], 0), (.iload 2, [], 0), (.iadd, [], 0), (.iaload, [], 0), (.ireturn, [0], 0)]
  | _ => []
def PX3_hourOfHearing : Nat → Nat
  | 0 => 0
  | _ => 0
def BX3_knows : Nat → List MI
  | 0 => [(.aload 0, [], 0), (.iload 1, [], 0), (.iload 2, [], 0), (.invokevirtual 93, [284, 3], 0), (.ifCond .eq 22, [1], 0), (.aload 0, [], 0), (.getfield 35, [3, 6, 2], 0), (.iload 1, [], 0), (.sipush 6, [], 0), (.imul, [], 0), (.iload 2, [], 0), (.iadd, [], 0), (.iaload, [], 0), (.sipush (-1), [], 0), (.if_icmp .eq 7, [1], 0), (.sipush 1, [], 0), (.goto 4, [2], 0)]
  | 1 => [(.sipush 0, [], 0), (.invokedynamic 4, [2], 0)]
  | 2 => [(.ireturn, [1], 0)]
  | _ => []
def PX3_knows : Nat → Nat
  | 0 => 0
  | 1 => 28
  | 2 => 29
  | _ => 0
def BX3_hears : Nat → List MI
  | 0 => [(.aload 0, [], 0), (.iload 1, [], 0), (.iload 2, [], 0), (.invokevirtual 93, [284, 3], 0), (.ifCond .eq 16, [1], 0), (.aload 0, [], 0), (.iload 1, [], 0), (.iload 2, [], 0), (.invokevirtual 97, [14, 3], 0), (.ifCond .ne 7, [1], 0), (.sipush 1, [], 0), (.goto 4, [2], 0)]
  | 1 => [(.sipush 0, [], 0), (.invokedynamic 4, [2], 0)]
  | 2 => [(.istore 3, [], 0), (.iload 3, [], 0), (.ifCond .eq 18, [3], 0), (.aload 0, [], 0), (.getfield 35, [3, 6, 2], 0), (.iload 1, [], 0), (.sipush 6, [], 0), (.imul, [], 0), (.iload 2, [], 0), (.iadd, [], 0), (.aload 0, [], 0), (.getfield 25, [3, 3, 0], 0), (.iastore, [], 0), (.invokedynamic 4, [3], 0)]
  | 3 => [(.iload 3, [], 0), (.ireturn, [1], 0)]
  | _ => []
def PX3_hears : Nat → Nat
  | 0 => 0
  | 1 => 22
  | 2 => 23
  | 3 => 43
  | _ => 0
def BX3_knowersOf : Nat → List MI
  | 0 => [(.sipush 0, [], 0), (.istore 2, [], 0), (.iload 1, [], 0), (.ifCond .lt 18, [1], 0), (.iload 1, [], 0), (.aload 0, [], 0), (.getfield 61, [3, 2, 2], 0), (.getfield 90, [5, 5, 0], 0), (.if_icmp .ge 7, [1], 0), (.sipush 1, [], 0), (.goto 4, [2], 0)]
  | 1 => [(.sipush 0, [], 0), (.invokedynamic 4, [2], 0)]
  | 2 => [(.istore 3, [], 0), (.sipush 0, [], 0), (.istore 4, [], 0), (.invokedynamic 4, [3], 0)]
  | 3 => [(.iload 3, [], 0), (.ifCond .eq 45, [6], 0), (.iload 4, [], 0), (.aload 0, [], 0), (.getfield 61, [3, 2, 2], 0), (.getfield 85, [5, 3, 0], 0), (.if_icmp .ge 33, [6], 0), (.iload 2, [], 0), (.aload 0, [], 0), (.getfield 35, [3, 6, 2], 0), (.iload 4, [], 0), (.sipush 6, [], 0), (.imul, [], 0), (.iload 1, [], 0), (.iadd, [], 0), (.iaload, [], 0), (.sipush (-1), [], 0), (.if_icmp .ne 7, [4], 0), (.sipush 0, [], 0), (.goto 4, [5], 0)]
  | 4 => [(.sipush 1, [], 0), (.invokedynamic 4, [5], 0)]
  | 5 => [(.iadd, [], 0), (.istore 2, [], 0), (.iinc 4 1, [], 0), (.goto (-43), [3], 0)]
  | 6 => [(.iload 2, [], 0), (.ireturn, [0], 0)]
  | _ => []
def PX3_knowersOf : Nat → Nat
  | 0 => 0
  | 1 => 21
  | 2 => 22
  | 3 => 26
  | 4 => 63
  | 5 => 64
  | 6 => 72
  | _ => 0
def BX3_knownBy : Nat → List MI
  | 0 => [(.sipush 0, [], 0), (.istore 2, [], 0), (.sipush 0, [], 0), (.istore 3, [], 0), (.invokedynamic 4, [1], 0)]
  | 1 => [(.iload 3, [], 0), (.aload 0, [], 0), (.getfield 61, [3, 2, 2], 0), (.getfield 90, [5, 5, 0], 0), (.if_icmp .ge 26, [4], 0), (.iload 2, [], 0), (.aload 0, [], 0), (.iload 1, [], 0), (.iload 3, [], 0), (.invokevirtual 97, [14, 3], 0), (.ifCond .eq 7, [2], 0), (.sipush 1, [], 0), (.goto 4, [3], 0)]
  | 2 => [(.sipush 0, [], 0), (.invokedynamic 4, [3], 0)]
  | 3 => [(.iadd, [], 0), (.istore 2, [], 0), (.iinc 3 1, [], 0), (.goto (-31), [1], 0)]
  | 4 => [(.iload 2, [], 0), (.ireturn, [0], 0)]
  | _ => []
def PX3_knownBy : Nat → Nat
  | 0 => 0
  | 1 => 4
  | 2 => 29
  | 3 => 30
  | 4 => 38
  | _ => 0
def BX3_knownByAll : Nat → List MI
  | 0 => [(.sipush 0, [], 0), (.istore 1, [], 0), (.sipush 0, [], 0), (.istore 2, [], 0), (.invokedynamic 4, [1], 0)]
  | 1 => [(.iload 2, [], 0), (.aload 0, [], 0), (.getfield 61, [3, 2, 2], 0), (.getfield 85, [5, 3, 0], 0), (.if_icmp .ge 17, [2], 0), (.iload 1, [], 0), (.aload 0, [], 0), (.iload 2, [], 0), (.invokevirtual 100, [17, 2], 0), (.iadd, [], 0), (.istore 1, [], 0), (.iinc 2 1, [], 0), (.goto (-22), [1], 0)]
  | 2 => [(.iload 1, [], 0), (.ireturn, [0], 0)]
  | _ => []
def PX3_knownByAll : Nat → Nat
  | 0 => 0
  | 1 => 4
  | 2 => 29
  | _ => 0
def BX3_walkersOn : Nat → List MI
  | 0 => [(.sipush 0, [], 0), (.istore 2, [], 0), (.sipush 0, [], 0), (.istore 3, [], 0), (.invokedynamic 4, [1], 0)]
  | 1 => [(.iload 3, [], 0), (.aload 0, [], 0), (.getfield 46, [3, 9, 0], 0), (.if_icmp .ge 27, [4], 0), (.iload 2, [], 0), (.aload 0, [], 0), (.getfield 49, [3, 10, 2], 0), (.iload 3, [], 0), (.iaload, [], 0), (.iload 1, [], 0), (.if_icmp .ne 7, [2], 0), (.sipush 1, [], 0), (.goto 4, [3], 0)]
  | 2 => [(.sipush 0, [], 0), (.invokedynamic 4, [3], 0)]
  | 3 => [(.iadd, [], 0), (.istore 2, [], 0), (.iinc 3 1, [], 0), (.goto (-29), [1], 0)]
  | 4 => [(.iload 2, [], 0), (.ireturn, [0], 0)]
  | _ => []
def PX3_walkersOn : Nat → Nat
  | 0 => 0
  | 1 => 4
  | 2 => 27
  | 3 => 28
  | 4 => 36
  | _ => 0
def BX3_walkersWith : Nat → List MI
  | 0 => [(.sipush 0, [], 0), (.istore 2, [], 0), (.sipush 0, [], 0), (.istore 3, [], 0), (.invokedynamic 4, [1], 0)]
  | 1 => [(.iload 3, [], 0), (.aload 0, [], 0), (.getfield 46, [3, 9, 0], 0), (.if_icmp .ge 27, [4], 0), (.iload 2, [], 0), (.aload 0, [], 0), (.getfield 55, [3, 12, 2], 0), (.iload 3, [], 0), (.iaload, [], 0), (.iload 1, [], 0), (.if_icmp .ne 7, [2], 0), (.sipush 1, [], 0), (.goto 4, [3], 0)]
  | 2 => [(.sipush 0, [], 0), (.invokedynamic 4, [3], 0)]
  | 3 => [(.iadd, [], 0), (.istore 2, [], 0), (.iinc 3 1, [], 0), (.goto (-29), [1], 0)]
  | 4 => [(.iload 2, [], 0), (.ireturn, [0], 0)]
  | _ => []
def PX3_walkersWith : Nat → Nat
  | 0 => 0
  | 1 => 4
  | 2 => 27
  | 3 => 28
  | 4 => 36
  | _ => 0
def BX3_tally : Nat → List MI
  | 0 => [(.iload 1, [], 0), (.tableswitch 104 5 12 #[47, 55, 64, 72, 77, 82, 87, 95], [9, 1, 2, 3, 4, 5, 6, 7, 8], 0)]
  | 1 => [(.aload 0, [], 0), (.getfield 12, [3, 0, 2], 0), (.invokevirtual 104, [66, 1], 0), (.ireturn, [0], 0)]
  | 2 => [(.aload 0, [], 0), (.getfield 12, [3, 0, 2], 0), (.sipush 0, [], 0), (.invokevirtual 108, [78, 2], 0), (.ireturn, [0], 0)]
  | 3 => [(.aload 0, [], 0), (.getfield 12, [3, 0, 2], 0), (.invokevirtual 111, [81, 1], 0), (.ireturn, [0], 0)]
  | 4 => [(.aload 0, [], 0), (.getfield 46, [3, 9, 0], 0), (.ireturn, [0], 0)]
  | 5 => [(.aload 0, [], 0), (.invokevirtual 114, [18, 1], 0), (.ireturn, [0], 0)]
  | 6 => [(.aload 0, [], 0), (.getfield 29, [3, 4, 0], 0), (.ireturn, [0], 0)]
  | 7 => [(.aload 0, [], 0), (.getfield 12, [3, 0, 2], 0), (.invokevirtual 117, [80, 1], 0), (.ireturn, [0], 0)]
  | 8 => [(.aload 0, [], 0), (.getfield 12, [3, 0, 2], 0), (.sipush 1, [], 0), (.invokevirtual 108, [78, 2], 0), (.ireturn, [0], 0)]
  | 9 => [(.aload 0, [], 0), (.getfield 32, [3, 5, 0], 0), (.ireturn, [0], 0)]
  | _ => []
def PX3_tally : Nat → Nat
  | 0 => 0
  | 1 => 48
  | 2 => 56
  | 3 => 65
  | 4 => 73
  | 5 => 78
  | 6 => 83
  | 7 => 88
  | 8 => 96
  | 9 => 105
  | _ => 0
def BX3_passHours : Nat → List MI
  | 0 => [(.sipush 0, [], 0), (.istore 2, [], 0), (.sipush 0, [], 0), (.istore 3, [], 0), (.invokedynamic 4, [1], 0)]
  | 1 => [(.iload 3, [], 0), (.iload 1, [], 0), (.if_icmp .ge 45, [2], 0), (.aload 0, [], 0), (.invokevirtual 120, [23, 1], 0), (.aload 0, [], 0), (.invokevirtual 123, [25, 1], 0), (.iload 2, [], 0), (.aload 0, [], 0), (.invokevirtual 126, [27, 1], 0), (.iadd, [], 0), (.istore 2, [], 0), (.iload 2, [], 0), (.aload 0, [], 0), (.invokevirtual 129, [28, 1], 0), (.iadd, [], 0), (.istore 2, [], 0), (.aload 0, [], 0), (.invokevirtual 132, [29, 1], 0), (.aload 0, [], 0), (.dup, [], 0), (.getfield 25, [3, 3, 0], 0), (.sipush 1, [], 0), (.iadd, [], 0), (.putfield 25, [3, 3, 0], 0), (.iinc 3 1, [], 0), (.goto (-44), [1], 0)]
  | 2 => [(.iload 2, [], 0), (.ireturn, [0], 0)]
  | _ => []
def PX3_passHours : Nat → Nat
  | 0 => 0
  | 1 => 4
  | 2 => 51
  | _ => 0
def BX3_giveOrders : Nat → List MI
  | 0 => [(.sipush 0, [], 0), (.istore 1, [], 0), (.invokedynamic 4, [1], 0)]
  | 1 => [(.iload 1, [], 0), (.sipush 10, [], 0), (.if_icmp .ge 16, [2], 0), (.aload 0, [], 0), (.getfield 43, [3, 8, 2], 0), (.iload 1, [], 0), (.sipush 0, [], 0), (.bastore, [], 0), (.iinc 1 1, [], 0), (.goto (-16), [1], 0)]
  | 2 => [(.sipush 0, [], 0), (.istore 1, [], 0), (.invokedynamic 4, [3], 0)]
  | 3 => [(.iload 1, [], 0), (.aload 0, [], 0), (.getfield 61, [3, 2, 2], 0), (.getfield 135, [5, 6, 0], 0), (.if_icmp .ge 94, [7], 0), (.aload 0, [], 0), (.getfield 21, [3, 1, 2], 0), (.aload 0, [], 0), (.aload 0, [], 0), (.getfield 61, [3, 2, 2], 0), (.getfield 138, [5, 14, 2], 0), (.iload 1, [], 0), (.iaload, [], 0), (.aload 0, [], 0), (.getfield 61, [3, 2, 2], 0), (.getfield 141, [5, 15, 2], 0), (.iload 1, [], 0), (.iaload, [], 0), (.invokevirtual 144, [52, 4], 0), (.ifCond .eq 7, [4], 0), (.sipush 1, [], 0), (.goto 4, [5], 0)]
  | 4 => [(.sipush 0, [], 0), (.invokedynamic 4, [5], 0)]
  | 5 => [(.istore 2, [], 0), (.aload 0, [], 0), (.getfield 21, [3, 1, 2], 0), (.aload 0, [], 0), (.aload 0, [], 0), (.getfield 61, [3, 2, 2], 0), (.getfield 148, [5, 13, 2], 0), (.iload 1, [], 0), (.iaload, [], 0), (.aload 0, [], 0), (.getfield 61, [3, 2, 2], 0), (.getfield 138, [5, 14, 2], 0), (.iload 1, [], 0), (.iaload, [], 0), (.invokevirtual 144, [52, 4], 0), (.istore 3, [], 0), (.iload 2, [], 0), (.ifCond .eq 22, [6], 0), (.aload 0, [], 0), (.iload 1, [], 0), (.iload 3, [], 0), (.invokevirtual 151, [24, 3], 0), (.ifCond .eq 13, [6], 0), (.aload 0, [], 0), (.dup, [], 0), (.getfield 29, [3, 4, 0], 0), (.sipush 1, [], 0), (.iadd, [], 0), (.putfield 29, [3, 4, 0], 0), (.invokedynamic 4, [6], 0)]
  | 6 => [(.iinc 1 1, [], 0), (.goto (-99), [3], 0)]
  | 7 => [(.return_, [], 0)]
  | _ => []
def PX3_giveOrders : Nat → Nat
  | 0 => 0
  | 1 => 2
  | 2 => 21
  | 3 => 23
  | 4 => 67
  | 5 => 68
  | 6 => 119
  | 7 => 125
  | _ => 0
def BX3_carryOut : Nat → List MI
  | 0 => [(.aload 0, [], 0), (.getfield 61, [3, 2, 2], 0), (.iload 1, [], 0), (.invokevirtual 154, [50, 2], 0), (.istore 3, [], 0), (.getstatic 157, [0, 303], 0), (.aload 0, [], 0), (.getfield 61, [3, 2, 2], 0), (.iload 1, [], 0), (.invokevirtual 162, [49, 2], 0), (.invokevirtual 166, [283, 1], 0), (.iaload, [], 0), (.lookupswitch 55 #[(19, 28), (20, 46)], [3, 1, 2], 0)]
  | 1 => [(.aload 0, [], 0), (.getfield 12, [3, 0, 2], 0), (.iload 3, [], 0), (.sipush 0, [], 0), (.sipush 3, [], 0), (.iload 2, [], 0), (.invokedynamic 2, [171], 0), (.invokedynamic 1, [177], 0), (.invokevirtual 180, [63, 3], 0), (.ireturn, [1], 0)]
  | 2 => [(.aload 0, [], 0), (.getfield 12, [3, 0, 2], 0), (.iload 3, [], 0), (.invokevirtual 183, [64, 2], 0), (.ireturn, [1], 0)]
  | 3 => [(.iload 3, [], 0), (.ifCond .lt 27, [4], 0), (.iload 3, [], 0), (.aload 0, [], 0), (.getfield 61, [3, 2, 2], 0), (.getfield 85, [5, 3, 0], 0), (.if_icmp .ge 16, [4], 0), (.aload 0, [], 0), (.getfield 43, [3, 8, 2], 0), (.iload 3, [], 0), (.baload, [], 0), (.ifCond .ne 7, [4], 0), (.sipush 1, [], 0), (.goto 4, [5], 0)]
  | 4 => [(.sipush 0, [], 0), (.invokedynamic 4, [5], 0)]
  | 5 => [(.istore 4, [], 0), (.iload 4, [], 0), (.ifCond .eq 10, [6], 0), (.aload 0, [], 0), (.getfield 43, [3, 8, 2], 0), (.iload 3, [], 0), (.sipush 1, [], 0), (.bastore, [], 0), (.invokedynamic 4, [6], 0)]
  | 6 => [(.iload 4, [], 0), (.ireturn, [1], 0)]
  | _ => []
def PX3_carryOut : Nat → Nat
  | 0 => 0
  | 1 => 52
  | 2 => 70
  | 3 => 79
  | 4 => 107
  | 5 => 108
  | 6 => 122
  | _ => 0
def BX3_loseWalkers : Nat → List MI
  | 0 => [(.sipush 0, [], 0), (.istore 1, [], 0), (.sipush 0, [], 0), (.istore 2, [], 0), (.invokedynamic 4, [1], 0)]
  | 1 => [(.iload 2, [], 0), (.aload 0, [], 0), (.getfield 46, [3, 9, 0], 0), (.if_icmp .ge 34, [3], 0), (.aload 0, [], 0), (.getfield 12, [3, 0, 2], 0), (.aload 0, [], 0), (.getfield 49, [3, 10, 2], 0), (.iload 2, [], 0), (.iaload, [], 0), (.invokevirtual 187, [65, 2], 0), (.ifCond .eq 12, [2], 0), (.aload 0, [], 0), (.iload 1, [], 0), (.iload 2, [], 0), (.invokevirtual 190, [26, 3], 0), (.iinc 1 1, [], 0), (.invokedynamic 4, [2], 0)]
  | 2 => [(.iinc 2 1, [], 0), (.goto (-36), [1], 0)]
  | 3 => [(.aload 0, [], 0), (.dup, [], 0), (.getfield 32, [3, 5, 0], 0), (.aload 0, [], 0), (.getfield 46, [3, 9, 0], 0), (.iload 1, [], 0), (.isub, [], 0), (.iadd, [], 0), (.putfield 32, [3, 5, 0], 0), (.aload 0, [], 0), (.iload 1, [], 0), (.putfield 46, [3, 9, 0], 0), (.return_, [], 0)]
  | _ => []
def PX3_loseWalkers : Nat → Nat
  | 0 => 0
  | 1 => 4
  | 2 => 37
  | 3 => 43
  | _ => 0
def BX3_keepWalker : Nat → List MI
  | 0 => [(.aload 0, [], 0), (.getfield 49, [3, 10, 2], 0), (.iload 1, [], 0), (.aload 0, [], 0), (.getfield 49, [3, 10, 2], 0), (.iload 2, [], 0), (.iaload, [], 0), (.iastore, [], 0), (.aload 0, [], 0), (.getfield 52, [3, 11, 2], 0), (.iload 1, [], 0), (.aload 0, [], 0), (.getfield 52, [3, 11, 2], 0), (.iload 2, [], 0), (.iaload, [], 0), (.iastore, [], 0), (.aload 0, [], 0), (.getfield 55, [3, 12, 2], 0), (.iload 1, [], 0), (.aload 0, [], 0), (.getfield 55, [3, 12, 2], 0), (.iload 2, [], 0), (.iaload, [], 0), (.iastore, [], 0), (.aload 0, [], 0), (.getfield 58, [3, 13, 2], 0), (.iload 1, [], 0), (.aload 0, [], 0), (.getfield 58, [3, 13, 2], 0), (.iload 2, [], 0), (.iaload, [], 0), (.iastore, [], 0), (.return_, [], 0)]
  | _ => []
def PX3_keepWalker : Nat → Nat
  | 0 => 0
  | _ => 0
def BX3_beginRumours : Nat → List MI
  | 0 => [(.sipush 0, [], 0), (.istore 1, [], 0), (.sipush 0, [], 0), (.istore 2, [], 0), (.invokedynamic 4, [1], 0)]
  | 1 => [(.iload 2, [], 0), (.aload 0, [], 0), (.getfield 61, [3, 2, 2], 0), (.getfield 90, [5, 5, 0], 0), (.if_icmp .ge 45, [3], 0), (.aload 0, [], 0), (.getfield 61, [3, 2, 2], 0), (.getfield 194, [5, 11, 2], 0), (.iload 2, [], 0), (.iaload, [], 0), (.aload 0, [], 0), (.getfield 25, [3, 3, 0], 0), (.if_icmp .ne 23, [2], 0), (.aload 0, [], 0), (.aload 0, [], 0), (.getfield 61, [3, 2, 2], 0), (.getfield 197, [5, 10, 2], 0), (.iload 2, [], 0), (.iaload, [], 0), (.iload 2, [], 0), (.invokevirtual 200, [15, 3], 0), (.ifCond .eq 6, [2], 0), (.iinc 1 1, [], 0), (.invokedynamic 4, [2], 0)]
  | 2 => [(.iinc 2 1, [], 0), (.goto (-50), [1], 0)]
  | 3 => [(.iload 1, [], 0), (.ireturn, [0], 0)]
  | _ => []
def PX3_beginRumours : Nat → Nat
  | 0 => 0
  | 1 => 4
  | 2 => 51
  | 3 => 57
  | _ => 0
def BX3_moveWalkers : Nat → List MI
  | 0 => [(.sipush 0, [], 0), (.istore 1, [], 0), (.sipush 0, [], 0), (.istore 2, [], 0), (.sipush 0, [], 0), (.istore 3, [], 0), (.invokedynamic 4, [1], 0)]
  | 1 => [(.iload 3, [], 0), (.aload 0, [], 0), (.getfield 46, [3, 9, 0], 0), (.if_icmp .ge 76, [4], 0), (.aload 0, [], 0), (.getfield 58, [3, 13, 2], 0), (.iload 3, [], 0), (.dup2, [], 0), (.iaload, [], 0), (.sipush 1, [], 0), (.iadd, [], 0), (.iastore, [], 0), (.aload 0, [], 0), (.getfield 58, [3, 13, 2], 0), (.iload 3, [], 0), (.iaload, [], 0), (.aload 0, [], 0), (.getfield 12, [3, 0, 2], 0), (.getfield 203, [7, 6, 2], 0), (.aload 0, [], 0), (.getfield 49, [3, 10, 2], 0), (.iload 3, [], 0), (.iaload, [], 0), (.iaload, [], 0), (.if_icmp .ge 15, [2], 0), (.aload 0, [], 0), (.iload 2, [], 0), (.iload 3, [], 0), (.invokevirtual 190, [26, 3], 0), (.iinc 2 1, [], 0), (.goto 25, [3], 0)]
  | 2 => [(.aload 0, [], 0), (.aload 0, [], 0), (.getfield 52, [3, 11, 2], 0), (.iload 3, [], 0), (.iaload, [], 0), (.aload 0, [], 0), (.getfield 55, [3, 12, 2], 0), (.iload 3, [], 0), (.iaload, [], 0), (.invokevirtual 200, [15, 3], 0), (.ifCond .eq 6, [3], 0), (.iinc 1 1, [], 0), (.invokedynamic 4, [3], 0)]
  | 3 => [(.iinc 3 1, [], 0), (.goto (-78), [1], 0)]
  | 4 => [(.aload 0, [], 0), (.iload 2, [], 0), (.putfield 46, [3, 9, 0], 0), (.iload 1, [], 0), (.ireturn, [0], 0)]
  | _ => []
def PX3_moveWalkers : Nat → Nat
  | 0 => 0
  | 1 => 6
  | 2 => 59
  | 3 => 81
  | 4 => 87
  | _ => 0
def BX3_sendWalkers : Nat → List MI
  | 0 => [(.sipush 0, [], 0), (.istore 1, [], 0), (.invokedynamic 4, [1], 0)]
  | 1 => [(.iload 1, [], 0), (.aload 0, [], 0), (.getfield 61, [3, 2, 2], 0), (.getfield 85, [5, 3, 0], 0), (.if_icmp .ge 76, [5], 0), (.sipush 0, [], 0), (.istore 2, [], 0), (.invokedynamic 4, [2], 0)]
  | 2 => [(.iload 2, [], 0), (.aload 0, [], 0), (.getfield 61, [3, 2, 2], 0), (.getfield 90, [5, 5, 0], 0), (.if_icmp .ge 57, [4], 0), (.aload 0, [], 0), (.getfield 43, [3, 8, 2], 0), (.iload 1, [], 0), (.baload, [], 0), (.ifCond .ne 48, [4], 0), (.iload 1, [], 0), (.sipush 6, [], 0), (.imul, [], 0), (.iload 2, [], 0), (.iadd, [], 0), (.istore 3, [], 0), (.aload 0, [], 0), (.getfield 35, [3, 6, 2], 0), (.iload 3, [], 0), (.iaload, [], 0), (.sipush (-1), [], 0), (.if_icmp .eq 25, [3], 0), (.aload 0, [], 0), (.getfield 39, [3, 7, 2], 0), (.iload 3, [], 0), (.baload, [], 0), (.ifCond .ne 16, [3], 0), (.aload 0, [], 0), (.getfield 39, [3, 7, 2], 0), (.iload 3, [], 0), (.sipush 1, [], 0), (.bastore, [], 0), (.aload 0, [], 0), (.iload 1, [], 0), (.iload 2, [], 0), (.invokevirtual 206, [30, 3], 0), (.invokedynamic 4, [3], 0)]
  | 3 => [(.iinc 2 1, [], 0), (.goto (-62), [2], 0)]
  | 4 => [(.iinc 1 1, [], 0), (.goto (-81), [1], 0)]
  | 5 => [(.return_, [], 0)]
  | _ => []
def PX3_sendWalkers : Nat → Nat
  | 0 => 0
  | 1 => 2
  | 2 => 15
  | 3 => 74
  | 4 => 80
  | 5 => 86
  | _ => 0
def BX3_sendFrom : Nat → List MI
  | 0 => [(.sipush 0, [], 0), (.istore 3, [], 0), (.invokedynamic 4, [1], 0)]
  | 1 => [(.iload 3, [], 0), (.aload 0, [], 0), (.getfield 12, [3, 0, 2], 0), (.getfield 209, [7, 1, 0], 0), (.if_icmp .ge 100, [3], 0), (.aload 0, [], 0), (.getfield 46, [3, 9, 0], 0), (.sipush 168, [], 0), (.if_icmp .ge 90, [3], 0), (.aload 0, [], 0), (.getfield 12, [3, 0, 2], 0), (.iload 3, [], 0), (.invokevirtual 187, [65, 2], 0), (.ifCond .eq 73, [2], 0), (.aload 0, [], 0), (.getfield 12, [3, 0, 2], 0), (.iload 3, [], 0), (.iload 1, [], 0), (.invokevirtual 212, [68, 3], 0), (.ifCond .eq 61, [2], 0), (.aload 0, [], 0), (.getfield 49, [3, 10, 2], 0), (.aload 0, [], 0), (.getfield 46, [3, 9, 0], 0), (.iload 3, [], 0), (.iastore, [], 0), (.aload 0, [], 0), (.getfield 52, [3, 11, 2], 0), (.aload 0, [], 0), (.getfield 46, [3, 9, 0], 0), (.aload 0, [], 0), (.getfield 12, [3, 0, 2], 0), (.iload 3, [], 0), (.iload 1, [], 0), (.invokevirtual 215, [69, 3], 0), (.iastore, [], 0), (.aload 0, [], 0), (.getfield 55, [3, 12, 2], 0), (.aload 0, [], 0), (.getfield 46, [3, 9, 0], 0), (.iload 2, [], 0), (.iastore, [], 0), (.aload 0, [], 0), (.getfield 58, [3, 13, 2], 0), (.aload 0, [], 0), (.getfield 46, [3, 9, 0], 0), (.sipush 0, [], 0), (.iastore, [], 0), (.aload 0, [], 0), (.dup, [], 0), (.getfield 46, [3, 9, 0], 0), (.sipush 1, [], 0), (.iadd, [], 0), (.putfield 46, [3, 9, 0], 0), (.invokedynamic 4, [2], 0)]
  | 2 => [(.iinc 3 1, [], 0), (.goto (-105), [1], 0)]
  | 3 => [(.return_, [], 0)]
  | _ => []
def PX3_sendFrom : Nat → Nat
  | 0 => 0
  | 1 => 2
  | 2 => 104
  | 3 => 110
  | _ => 0
def BX4_init : Nat → List MI
  | 0 => [(.aload 0, [], 0), (.invokedynamic 5, [3], 0), (.aload 0, [], 0), (.sipush 3, [], 0), (.sipush 14, [], 0), (.multianewarray 11 2, [1], 0), (.putfield 13, [4, 0, 2], 0), (.aload 0, [], 0), (.sipush 3, [], 0), (.newarray .int, [], 0), (.putfield 16, [4, 1, 2], 0), (.aload 0, [], 0), (.sipush 0, [], 0), (.putfield 20, [4, 2, 0], 0), (.aload 0, [], 0), (.sipush 0, [], 0), (.putfield 24, [4, 4, 0], 0), (.aload 0, [], 0), (.sipush 0, [], 0), (.putfield 27, [4, 5, 0], 0), (.aload 0, [], 0), (.aload 1, [], 0), (.putfield 30, [4, 3, 2], 0), (.return_, [], 0)]
  | _ => []
def PX4_init : Nat → Nat
  | 0 => 0
  | _ => 0
def BX4_look : Nat → List MI
  | 0 => [(.aload 0, [], 0), (.aload 1, [], 0), (.putfield 30, [4, 3, 2], 0), (.aload 0, [], 0), (.sipush 0, [], 0), (.putfield 24, [4, 4, 0], 0), (.aload 0, [], 0), (.sipush 0, [], 0), (.putfield 20, [4, 2, 0], 0), (.aload 0, [], 0), (.getfield 16, [4, 1, 2], 0), (.sipush 0, [], 0), (.invokestatic 34, [282, 2], 0), (.sipush 0, [], 0), (.istore 2, [], 0), (.invokedynamic 4, [1], 0)]
  | 1 => [(.aload 0, [], 0), (.getfield 24, [4, 4, 0], 0), (.ifCond .ne 28, [2], 0), (.iload 2, [], 0), (.aload 0, [], 0), (.getfield 30, [4, 3, 2], 0), (.getfield 40, [5, 0, 2], 0), (.getfield 46, [8, 4, 0], 0), (.if_icmp .ge 14, [2], 0), (.aload 0, [], 0), (.iload 2, [], 0), (.invokevirtual 51, [33, 2], 0), (.iinc 2 1, [], 0), (.goto (-29), [1], 0)]
  | 2 => [(.aload 0, [], 0), (.getfield 30, [4, 3, 2], 0), (.aload 0, [], 0), (.getfield 16, [4, 1, 2], 0), (.sipush 0, [], 0), (.iaload, [], 0), (.putfield 55, [5, 3, 0], 0), (.aload 0, [], 0), (.getfield 24, [4, 4, 0], 0), (.ireturn, [0], 0)]
  | _ => []
def PX4_look : Nat → Nat
  | 0 => 0
  | 1 => 25
  | 2 => 57
  | _ => 0
def BX4_lookAt : Nat → List MI
  | 0 => [(.getstatic 58, [0, 303], 0), (.aload 0, [], 0), (.getfield 30, [4, 3, 2], 0), (.getfield 40, [5, 0, 2], 0), (.iload 1, [], 0), (.invokevirtual 63, [88, 2], 0), (.invokevirtual 67, [283, 1], 0), (.iaload, [], 0), (.tableswitch 225 1 21 #[98, 109, 117, 225, 225, 159, 204, 183, 225, 225, 225, 225, 159, 159, 171, 183, 225, 225, 125, 125, 142], [10, 1, 2, 3, 10, 10, 6, 9, 8, 10, 10, 10, 10, 6, 6, 7, 8, 10, 10, 4, 4, 5], 0)]
  | 1 => [(.aload 0, [], 0), (.sipush 0, [], 0), (.iload 1, [], 0), (.sipush 1, [], 0), (.iadd, [], 0), (.invokevirtual 73, [38, 3], 0), (.goto 119, [10], 0)]
  | 2 => [(.aload 0, [], 0), (.iload 1, [], 0), (.invokevirtual 77, [34, 2], 0), (.goto 111, [10], 0)]
  | 3 => [(.aload 0, [], 0), (.iload 1, [], 0), (.invokevirtual 80, [35, 2], 0), (.goto 103, [10], 0)]
  | 4 => [(.aload 0, [], 0), (.iload 1, [], 0), (.invokevirtual 83, [36, 2], 0), (.aload 0, [], 0), (.sipush 1, [], 0), (.iload 1, [], 0), (.sipush 1, [], 0), (.iadd, [], 0), (.invokevirtual 86, [39, 3], 0), (.pop, [], 0), (.goto 86, [10], 0)]
  | 5 => [(.aload 0, [], 0), (.iload 1, [], 0), (.invokevirtual 83, [36, 2], 0), (.aload 0, [], 0), (.sipush 0, [], 0), (.iload 1, [], 0), (.sipush 1, [], 0), (.iadd, [], 0), (.invokevirtual 86, [39, 3], 0), (.pop, [], 0), (.goto 69, [10], 0)]
  | 6 => [(.aload 0, [], 0), (.sipush 1, [], 0), (.iload 1, [], 0), (.sipush 1, [], 0), (.iadd, [], 0), (.invokevirtual 86, [39, 3], 0), (.pop, [], 0), (.goto 57, [10], 0)]
  | 7 => [(.aload 0, [], 0), (.sipush 2, [], 0), (.iload 1, [], 0), (.sipush 1, [], 0), (.iadd, [], 0), (.invokevirtual 86, [39, 3], 0), (.pop, [], 0), (.goto 45, [10], 0)]
  | 8 => [(.aload 0, [], 0), (.sipush 0, [], 0), (.iload 1, [], 0), (.sipush 1, [], 0), (.iadd, [], 0), (.invokevirtual 86, [39, 3], 0), (.pop, [], 0), (.aload 0, [], 0), (.sipush 0, [], 0), (.iload 1, [], 0), (.sipush 2, [], 0), (.iadd, [], 0), (.invokevirtual 86, [39, 3], 0), (.pop, [], 0), (.goto 24, [10], 0)]
  | 9 => [(.aload 0, [], 0), (.sipush 0, [], 0), (.iload 1, [], 0), (.sipush 1, [], 0), (.iadd, [], 0), (.invokevirtual 86, [39, 3], 0), (.pop, [], 0), (.aload 0, [], 0), (.sipush 2, [], 0), (.iload 1, [], 0), (.sipush 2, [], 0), (.iadd, [], 0), (.invokevirtual 86, [39, 3], 0), (.pop, [], 0), (.goto 3, [10], 0)]
  | 10 => [(.return_, [], 0)]
  | _ => []
def PX4_lookAt : Nat → Nat
  | 0 => 0
  | 1 => 116
  | 2 => 127
  | 3 => 135
  | 4 => 143
  | 5 => 160
  | 6 => 177
  | 7 => 189
  | 8 => 201
  | 9 => 222
  | 10 => 243
  | _ => 0
def BX4_lookAtRoad : Nat → List MI
  | 0 => [(.aload 0, [], 0), (.sipush 1, [], 0), (.iload 1, [], 0), (.sipush 1, [], 0), (.iadd, [], 0), (.invokevirtual 73, [38, 3], 0), (.aload 0, [], 0), (.sipush 0, [], 0), (.iload 1, [], 0), (.sipush 3, [], 0), (.iadd, [], 0), (.invokevirtual 86, [39, 3], 0), (.istore 2, [], 0), (.aload 0, [], 0), (.sipush 0, [], 0), (.iload 1, [], 0), (.sipush 5, [], 0), (.iadd, [], 0), (.invokevirtual 86, [39, 3], 0), (.istore 3, [], 0), (.iload 2, [], 0), (.iload 3, [], 0), (.if_icmp .ne 11, [1], 0), (.aload 0, [], 0), (.sipush 3, [], 0), (.iload 1, [], 0), (.sipush 5, [], 0), (.iadd, [], 0), (.invokevirtual 90, [37, 3], 0), (.invokedynamic 4, [1], 0)]
  | 1 => [(.aload 0, [], 0), (.iload 1, [], 0), (.sipush 7, [], 0), (.iadd, [], 0), (.sipush 1, [], 0), (.sipush 30, [], 0), (.invokevirtual 93, [41, 4], 0), (.istore 4, [], 0), (.aload 0, [], 0), (.getfield 24, [4, 4, 0], 0), (.ifCond .ne 14, [2], 0), (.aload 0, [], 0), (.getfield 30, [4, 3, 2], 0), (.iload 2, [], 0), (.iload 3, [], 0), (.iload 4, [], 0), (.invokevirtual 97, [46, 4], 0), (.invokedynamic 4, [2], 0)]
  | 2 => [(.return_, [], 0)]
  | _ => []
def PX4_lookAtRoad : Nat → Nat
  | 0 => 0
  | 1 => 39
  | 2 => 70
  | _ => 0
def BX4_lookAtRumour : Nat → List MI
  | 0 => [(.aload 0, [], 0), (.sipush 2, [], 0), (.iload 1, [], 0), (.sipush 1, [], 0), (.iadd, [], 0), (.invokevirtual 73, [38, 3], 0), (.aload 0, [], 0), (.sipush 0, [], 0), (.iload 1, [], 0), (.sipush 3, [], 0), (.iadd, [], 0), (.invokevirtual 86, [39, 3], 0), (.istore 2, [], 0), (.aload 0, [], 0), (.iload 1, [], 0), (.sipush 5, [], 0), (.iadd, [], 0), (.sipush 0, [], 0), (.sipush 99, [], 0), (.invokevirtual 93, [41, 4], 0), (.istore 3, [], 0), (.aload 0, [], 0), (.getfield 24, [4, 4, 0], 0), (.ifCond .ne 12, [1], 0), (.aload 0, [], 0), (.getfield 30, [4, 3, 2], 0), (.iload 2, [], 0), (.iload 3, [], 0), (.invokevirtual 101, [47, 3], 0), (.invokedynamic 4, [1], 0)]
  | 1 => [(.return_, [], 0)]
  | _ => []
def PX4_lookAtRumour : Nat → Nat
  | 0 => 0
  | 1 => 44
  | _ => 0
def BX4_countOrder : Nat → List MI
  | 0 => [(.aload 0, [], 0), (.dup, [], 0), (.getfield 20, [4, 2, 0], 0), (.sipush 1, [], 0), (.iadd, [], 0), (.putfield 20, [4, 2, 0], 0), (.aload 0, [], 0), (.getfield 20, [4, 2, 0], 0), (.sipush 20, [], 0), (.if_icmp .le 9, [1], 0), (.aload 0, [], 0), (.sipush 4, [], 0), (.iload 1, [], 0), (.invokevirtual 90, [37, 3], 0), (.invokedynamic 4, [1], 0)]
  | 1 => [(.return_, [], 0)]
  | _ => []
def PX4_countOrder : Nat → Nat
  | 0 => 0
  | 1 => 25
  | _ => 0
def BX4_note : Nat → List MI
  | 0 => [(.aload 0, [], 0), (.getfield 24, [4, 4, 0], 0), (.ifCond .ne 13, [1], 0), (.aload 0, [], 0), (.iload 1, [], 0), (.putfield 24, [4, 4, 0], 0), (.aload 0, [], 0), (.iload 2, [], 0), (.putfield 27, [4, 5, 0], 0), (.invokedynamic 4, [1], 0)]
  | 1 => [(.return_, [], 0)]
  | _ => []
def PX4_note : Nat → Nat
  | 0 => 0
  | 1 => 17
  | _ => 0
def BX4_tellNew : Nat → List MI
  | 0 => [(.aload 0, [], 0), (.getfield 30, [4, 3, 2], 0), (.getfield 40, [5, 0, 2], 0), (.iload 2, [], 0), (.invokevirtual 104, [91, 2], 0), (.lstore 3, [], 0), (.aload 0, [], 0), (.iload 1, [], 0), (.lload 3, [], 0), (.invokevirtual 108, [40, 3], 0), (.sipush (-1), [], 0), (.if_icmp .eq 12, [1], 0), (.aload 0, [], 0), (.sipush 2, [], 0), (.iload 2, [], 0), (.invokevirtual 90, [37, 3], 0), (.goto 50, [3], 0)]
  | 1 => [(.aload 0, [], 0), (.getfield 16, [4, 1, 2], 0), (.iload 1, [], 0), (.iaload, [], 0), (.getstatic 112, [0, 302], 0), (.iload 1, [], 0), (.iaload, [], 0), (.if_icmp .lt 12, [2], 0), (.aload 0, [], 0), (.sipush 4, [], 0), (.iload 2, [], 0), (.invokevirtual 90, [37, 3], 0), (.goto 27, [3], 0)]
  | 2 => [(.aload 0, [], 0), (.getfield 13, [4, 0, 2], 0), (.iload 1, [], 0), (.aaload, [], 0), (.aload 0, [], 0), (.getfield 16, [4, 1, 2], 0), (.iload 1, [], 0), (.iaload, [], 0), (.lload 3, [], 0), (.lastore, [], 0), (.aload 0, [], 0), (.getfield 16, [4, 1, 2], 0), (.iload 1, [], 0), (.dup2, [], 0), (.iaload, [], 0), (.sipush 1, [], 0), (.iadd, [], 0), (.iastore, [], 0), (.invokedynamic 4, [3], 0)]
  | 3 => [(.return_, [], 0)]
  | _ => []
def PX4_tellNew : Nat → Nat
  | 0 => 0
  | 1 => 31
  | 2 => 54
  | 3 => 78
  | _ => 0
def BX4_find : Nat → List MI
  | 0 => [(.aload 0, [], 0), (.iload 1, [], 0), (.aload 0, [], 0), (.getfield 30, [4, 3, 2], 0), (.getfield 40, [5, 0, 2], 0), (.iload 2, [], 0), (.invokevirtual 104, [91, 2], 0), (.invokevirtual 108, [40, 3], 0), (.istore 3, [], 0), (.iload 3, [], 0), (.sipush (-1), [], 0), (.if_icmp .ne 9, [1], 0), (.aload 0, [], 0), (.sipush 3, [], 0), (.iload 2, [], 0), (.invokevirtual 90, [37, 3], 0), (.invokedynamic 4, [1], 0)]
  | 1 => [(.aload 0, [], 0), (.getfield 30, [4, 3, 2], 0), (.getfield 40, [5, 0, 2], 0), (.iload 2, [], 0), (.iload 3, [], 0), (.invokevirtual 115, [92, 3], 0), (.iload 3, [], 0), (.ireturn, [0], 0)]
  | _ => []
def PX4_find : Nat → Nat
  | 0 => 0
  | 1 => 28
  | _ => 0
def BX4_indexOf : Nat → List MI
  | 0 => [(.sipush 0, [], 0), (.istore 4, [], 0), (.invokedynamic 4, [1], 0)]
  | 1 => [(.iload 4, [], 0), (.aload 0, [], 0), (.getfield 16, [4, 1, 2], 0), (.iload 1, [], 0), (.iaload, [], 0), (.if_icmp .ge 26, [3], 0), (.aload 0, [], 0), (.getfield 13, [4, 0, 2], 0), (.iload 1, [], 0), (.aaload, [], 0), (.iload 4, [], 0), (.laload, [], 0), (.lload 2, [], 0), (.lcmp, [], 0), (.ifCond .ne 6, [2], 0), (.iload 4, [], 0), (.ireturn, [0], 0)]
  | 2 => [(.iinc 4 1, [], 0), (.goto (-31), [1], 0)]
  | 3 => [(.sipush (-1), [], 0), (.ireturn, [0], 0)]
  | _ => []
def PX4_indexOf : Nat → Nat
  | 0 => 0
  | 1 => 3
  | 2 => 31
  | 3 => 37
  | _ => 0
def BX4_numberOf : Nat → List MI
  | 0 => [(.aload 0, [], 0), (.getfield 30, [4, 3, 2], 0), (.getfield 40, [5, 0, 2], 0), (.iload 1, [], 0), (.invokevirtual 118, [90, 2], 0), (.istore 4, [], 0), (.iload 4, [], 0), (.iload 2, [], 0), (.if_icmp .lt 9, [1], 0), (.iload 4, [], 0), (.iload 3, [], 0), (.if_icmp .le 9, [2], 0), (.invokedynamic 4, [1], 0)]
  | 1 => [(.aload 0, [], 0), (.sipush 5, [], 0), (.iload 1, [], 0), (.invokevirtual 90, [37, 3], 0), (.invokedynamic 4, [2], 0)]
  | 2 => [(.iload 4, [], 0), (.ireturn, [0], 0)]
  | _ => []
def PX4_numberOf : Nat → Nat
  | 0 => 0
  | 1 => 25
  | 2 => 31
  | _ => 0
def BX5_init : Nat → List MI
  | 0 => [(.aload 0, [], 0), (.invokedynamic 5, [3], 0), (.aload 0, [], 0), (.new 9, [8], 0), (.dup, [], 0), (.invokespecial 11, [86, 1], 0), (.putfield 12, [5, 0, 2], 0), (.aload 0, [], 0), (.sipush 400, [], 0), (.newarray .int, [], 0), (.putfield 18, [5, 1, 2], 0), (.aload 0, [], 0), (.sipush 0, [], 0), (.putfield 22, [5, 2, 0], 0), (.aload 0, [], 0), (.sipush 0, [], 0), (.putfield 26, [5, 3, 0], 0), (.aload 0, [], 0), (.sipush 0, [], 0), (.putfield 29, [5, 4, 0], 0), (.aload 0, [], 0), (.sipush 0, [], 0), (.putfield 32, [5, 5, 0], 0), (.aload 0, [], 0), (.sipush 0, [], 0), (.putfield 35, [5, 6, 0], 0), (.aload 0, [], 0), (.sipush 14, [], 0), (.newarray .int, [], 0), (.putfield 38, [5, 7, 2], 0), (.aload 0, [], 0), (.sipush 14, [], 0), (.newarray .int, [], 0), (.putfield 41, [5, 8, 2], 0), (.aload 0, [], 0), (.sipush 14, [], 0), (.newarray .int, [], 0), (.putfield 44, [5, 9, 2], 0), (.aload 0, [], 0), (.sipush 6, [], 0), (.newarray .int, [], 0), (.putfield 47, [5, 10, 2], 0), (.aload 0, [], 0), (.sipush 6, [], 0), (.newarray .int, [], 0), (.putfield 50, [5, 11, 2], 0), (.aload 0, [], 0), (.sipush 20, [], 0), (.newarray .int, [], 0), (.putfield 53, [5, 12, 2], 0), (.aload 0, [], 0), (.sipush 20, [], 0), (.newarray .int, [], 0), (.putfield 56, [5, 13, 2], 0), (.aload 0, [], 0), (.sipush 20, [], 0), (.newarray .int, [], 0), (.putfield 59, [5, 14, 2], 0), (.aload 0, [], 0), (.sipush 20, [], 0), (.newarray .int, [], 0), (.putfield 62, [5, 15, 2], 0), (.return_, [], 0)]
  | _ => []
def PX5_init : Nat → Nat
  | 0 => 0
  | _ => 0
def BX5_clear : Nat → List MI
  | 0 => [(.aload 0, [], 0), (.sipush 0, [], 0), (.putfield 22, [5, 2, 0], 0), (.aload 0, [], 0), (.sipush 0, [], 0), (.putfield 26, [5, 3, 0], 0), (.aload 0, [], 0), (.sipush 0, [], 0), (.putfield 29, [5, 4, 0], 0), (.aload 0, [], 0), (.sipush 0, [], 0), (.putfield 32, [5, 5, 0], 0), (.aload 0, [], 0), (.sipush 0, [], 0), (.putfield 35, [5, 6, 0], 0), (.return_, [], 0)]
  | _ => []
def PX5_clear : Nat → Nat
  | 0 => 0
  | _ => 0
def BX5_addCode : Nat → List MI
  | 0 => [(.aload 0, [], 0), (.getfield 22, [5, 2, 0], 0), (.sipush 400, [], 0), (.if_icmp .ge 23, [1], 0), (.aload 0, [], 0), (.getfield 18, [5, 1, 2], 0), (.aload 0, [], 0), (.getfield 22, [5, 2, 0], 0), (.iload 1, [], 0), (.iastore, [], 0), (.aload 0, [], 0), (.dup, [], 0), (.getfield 22, [5, 2, 0], 0), (.sipush 1, [], 0), (.iadd, [], 0), (.putfield 22, [5, 2, 0], 0), (.invokedynamic 4, [1], 0)]
  | 1 => [(.return_, [], 0)]
  | _ => []
def PX5_addCode : Nat → Nat
  | 0 => 0
  | 1 => 30
  | _ => 0
def BX5_codeAt : Nat → List MI
  | 0 => [(.iload 1, [], 0), (.ifCond .lt 20, [1], 0), (.iload 1, [], 0), (.aload 0, [], 0), (.getfield 22, [5, 2, 0], 0), (.if_icmp .ge 12, [1], 0), (.aload 0, [], 0), (.getfield 18, [5, 1, 2], 0), (.iload 1, [], 0), (.iaload, [], 0), (.goto 4, [2], 0)]
  | 1 => [(.sipush (-1), [], 0), (.invokedynamic 4, [2], 0)]
  | 2 => [(.ireturn, [0], 0)]
  | _ => []
def PX5_codeAt : Nat → Nat
  | 0 => 0
  | 1 => 21
  | 2 => 22
  | _ => 0
def BX5_addRoad : Nat → List MI
  | 0 => [(.aload 0, [], 0), (.getfield 29, [5, 4, 0], 0), (.sipush 14, [], 0), (.if_icmp .ge 43, [1], 0), (.aload 0, [], 0), (.getfield 38, [5, 7, 2], 0), (.aload 0, [], 0), (.getfield 29, [5, 4, 0], 0), (.iload 1, [], 0), (.iastore, [], 0), (.aload 0, [], 0), (.getfield 41, [5, 8, 2], 0), (.aload 0, [], 0), (.getfield 29, [5, 4, 0], 0), (.iload 2, [], 0), (.iastore, [], 0), (.aload 0, [], 0), (.getfield 44, [5, 9, 2], 0), (.aload 0, [], 0), (.getfield 29, [5, 4, 0], 0), (.iload 3, [], 0), (.iastore, [], 0), (.aload 0, [], 0), (.dup, [], 0), (.getfield 29, [5, 4, 0], 0), (.sipush 1, [], 0), (.iadd, [], 0), (.putfield 29, [5, 4, 0], 0), (.invokedynamic 4, [1], 0)]
  | 1 => [(.return_, [], 0)]
  | _ => []
def PX5_addRoad : Nat → Nat
  | 0 => 0
  | 1 => 49
  | _ => 0
def BX5_addRumour : Nat → List MI
  | 0 => [(.aload 0, [], 0), (.getfield 32, [5, 5, 0], 0), (.sipush 6, [], 0), (.if_icmp .ge 33, [1], 0), (.aload 0, [], 0), (.getfield 47, [5, 10, 2], 0), (.aload 0, [], 0), (.getfield 32, [5, 5, 0], 0), (.iload 1, [], 0), (.iastore, [], 0), (.aload 0, [], 0), (.getfield 50, [5, 11, 2], 0), (.aload 0, [], 0), (.getfield 32, [5, 5, 0], 0), (.iload 2, [], 0), (.iastore, [], 0), (.aload 0, [], 0), (.dup, [], 0), (.getfield 32, [5, 5, 0], 0), (.sipush 1, [], 0), (.iadd, [], 0), (.putfield 32, [5, 5, 0], 0), (.invokedynamic 4, [1], 0)]
  | 1 => [(.return_, [], 0)]
  | _ => []
def PX5_addRumour : Nat → Nat
  | 0 => 0
  | 1 => 39
  | _ => 0
def BX5_addOrder : Nat → List MI
  | 0 => [(.aload 0, [], 0), (.getfield 35, [5, 6, 0], 0), (.sipush 20, [], 0), (.if_icmp .ge 56, [1], 0), (.aload 0, [], 0), (.getfield 53, [5, 12, 2], 0), (.aload 0, [], 0), (.getfield 35, [5, 6, 0], 0), (.iload 1, [], 0), (.iastore, [], 0), (.aload 0, [], 0), (.getfield 56, [5, 13, 2], 0), (.aload 0, [], 0), (.getfield 35, [5, 6, 0], 0), (.iload 2, [], 0), (.iastore, [], 0), (.aload 0, [], 0), (.getfield 59, [5, 14, 2], 0), (.aload 0, [], 0), (.getfield 35, [5, 6, 0], 0), (.iload 3, [], 0), (.iastore, [], 0), (.aload 0, [], 0), (.getfield 62, [5, 15, 2], 0), (.aload 0, [], 0), (.getfield 35, [5, 6, 0], 0), (.aload 0, [], 0), (.getfield 22, [5, 2, 0], 0), (.iastore, [], 0), (.aload 0, [], 0), (.dup, [], 0), (.getfield 35, [5, 6, 0], 0), (.sipush 1, [], 0), (.iadd, [], 0), (.putfield 35, [5, 6, 0], 0), (.invokedynamic 4, [1], 0)]
  | 1 => [(.return_, [], 0)]
  | _ => []
def PX5_addOrder : Nat → Nat
  | 0 => 0
  | 1 => 62
  | _ => 0
def BX5_kindOfOrder : Nat → List MI
  | 0 => [(.aload 0, [], 0), (.getfield 12, [5, 0, 2], 0), (.aload 0, [], 0), (.getfield 53, [5, 12, 2], 0), (.iload 1, [], 0), (.iaload, [], 0), (.invokevirtual 65, [88, 2], 0), (.areturn, [], 0)]
  | _ => []
def PX5_kindOfOrder : Nat → Nat
  | 0 => 0
  | _ => 0
def BX5_targetOfOrder : Nat → List MI
  | 0 => [(.aload 0, [], 0), (.getfield 12, [5, 0, 2], 0), (.aload 0, [], 0), (.getfield 53, [5, 12, 2], 0), (.iload 1, [], 0), (.iaload, [], 0), (.sipush 1, [], 0), (.iadd, [], 0), (.invokevirtual 69, [90, 2], 0), (.ireturn, [0], 0)]
  | _ => []
def PX5_targetOfOrder : Nat → Nat
  | 0 => 0
  | _ => 0
def BX6_init : Nat → List MI
  | 0 => [(.aload 0, [], 0), (.invokedynamic 5, [3], 0), (.aload 0, [], 0), (.sipush 64, [], 0), (.newarray .int, [], 0), (.putfield 9, [6, 0, 2], 0), (.aload 0, [], 0), (.sipush 0, [], 0), (.putfield 15, [6, 1, 0], 0), (.return_, [], 0)]
  | _ => []
def PX6_init : Nat → Nat
  | 0 => 0
  | _ => 0
def BX6_reckon : Nat → List MI
  | 0 => [(.aload 0, [], 0), (.sipush 0, [], 0), (.putfield 15, [6, 1, 0], 0), (.iload 2, [], 0), (.istore 4, [], 0), (.invokedynamic 4, [1], 0)]
  | 1 => [(.iload 4, [], 0), (.iload 3, [], 0), (.if_icmp .ge 123, [7], 0), (.aload 1, [], 0), (.getfield 19, [3, 2, 2], 0), (.iload 4, [], 0), (.invokevirtual 25, [45, 2], 0), (.istore 5, [], 0), (.aload 1, [], 0), (.getfield 19, [3, 2, 2], 0), (.getfield 31, [5, 0, 2], 0), (.iload 5, [], 0), (.invokevirtual 35, [88, 2], 0), (.astore 6, [], 0), (.aload 6, [], 0), (.getfield 41, [99, 51, 0], 0), (.sipush 2, [], 0), (.if_icmp .ne 31, [2], 0), (.aload 0, [], 0), (.invokevirtual 46, [54, 1], 0), (.istore 7, [], 0), (.aload 0, [], 0), (.invokevirtual 46, [54, 1], 0), (.istore 8, [], 0), (.aload 0, [], 0), (.aload 6, [], 0), (.iload 8, [], 0), (.iload 7, [], 0), (.invokestatic 50, [55, 3], 0), (.invokevirtual 54, [53, 2], 0), (.goto 55, [6], 0)]
  | 2 => [(.aload 6, [], 0), (.getfield 41, [99, 51, 0], 0), (.sipush 1, [], 0), (.if_icmp .ne 34, [5], 0), (.aload 0, [], 0), (.invokevirtual 46, [54, 1], 0), (.istore 7, [], 0), (.aload 0, [], 0), (.aload 6, [], 0), (.getstatic 58, [0, 41], 0), (.if_acmp .ne 9, [3], 0), (.iload 7, [], 0), (.ineg, [], 0), (.goto 7, [4], 0)]
  | 3 => [(.sipush 1, [], 0), (.iload 7, [], 0), (.isub, [], 0), (.invokedynamic 4, [4], 0)]
  | 4 => [(.invokevirtual 54, [53, 2], 0), (.goto 15, [6], 0)]
  | 5 => [(.aload 0, [], 0), (.aload 1, [], 0), (.aload 6, [], 0), (.iload 5, [], 0), (.invokestatic 62, [57, 3], 0), (.invokevirtual 54, [53, 2], 0), (.invokedynamic 4, [6], 0)]
  | 6 => [(.iinc 4 1, [], 0), (.goto (-123), [1], 0)]
  | 7 => [(.aload 0, [], 0), (.invokevirtual 46, [54, 1], 0), (.ireturn, [0], 0)]
  | _ => []
def PX6_reckon : Nat → Nat
  | 0 => 0
  | 1 => 8
  | 2 => 76
  | 3 => 106
  | 4 => 110
  | 5 => 116
  | 6 => 128
  | 7 => 134
  | _ => 0
def BX6_push : Nat → List MI
  | 0 => [(.aload 0, [], 0), (.getfield 15, [6, 1, 0], 0), (.sipush 64, [], 0), (.if_icmp .ge 23, [1], 0), (.aload 0, [], 0), (.getfield 9, [6, 0, 2], 0), (.aload 0, [], 0), (.getfield 15, [6, 1, 0], 0), (.iload 1, [], 0), (.iastore, [], 0), (.aload 0, [], 0), (.dup, [], 0), (.getfield 15, [6, 1, 0], 0), (.sipush 1, [], 0), (.iadd, [], 0), (.putfield 15, [6, 1, 0], 0), (.invokedynamic 4, [1], 0)]
  | 1 => [(.return_, [], 0)]
  | _ => []
def PX6_push : Nat → Nat
  | 0 => 0
  | 1 => 29
  | _ => 0
def BX6_pop : Nat → List MI
  | 0 => [(.aload 0, [], 0), (.getfield 15, [6, 1, 0], 0), (.ifCond .ne 5, [1], 0), (.sipush 0, [], 0), (.ireturn, [0], 0)]
  | 1 => [(.aload 0, [], 0), (.dup, [], 0), (.getfield 15, [6, 1, 0], 0), (.sipush 1, [], 0), (.isub, [], 0), (.putfield 15, [6, 1, 0], 0), (.aload 0, [], 0), (.getfield 9, [6, 0, 2], 0), (.aload 0, [], 0), (.getfield 15, [6, 1, 0], 0), (.iaload, [], 0), (.ireturn, [0], 0)]
  | _ => []
def PX6_pop : Nat → Nat
  | 0 => 0
  | 1 => 9
  | _ => 0
def BX6_joined : Nat → List MI
  | 0 => [(.getstatic 66, [0, 303], 0), (.aload 0, [], 0), (.invokevirtual 71, [283, 1], 0), (.iaload, [], 0), (.tableswitch 112 10 24 #[80, 112, 112, 112, 112, 112, 112, 100, 106, 112, 112, 112, 76, 84, 88], [9, 2, 9, 9, 9, 9, 9, 9, 7, 8, 9, 9, 9, 1, 3, 4], 0)]
  | 1 => [(.iload 1, [], 0), (.iload 2, [], 0), (.iadd, [], 0), (.ireturn, [0], 0)]
  | 2 => [(.iload 1, [], 0), (.iload 2, [], 0), (.isub, [], 0), (.ireturn, [0], 0)]
  | 3 => [(.iload 1, [], 0), (.iload 2, [], 0), (.imul, [], 0), (.ireturn, [0], 0)]
  | 4 => [(.iload 2, [], 0), (.ifCond .ne 7, [5], 0), (.sipush 0, [], 0), (.goto 6, [6], 0)]
  | 5 => [(.iload 1, [], 0), (.iload 2, [], 0), (.idiv, [], 0), (.invokedynamic 4, [6], 0)]
  | 6 => [(.ireturn, [0], 0)]
  | 7 => [(.iload 1, [], 0), (.iload 2, [], 0), (.invokedynamic 2, [74], 0), (.ireturn, [0], 0)]
  | 8 => [(.iload 1, [], 0), (.iload 2, [], 0), (.invokedynamic 1, [80], 0), (.ireturn, [0], 0)]
  | 9 => [(.aload 0, [], 0), (.iload 1, [], 0), (.iload 2, [], 0), (.invokestatic 83, [56, 3], 0), (.ifCond .eq 7, [10], 0), (.sipush 1, [], 0), (.goto 4, [11], 0)]
  | 10 => [(.sipush 0, [], 0), (.invokedynamic 4, [11], 0)]
  | 11 => [(.ireturn, [0], 0)]
  | _ => []
def PX6_joined : Nat → Nat
  | 0 => 0
  | 1 => 84
  | 2 => 88
  | 3 => 92
  | 4 => 96
  | 5 => 104
  | 6 => 107
  | 7 => 108
  | 8 => 114
  | 9 => 120
  | 10 => 133
  | 11 => 134
  | _ => 0
def BX6_holds : Nat → List MI
  | 0 => [(.getstatic 66, [0, 303], 0), (.aload 0, [], 0), (.invokevirtual 71, [283, 1], 0), (.iaload, [], 0), (.tableswitch 109 25 30 #[40, 51, 62, 73, 84, 95], [19, 1, 4, 7, 10, 13, 16], 0)]
  | 1 => [(.iload 1, [], 0), (.iload 2, [], 0), (.if_icmp .ge 7, [2], 0), (.sipush 1, [], 0), (.goto 4, [3], 0)]
  | 2 => [(.sipush 0, [], 0), (.invokedynamic 4, [3], 0)]
  | 3 => [(.ireturn, [1], 0)]
  | 4 => [(.iload 1, [], 0), (.iload 2, [], 0), (.if_icmp .le 7, [5], 0), (.sipush 1, [], 0), (.goto 4, [6], 0)]
  | 5 => [(.sipush 0, [], 0), (.invokedynamic 4, [6], 0)]
  | 6 => [(.ireturn, [1], 0)]
  | 7 => [(.iload 1, [], 0), (.iload 2, [], 0), (.if_icmp .ne 7, [8], 0), (.sipush 1, [], 0), (.goto 4, [9], 0)]
  | 8 => [(.sipush 0, [], 0), (.invokedynamic 4, [9], 0)]
  | 9 => [(.ireturn, [1], 0)]
  | 10 => [(.iload 1, [], 0), (.iload 2, [], 0), (.if_icmp .gt 7, [11], 0), (.sipush 1, [], 0), (.goto 4, [12], 0)]
  | 11 => [(.sipush 0, [], 0), (.invokedynamic 4, [12], 0)]
  | 12 => [(.ireturn, [1], 0)]
  | 13 => [(.iload 1, [], 0), (.iload 2, [], 0), (.if_icmp .lt 7, [14], 0), (.sipush 1, [], 0), (.goto 4, [15], 0)]
  | 14 => [(.sipush 0, [], 0), (.invokedynamic 4, [15], 0)]
  | 15 => [(.ireturn, [1], 0)]
  | 16 => [(.iload 1, [], 0), (.ifCond .eq 11, [17], 0), (.iload 2, [], 0), (.ifCond .eq 7, [17], 0), (.sipush 1, [], 0), (.goto 4, [18], 0)]
  | 17 => [(.sipush 0, [], 0), (.invokedynamic 4, [18], 0)]
  | 18 => [(.ireturn, [1], 0)]
  | 19 => [(.iload 1, [], 0), (.ifCond .ne 7, [20], 0), (.iload 2, [], 0), (.ifCond .eq 7, [21], 0), (.invokedynamic 4, [20], 0)]
  | 20 => [(.sipush 1, [], 0), (.goto 4, [22], 0)]
  | 21 => [(.sipush 0, [], 0), (.invokedynamic 4, [22], 0)]
  | 22 => [(.ireturn, [1], 0)]
  | _ => []
def PX6_holds : Nat → Nat
  | 0 => 0
  | 1 => 48
  | 2 => 57
  | 3 => 58
  | 4 => 59
  | 5 => 68
  | 6 => 69
  | 7 => 70
  | 8 => 79
  | 9 => 80
  | 10 => 81
  | 11 => 90
  | 12 => 91
  | 13 => 92
  | 14 => 101
  | 15 => 102
  | 16 => 103
  | 17 => 115
  | 18 => 116
  | 19 => 117
  | 20 => 125
  | 21 => 129
  | 22 => 130
  | _ => 0
def BX6_fact : Nat → List MI
  | 0 => [(.aload 0, [], 0), (.getfield 19, [3, 2, 2], 0), (.getfield 31, [5, 0, 2], 0), (.iload 2, [], 0), (.sipush 1, [], 0), (.iadd, [], 0), (.invokevirtual 87, [90, 2], 0), (.istore 3, [], 0), (.aload 0, [], 0), (.getfield 19, [3, 2, 2], 0), (.getfield 31, [5, 0, 2], 0), (.iload 2, [], 0), (.sipush 2, [], 0), (.iadd, [], 0), (.invokevirtual 87, [90, 2], 0), (.istore 4, [], 0), (.getstatic 66, [0, 303], 0), (.aload 1, [], 0), (.invokevirtual 71, [283, 1], 0), (.iaload, [], 0), (.tableswitch 164 6 16 #[111, 128, 144, 164, 164, 59, 71, 76, 85, 94, 100], [16, 7, 10, 13, 16, 16, 1, 2, 3, 4, 5, 6], 0)]
  | 1 => [(.aload 0, [], 0), (.getfield 19, [3, 2, 2], 0), (.getfield 31, [5, 0, 2], 0), (.iload 2, [], 0), (.invokevirtual 87, [90, 2], 0), (.ireturn, [0], 0)]
  | 2 => [(.aload 0, [], 0), (.getfield 90, [3, 3, 0], 0), (.ireturn, [0], 0)]
  | 3 => [(.aload 0, [], 0), (.getfield 93, [3, 0, 2], 0), (.iload 3, [], 0), (.invokevirtual 97, [286, 2], 0), (.ireturn, [0], 0)]
  | 4 => [(.aload 0, [], 0), (.getfield 93, [3, 0, 2], 0), (.iload 3, [], 0), (.invokevirtual 102, [287, 2], 0), (.ireturn, [0], 0)]
  | 5 => [(.aload 0, [], 0), (.iload 3, [], 0), (.invokevirtual 105, [16, 2], 0), (.ireturn, [0], 0)]
  | 6 => [(.aload 0, [], 0), (.getfield 93, [3, 0, 2], 0), (.iload 3, [], 0), (.iload 4, [], 0), (.invokevirtual 108, [71, 3], 0), (.ireturn, [0], 0)]
  | 7 => [(.aload 0, [], 0), (.getfield 93, [3, 0, 2], 0), (.iload 3, [], 0), (.invokevirtual 111, [65, 2], 0), (.ifCond .eq 7, [8], 0), (.sipush 1, [], 0), (.goto 4, [9], 0)]
  | 8 => [(.sipush 0, [], 0), (.invokedynamic 4, [9], 0)]
  | 9 => [(.ireturn, [0], 0)]
  | 10 => [(.aload 0, [], 0), (.iload 3, [], 0), (.iload 4, [], 0), (.invokevirtual 115, [14, 3], 0), (.ifCond .eq 7, [11], 0), (.sipush 1, [], 0), (.goto 4, [12], 0)]
  | 11 => [(.sipush 0, [], 0), (.invokedynamic 4, [12], 0)]
  | 12 => [(.ireturn, [0], 0)]
  | 13 => [(.aload 0, [], 0), (.getfield 93, [3, 0, 2], 0), (.iload 3, [], 0), (.iload 4, [], 0), (.invokevirtual 108, [71, 3], 0), (.sipush (-1), [], 0), (.if_icmp .ne 7, [14], 0), (.sipush 1, [], 0), (.goto 4, [15], 0)]
  | 14 => [(.sipush 0, [], 0), (.invokedynamic 4, [15], 0)]
  | 15 => [(.ireturn, [0], 0)]
  | 16 => [(.sipush 0, [], 0), (.ireturn, [0], 0)]
  | _ => []
def PX6_fact : Nat → Nat
  | 0 => 0
  | 1 => 96
  | 2 => 108
  | 3 => 113
  | 4 => 122
  | 5 => 131
  | 6 => 137
  | 7 => 148
  | 8 => 163
  | 9 => 164
  | 10 => 165
  | 11 => 179
  | 12 => 180
  | 13 => 181
  | 14 => 199
  | 15 => 200
  | 16 => 201
  | _ => 0
def BX7_init : Nat → List MI
  | 0 => [(.aload 0, [], 0), (.invokedynamic 5, [3], 0), (.aload 0, [], 0), (.sipush 0, [], 0), (.putfield 9, [7, 0, 0], 0), (.aload 0, [], 0), (.sipush 0, [], 0), (.putfield 15, [7, 1, 0], 0), (.aload 0, [], 0), (.sipush 14, [], 0), (.newarray .int, [], 0), (.putfield 18, [7, 2, 2], 0), (.aload 0, [], 0), (.sipush 14, [], 0), (.newarray .int, [], 0), (.putfield 22, [7, 3, 2], 0), (.aload 0, [], 0), (.sipush 14, [], 0), (.newarray .int, [], 0), (.putfield 25, [7, 4, 2], 0), (.aload 0, [], 0), (.sipush 14, [], 0), (.newarray .int, [], 0), (.putfield 28, [7, 5, 2], 0), (.aload 0, [], 0), (.sipush 14, [], 0), (.newarray .int, [], 0), (.putfield 31, [7, 6, 2], 0), (.aload 0, [], 0), (.sipush 10, [], 0), (.sipush 10, [], 0), (.multianewarray 34 2, [0], 0), (.putfield 36, [7, 7, 2], 0), (.aload 0, [], 0), (.sipush 10, [], 0), (.newarray .boolean, [], 0), (.putfield 39, [7, 8, 2], 0), (.aload 0, [], 0), (.sipush 10, [], 0), (.newarray .int, [], 0), (.putfield 43, [7, 9, 2], 0), (.aload 0, [], 0), (.sipush (-2), [], 0), (.putfield 46, [7, 10, 0], 0), (.aload 0, [], 0), (.sipush 0, [], 0), (.putfield 49, [7, 11, 0], 0), (.aload 0, [], 0), (.sipush 0, [], 0), (.putfield 52, [7, 12, 0], 0), (.aload 0, [], 0), (.sipush 14, [], 0), (.newarray .boolean, [], 0), (.putfield 55, [7, 13, 2], 0), (.aload 0, [], 0), (.sipush 14, [], 0), (.newarray .boolean, [], 0), (.putfield 58, [7, 14, 2], 0), (.aload 0, [], 0), (.sipush 14, [], 0), (.newarray .int, [], 0), (.putfield 61, [7, 15, 2], 0), (.aload 0, [], 0), (.sipush 10, [], 0), (.newarray .int, [], 0), (.putfield 64, [7, 16, 2], 0), (.return_, [], 0)]
  | _ => []
def PX7_init : Nat → Nat
  | 0 => 0
  | _ => 0
def BX7_begin : Nat → List MI
  | 0 => [(.aload 0, [], 0), (.aload 1, [], 0), (.getfield 67, [5, 3, 0], 0), (.putfield 9, [7, 0, 0], 0), (.aload 0, [], 0), (.aload 1, [], 0), (.getfield 70, [5, 4, 0], 0), (.putfield 15, [7, 1, 0], 0), (.aload 1, [], 0), (.getfield 73, [5, 7, 2], 0), (.sipush 0, [], 0), (.aload 0, [], 0), (.getfield 18, [7, 2, 2], 0), (.sipush 0, [], 0), (.sipush 14, [], 0), (.invokedynamic 0, [74], 0), (.aload 1, [], 0), (.getfield 80, [5, 8, 2], 0), (.sipush 0, [], 0), (.aload 0, [], 0), (.getfield 22, [7, 3, 2], 0), (.sipush 0, [], 0), (.sipush 14, [], 0), (.invokedynamic 0, [74], 0), (.sipush 0, [], 0), (.istore 2, [], 0), (.invokedynamic 4, [1], 0)]
  | 1 => [(.iload 2, [], 0), (.aload 0, [], 0), (.getfield 15, [7, 1, 0], 0), (.if_icmp .ge 21, [2], 0), (.aload 0, [], 0), (.iload 2, [], 0), (.aload 1, [], 0), (.getfield 81, [5, 9, 2], 0), (.iload 2, [], 0), (.iaload, [], 0), (.sipush 0, [], 0), (.invokevirtual 82, [61, 4], 0), (.iinc 2 1, [], 0), (.goto (-23), [1], 0)]
  | 2 => [(.aload 0, [], 0), (.invokevirtual 86, [62, 1], 0), (.return_, [], 0)]
  | _ => []
def PX7_begin : Nat → Nat
  | 0 => 0
  | 1 => 48
  | 2 => 74
  | _ => 0
def BX7_copy : Nat → List MI
  | 0 => [(.aload 0, [], 0), (.aload 1, [], 0), (.getfield 9, [7, 0, 0], 0), (.putfield 9, [7, 0, 0], 0), (.aload 0, [], 0), (.aload 1, [], 0), (.getfield 15, [7, 1, 0], 0), (.putfield 15, [7, 1, 0], 0), (.aload 1, [], 0), (.getfield 18, [7, 2, 2], 0), (.sipush 0, [], 0), (.aload 0, [], 0), (.getfield 18, [7, 2, 2], 0), (.sipush 0, [], 0), (.sipush 14, [], 0), (.invokedynamic 0, [74], 0), (.aload 1, [], 0), (.getfield 22, [7, 3, 2], 0), (.sipush 0, [], 0), (.aload 0, [], 0), (.getfield 22, [7, 3, 2], 0), (.sipush 0, [], 0), (.sipush 14, [], 0), (.invokedynamic 0, [74], 0), (.aload 1, [], 0), (.getfield 25, [7, 4, 2], 0), (.sipush 0, [], 0), (.aload 0, [], 0), (.getfield 25, [7, 4, 2], 0), (.sipush 0, [], 0), (.sipush 14, [], 0), (.invokedynamic 0, [74], 0), (.aload 1, [], 0), (.getfield 28, [7, 5, 2], 0), (.sipush 0, [], 0), (.aload 0, [], 0), (.getfield 28, [7, 5, 2], 0), (.sipush 0, [], 0), (.sipush 14, [], 0), (.invokedynamic 0, [74], 0), (.aload 1, [], 0), (.getfield 31, [7, 6, 2], 0), (.sipush 0, [], 0), (.aload 0, [], 0), (.getfield 31, [7, 6, 2], 0), (.sipush 0, [], 0), (.sipush 14, [], 0), (.invokedynamic 0, [74], 0), (.aload 0, [], 0), (.invokevirtual 86, [62, 1], 0), (.return_, [], 0)]
  | _ => []
def PX7_copy : Nat → Nat
  | 0 => 0
  | _ => 0
def BX7_shape : Nat → List MI
  | 0 => [(.aload 0, [], 0), (.getfield 25, [7, 4, 2], 0), (.iload 1, [], 0), (.iload 2, [], 0), (.iastore, [], 0), (.aload 0, [], 0), (.getfield 28, [7, 5, 2], 0), (.iload 1, [], 0), (.iload 3, [], 0), (.iastore, [], 0), (.aload 0, [], 0), (.getfield 31, [7, 6, 2], 0), (.iload 1, [], 0), (.iload 2, [], 0), (.sipush 2, [], 0), (.iload 3, [], 0), (.imul, [], 0), (.iadd, [], 0), (.iastore, [], 0), (.aload 0, [], 0), (.invokevirtual 86, [62, 1], 0), (.return_, [], 0)]
  | _ => []
def PX7_shape : Nat → Nat
  | 0 => 0
  | _ => 0
def BX7_forgetWays : Nat → List MI
  | 0 => [(.sipush 0, [], 0), (.istore 1, [], 0), (.invokedynamic 4, [1], 0)]
  | 1 => [(.iload 1, [], 0), (.sipush 10, [], 0), (.if_icmp .ge 16, [2], 0), (.aload 0, [], 0), (.getfield 39, [7, 8, 2], 0), (.iload 1, [], 0), (.sipush 0, [], 0), (.bastore, [], 0), (.iinc 1 1, [], 0), (.goto (-16), [1], 0)]
  | 2 => [(.aload 0, [], 0), (.sipush (-2), [], 0), (.putfield 46, [7, 10, 0], 0), (.return_, [], 0)]
  | _ => []
def PX7_forgetWays : Nat → Nat
  | 0 => 0
  | 1 => 2
  | 2 => 21
  | _ => 0
def BX7_addWounds : Nat → List MI
  | 0 => [(.aload 0, [], 0), (.iload 1, [], 0), (.invokevirtual 89, [285, 2], 0), (.ifCond .eq 21, [1], 0), (.aload 0, [], 0), (.getfield 28, [7, 5, 2], 0), (.iload 1, [], 0), (.iaload, [], 0), (.sipush 3, [], 0), (.if_icmp .ge 11, [1], 0), (.iload 2, [], 0), (.ifCond .le 7, [1], 0), (.sipush 1, [], 0), (.goto 4, [2], 0)]
  | 1 => [(.sipush 0, [], 0), (.invokedynamic 4, [2], 0)]
  | 2 => [(.istore 3, [], 0), (.iload 3, [], 0), (.ifCond .eq 26, [3], 0), (.aload 0, [], 0), (.iload 1, [], 0), (.aload 0, [], 0), (.getfield 25, [7, 4, 2], 0), (.iload 1, [], 0), (.iaload, [], 0), (.sipush 3, [], 0), (.aload 0, [], 0), (.getfield 28, [7, 5, 2], 0), (.iload 1, [], 0), (.iaload, [], 0), (.iload 2, [], 0), (.iadd, [], 0), (.invokedynamic 2, [93], 0), (.invokevirtual 82, [61, 4], 0), (.invokedynamic 4, [3], 0)]
  | 3 => [(.iload 3, [], 0), (.ireturn, [1], 0)]
  | _ => []
def PX7_addWounds : Nat → Nat
  | 0 => 0
  | 1 => 26
  | 2 => 27
  | 3 => 55
  | _ => 0
def BX7_takeWound : Nat → List MI
  | 0 => [(.aload 0, [], 0), (.iload 1, [], 0), (.invokevirtual 89, [285, 2], 0), (.ifCond .eq 16, [1], 0), (.aload 0, [], 0), (.getfield 28, [7, 5, 2], 0), (.iload 1, [], 0), (.iaload, [], 0), (.ifCond .le 7, [1], 0), (.sipush 1, [], 0), (.goto 4, [2], 0)]
  | 1 => [(.sipush 0, [], 0), (.invokedynamic 4, [2], 0)]
  | 2 => [(.istore 2, [], 0), (.iload 2, [], 0), (.ifCond .eq 22, [3], 0), (.aload 0, [], 0), (.iload 1, [], 0), (.aload 0, [], 0), (.getfield 25, [7, 4, 2], 0), (.iload 1, [], 0), (.iaload, [], 0), (.aload 0, [], 0), (.getfield 28, [7, 5, 2], 0), (.iload 1, [], 0), (.iaload, [], 0), (.sipush 1, [], 0), (.isub, [], 0), (.invokevirtual 82, [61, 4], 0), (.invokedynamic 4, [3], 0)]
  | 3 => [(.iload 2, [], 0), (.ireturn, [1], 0)]
  | _ => []
def PX7_takeWound : Nat → Nat
  | 0 => 0
  | 1 => 21
  | 2 => 22
  | 3 => 46
  | _ => 0
def BX7_isOpen : Nat → List MI
  | 0 => [(.aload 0, [], 0), (.iload 1, [], 0), (.invokevirtual 89, [285, 2], 0), (.ifCond .eq 17, [1], 0), (.aload 0, [], 0), (.getfield 28, [7, 5, 2], 0), (.iload 1, [], 0), (.iaload, [], 0), (.sipush 3, [], 0), (.if_icmp .ge 7, [1], 0), (.sipush 1, [], 0), (.goto 4, [2], 0)]
  | 1 => [(.sipush 0, [], 0), (.invokedynamic 4, [2], 0)]
  | 2 => [(.ireturn, [1], 0)]
  | _ => []
def PX7_isOpen : Nat → Nat
  | 0 => 0
  | 1 => 22
  | 2 => 23
  | _ => 0
def BX7_openRoads : Nat → List MI
  | 0 => [(.sipush 0, [], 0), (.istore 1, [], 0), (.sipush 0, [], 0), (.istore 2, [], 0), (.invokedynamic 4, [1], 0)]
  | 1 => [(.iload 2, [], 0), (.aload 0, [], 0), (.getfield 15, [7, 1, 0], 0), (.if_icmp .ge 25, [4], 0), (.iload 1, [], 0), (.aload 0, [], 0), (.iload 2, [], 0), (.invokevirtual 99, [65, 2], 0), (.ifCond .eq 7, [2], 0), (.sipush 1, [], 0), (.goto 4, [3], 0)]
  | 2 => [(.sipush 0, [], 0), (.invokedynamic 4, [3], 0)]
  | 3 => [(.iadd, [], 0), (.istore 1, [], 0), (.iinc 2 1, [], 0), (.goto (-27), [1], 0)]
  | 4 => [(.iload 1, [], 0), (.ireturn, [0], 0)]
  | _ => []
def PX7_openRoads : Nat → Nat
  | 0 => 0
  | 1 => 4
  | 2 => 25
  | 3 => 26
  | 4 => 34
  | _ => 0
def BX7_lengthOfOpen : Nat → List MI
  | 0 => [(.sipush 0, [], 0), (.istore 1, [], 0), (.sipush 0, [], 0), (.istore 2, [], 0), (.invokedynamic 4, [1], 0)]
  | 1 => [(.iload 2, [], 0), (.aload 0, [], 0), (.getfield 15, [7, 1, 0], 0), (.if_icmp .ge 30, [4], 0), (.iload 1, [], 0), (.aload 0, [], 0), (.iload 2, [], 0), (.invokevirtual 99, [65, 2], 0), (.ifCond .eq 12, [2], 0), (.aload 0, [], 0), (.getfield 31, [7, 6, 2], 0), (.iload 2, [], 0), (.iaload, [], 0), (.goto 4, [3], 0)]
  | 2 => [(.sipush 0, [], 0), (.invokedynamic 4, [3], 0)]
  | 3 => [(.iadd, [], 0), (.istore 1, [], 0), (.iinc 2 1, [], 0), (.goto (-32), [1], 0)]
  | 4 => [(.iload 1, [], 0), (.ireturn, [0], 0)]
  | _ => []
def PX7_lengthOfOpen : Nat → Nat
  | 0 => 0
  | 1 => 4
  | 2 => 30
  | 3 => 31
  | 4 => 39
  | _ => 0
def BX7_leadsTo : Nat → List MI
  | 0 => [(.aload 0, [], 0), (.getfield 18, [7, 2, 2], 0), (.iload 1, [], 0), (.iaload, [], 0), (.iload 2, [], 0), (.if_icmp .eq 13, [1], 0), (.aload 0, [], 0), (.getfield 22, [7, 3, 2], 0), (.iload 1, [], 0), (.iaload, [], 0), (.iload 2, [], 0), (.if_icmp .ne 7, [2], 0), (.invokedynamic 4, [1], 0)]
  | 1 => [(.sipush 1, [], 0), (.goto 4, [3], 0)]
  | 2 => [(.sipush 0, [], 0), (.invokedynamic 4, [3], 0)]
  | 3 => [(.ireturn, [1], 0)]
  | _ => []
def PX7_leadsTo : Nat → Nat
  | 0 => 0
  | 1 => 20
  | 2 => 24
  | 3 => 25
  | _ => 0
def BX7_otherEnd : Nat → List MI
  | 0 => [(.aload 0, [], 0), (.getfield 18, [7, 2, 2], 0), (.iload 1, [], 0), (.iaload, [], 0), (.iload 2, [], 0), (.if_icmp .ne 12, [1], 0), (.aload 0, [], 0), (.getfield 22, [7, 3, 2], 0), (.iload 1, [], 0), (.iaload, [], 0), (.goto 9, [2], 0)]
  | 1 => [(.aload 0, [], 0), (.getfield 18, [7, 2, 2], 0), (.iload 1, [], 0), (.iaload, [], 0), (.invokedynamic 4, [2], 0)]
  | 2 => [(.ireturn, [0], 0)]
  | _ => []
def PX7_otherEnd : Nat → Nat
  | 0 => 0
  | 1 => 19
  | 2 => 25
  | _ => 0
def BX7_openAt : Nat → List MI
  | 0 => [(.sipush 0, [], 0), (.istore 2, [], 0), (.sipush 0, [], 0), (.istore 3, [], 0), (.invokedynamic 4, [1], 0)]
  | 1 => [(.iload 3, [], 0), (.aload 0, [], 0), (.getfield 15, [7, 1, 0], 0), (.if_icmp .ge 34, [4], 0), (.iload 2, [], 0), (.aload 0, [], 0), (.iload 3, [], 0), (.invokevirtual 99, [65, 2], 0), (.ifCond .eq 16, [2], 0), (.aload 0, [], 0), (.iload 3, [], 0), (.iload 1, [], 0), (.invokevirtual 102, [68, 3], 0), (.ifCond .eq 7, [2], 0), (.sipush 1, [], 0), (.goto 4, [3], 0)]
  | 2 => [(.sipush 0, [], 0), (.invokedynamic 4, [3], 0)]
  | 3 => [(.iadd, [], 0), (.istore 2, [], 0), (.iinc 3 1, [], 0), (.goto (-36), [1], 0)]
  | 4 => [(.iload 2, [], 0), (.ireturn, [0], 0)]
  | _ => []
def PX7_openAt : Nat → Nat
  | 0 => 0
  | 1 => 4
  | 2 => 34
  | 3 => 35
  | 4 => 43
  | _ => 0
def BX7_between : Nat → List MI
  | 0 => [(.iload 1, [], 0), (.ifCond .lt 23, [1], 0), (.iload 1, [], 0), (.aload 0, [], 0), (.getfield 9, [7, 0, 0], 0), (.if_icmp .ge 15, [1], 0), (.iload 2, [], 0), (.ifCond .lt 11, [1], 0), (.iload 2, [], 0), (.aload 0, [], 0), (.getfield 9, [7, 0, 0], 0), (.if_icmp .lt 5, [2], 0), (.invokedynamic 4, [1], 0)]
  | 1 => [(.sipush (-1), [], 0), (.ireturn, [0], 0)]
  | 2 => [(.aload 0, [], 0), (.getfield 39, [7, 8, 2], 0), (.iload 1, [], 0), (.baload, [], 0), (.ifCond .ne 22, [3], 0), (.aload 0, [], 0), (.aload 0, [], 0), (.getfield 36, [7, 7, 2], 0), (.iload 1, [], 0), (.aaload, [], 0), (.iload 1, [], 0), (.sipush (-1), [], 0), (.invokevirtual 106, [72, 4], 0), (.aload 0, [], 0), (.getfield 39, [7, 8, 2], 0), (.iload 1, [], 0), (.sipush 1, [], 0), (.bastore, [], 0), (.invokedynamic 4, [3], 0)]
  | 3 => [(.aload 0, [], 0), (.getfield 36, [7, 7, 2], 0), (.iload 1, [], 0), (.aaload, [], 0), (.iload 2, [], 0), (.iaload, [], 0), (.istore 3, [], 0), (.iload 3, [], 0), (.sipush 1000, [], 0), (.if_icmp .ne 7, [4], 0), (.sipush (-1), [], 0), (.goto 4, [5], 0)]
  | 4 => [(.iload 3, [], 0), (.invokedynamic 4, [5], 0)]
  | 5 => [(.ireturn, [0], 0)]
  | _ => []
def PX7_between : Nat → Nat
  | 0 => 0
  | 1 => 24
  | 2 => 26
  | 3 => 54
  | 4 => 74
  | 5 => 75
  | _ => 0
def BX7_fillRow : Nat → List MI
  | 0 => [(.sipush 0, [], 0), (.istore 4, [], 0), (.invokedynamic 4, [1], 0)]
  | 1 => [(.iload 4, [], 0), (.aload 0, [], 0), (.getfield 9, [7, 0, 0], 0), (.if_icmp .ge 26, [4], 0), (.aload 1, [], 0), (.iload 4, [], 0), (.iload 4, [], 0), (.iload 2, [], 0), (.if_icmp .ne 7, [2], 0), (.sipush 0, [], 0), (.goto 6, [3], 0)]
  | 2 => [(.sipush 1000, [], 0), (.invokedynamic 4, [3], 0)]
  | 3 => [(.iastore, [], 0), (.iinc 4 1, [], 0), (.goto (-29), [1], 0)]
  | 4 => [(.sipush 1, [], 0), (.istore 4, [], 0), (.sipush 0, [], 0), (.istore 5, [], 0), (.invokedynamic 4, [5], 0)]
  | 5 => [(.iload 4, [], 0), (.ifCond .eq 153, [10], 0), (.iload 5, [], 0), (.aload 0, [], 0), (.getfield 9, [7, 0, 0], 0), (.if_icmp .ge 144, [10], 0), (.sipush 0, [], 0), (.istore 4, [], 0), (.sipush 0, [], 0), (.istore 6, [], 0), (.invokedynamic 4, [6], 0)]
  | 6 => [(.iload 6, [], 0), (.aload 0, [], 0), (.getfield 15, [7, 1, 0], 0), (.if_icmp .ge 123, [9], 0), (.iload 6, [], 0), (.iload 3, [], 0), (.if_icmp .eq 111, [8], 0), (.aload 0, [], 0), (.getfield 28, [7, 5, 2], 0), (.iload 6, [], 0), (.iaload, [], 0), (.sipush 3, [], 0), (.if_icmp .ge 100, [8], 0), (.aload 0, [], 0), (.getfield 18, [7, 2, 2], 0), (.iload 6, [], 0), (.iaload, [], 0), (.istore 7, [], 0), (.aload 0, [], 0), (.getfield 22, [7, 3, 2], 0), (.iload 6, [], 0), (.iaload, [], 0), (.istore 8, [], 0), (.aload 1, [], 0), (.iload 7, [], 0), (.iaload, [], 0), (.aload 0, [], 0), (.getfield 31, [7, 6, 2], 0), (.iload 6, [], 0), (.iaload, [], 0), (.iadd, [], 0), (.aload 1, [], 0), (.iload 8, [], 0), (.iaload, [], 0), (.if_icmp .ge 25, [7], 0), (.aload 1, [], 0), (.iload 8, [], 0), (.aload 1, [], 0), (.iload 7, [], 0), (.iaload, [], 0), (.aload 0, [], 0), (.getfield 31, [7, 6, 2], 0), (.iload 6, [], 0), (.iaload, [], 0), (.iadd, [], 0), (.iastore, [], 0), (.sipush 1, [], 0), (.istore 4, [], 0), (.goto 41, [8], 0)]
  | 7 => [(.aload 1, [], 0), (.iload 8, [], 0), (.iaload, [], 0), (.aload 0, [], 0), (.getfield 31, [7, 6, 2], 0), (.iload 6, [], 0), (.iaload, [], 0), (.iadd, [], 0), (.aload 1, [], 0), (.iload 7, [], 0), (.iaload, [], 0), (.if_icmp .ge 22, [8], 0), (.aload 1, [], 0), (.iload 7, [], 0), (.aload 1, [], 0), (.iload 8, [], 0), (.iaload, [], 0), (.aload 0, [], 0), (.getfield 31, [7, 6, 2], 0), (.iload 6, [], 0), (.iaload, [], 0), (.iadd, [], 0), (.iastore, [], 0), (.sipush 1, [], 0), (.istore 4, [], 0), (.invokedynamic 4, [8], 0)]
  | 8 => [(.iinc 6 1, [], 0), (.goto (-126), [6], 0)]
  | 9 => [(.iinc 5 1, [], 0), (.goto (-152), [5], 0)]
  | 10 => [(.return_, [], 0)]
  | _ => []
def PX7_fillRow : Nat → Nat
  | 0 => 0
  | 1 => 3
  | 2 => 25
  | 3 => 28
  | 4 => 35
  | 5 => 41
  | 6 => 61
  | 7 => 146
  | 8 => 184
  | 9 => 190
  | 10 => 196
  | _ => 0
def BX7_partOf : Nat → List MI
  | 0 => [(.sipush 0, [], 0), (.istore 2, [], 0), (.invokedynamic 4, [1], 0)]
  | 1 => [(.iload 2, [], 0), (.iload 1, [], 0), (.if_icmp .ge 19, [2], 0), (.aload 0, [], 0), (.iload 1, [], 0), (.iload 2, [], 0), (.invokevirtual 110, [71, 3], 0), (.sipush (-1), [], 0), (.if_icmp .ne 9, [2], 0), (.iinc 2 1, [], 0), (.goto (-18), [1], 0)]
  | 2 => [(.iload 2, [], 0), (.ireturn, [0], 0)]
  | _ => []
def PX7_partOf : Nat → Nat
  | 0 => 0
  | 1 => 2
  | 2 => 23
  | _ => 0
def BX7_farthestFrom : Nat → List MI
  | 0 => [(.sipush 0, [], 0), (.istore 2, [], 0), (.sipush 0, [], 0), (.istore 3, [], 0), (.invokedynamic 4, [1], 0)]
  | 1 => [(.iload 3, [], 0), (.aload 0, [], 0), (.getfield 9, [7, 0, 0], 0), (.if_icmp .ge 20, [2], 0), (.iload 2, [], 0), (.aload 0, [], 0), (.iload 1, [], 0), (.iload 3, [], 0), (.invokevirtual 110, [71, 3], 0), (.invokedynamic 1, [113], 0), (.istore 2, [], 0), (.iinc 3 1, [], 0), (.goto (-22), [1], 0)]
  | 2 => [(.iload 2, [], 0), (.ireturn, [0], 0)]
  | _ => []
def PX7_farthestFrom : Nat → Nat
  | 0 => 0
  | 1 => 4
  | 2 => 29
  | _ => 0
def BX7_nextTavern : Nat → List MI
  | 0 => [(.aload 0, [], 0), (.iload 1, [], 0), (.iload 2, [], 0), (.invokevirtual 110, [71, 3], 0), (.istore 3, [], 0), (.iload 1, [], 0), (.iload 2, [], 0), (.if_icmp .eq 8, [1], 0), (.iload 3, [], 0), (.sipush (-1), [], 0), (.if_icmp .ne 14, [4], 0), (.invokedynamic 4, [1], 0)]
  | 1 => [(.iload 1, [], 0), (.iload 2, [], 0), (.if_icmp .ne 7, [2], 0), (.iload 1, [], 0), (.goto 4, [3], 0)]
  | 2 => [(.sipush (-1), [], 0), (.invokedynamic 4, [3], 0)]
  | 3 => [(.ireturn, [0], 0)]
  | 4 => [(.sipush (-1), [], 0), (.istore 4, [], 0), (.sipush 0, [], 0), (.istore 5, [], 0), (.invokedynamic 4, [5], 0)]
  | 5 => [(.iload 5, [], 0), (.aload 0, [], 0), (.getfield 15, [7, 1, 0], 0), (.if_icmp .ge 96, [10], 0), (.aload 0, [], 0), (.iload 5, [], 0), (.invokevirtual 99, [65, 2], 0), (.ifCond .eq 81, [9], 0), (.aload 0, [], 0), (.iload 5, [], 0), (.iload 1, [], 0), (.invokevirtual 102, [68, 3], 0), (.ifCond .eq 71, [9], 0), (.aload 0, [], 0), (.iload 5, [], 0), (.iload 1, [], 0), (.invokevirtual 116, [69, 3], 0), (.istore 6, [], 0), (.aload 0, [], 0), (.iload 6, [], 0), (.iload 2, [], 0), (.invokevirtual 110, [71, 3], 0), (.sipush (-1), [], 0), (.if_icmp .eq 26, [6], 0), (.aload 0, [], 0), (.getfield 31, [7, 6, 2], 0), (.iload 5, [], 0), (.iaload, [], 0), (.aload 0, [], 0), (.iload 6, [], 0), (.iload 2, [], 0), (.invokevirtual 110, [71, 3], 0), (.iadd, [], 0), (.iload 3, [], 0), (.if_icmp .ne 7, [6], 0), (.sipush 1, [], 0), (.goto 4, [7], 0)]
  | 6 => [(.sipush 0, [], 0), (.invokedynamic 4, [7], 0)]
  | 7 => [(.istore 7, [], 0), (.iload 7, [], 0), (.ifCond .eq 20, [9], 0), (.iload 4, [], 0), (.sipush (-1), [], 0), (.if_icmp .eq 10, [8], 0), (.iload 6, [], 0), (.iload 4, [], 0), (.if_icmp .ge 7, [9], 0), (.invokedynamic 4, [8], 0)]
  | 8 => [(.iload 6, [], 0), (.istore 4, [], 0), (.invokedynamic 4, [9], 0)]
  | 9 => [(.iinc 5 1, [], 0), (.goto (-99), [5], 0)]
  | 10 => [(.iload 4, [], 0), (.ireturn, [0], 0)]
  | _ => []
def PX7_nextTavern : Nat → Nat
  | 0 => 0
  | 1 => 17
  | 2 => 26
  | 3 => 27
  | 4 => 28
  | 5 => 34
  | 6 => 105
  | 7 => 106
  | 8 => 126
  | 9 => 130
  | 10 => 136
  | _ => 0
def BX7_lengthAround : Nat → List MI
  | 0 => [(.aload 0, [], 0), (.aload 0, [], 0), (.getfield 43, [7, 9, 2], 0), (.aload 0, [], 0), (.getfield 18, [7, 2, 2], 0), (.iload 1, [], 0), (.iaload, [], 0), (.iload 1, [], 0), (.invokevirtual 106, [72, 4], 0), (.aload 0, [], 0), (.getfield 43, [7, 9, 2], 0), (.aload 0, [], 0), (.getfield 22, [7, 3, 2], 0), (.iload 1, [], 0), (.iaload, [], 0), (.iaload, [], 0), (.istore 2, [], 0), (.iload 2, [], 0), (.sipush 1000, [], 0), (.if_icmp .ne 7, [1], 0), (.sipush (-1), [], 0), (.goto 4, [2], 0)]
  | 1 => [(.iload 2, [], 0), (.invokedynamic 4, [2], 0)]
  | 2 => [(.ireturn, [0], 0)]
  | _ => []
def PX7_lengthAround : Nat → Nat
  | 0 => 0
  | 1 => 38
  | 2 => 39
  | _ => 0
def BX7_isSpan : Nat → List MI
  | 0 => [(.aload 0, [], 0), (.iload 1, [], 0), (.invokevirtual 99, [65, 2], 0), (.ifCond .eq 16, [1], 0), (.aload 0, [], 0), (.iload 1, [], 0), (.invokevirtual 119, [76, 2], 0), (.sipush (-1), [], 0), (.if_icmp .ne 7, [1], 0), (.sipush 1, [], 0), (.goto 4, [2], 0)]
  | 1 => [(.sipush 0, [], 0), (.invokedynamic 4, [2], 0)]
  | 2 => [(.ireturn, [1], 0)]
  | _ => []
def PX7_isSpan : Nat → Nat
  | 0 => 0
  | 1 => 21
  | 2 => 22
  | _ => 0
def BX7_spansWith : Nat → List MI
  | 0 => [(.sipush 0, [], 0), (.istore 2, [], 0), (.sipush 0, [], 0), (.istore 3, [], 0), (.invokedynamic 4, [1], 0)]
  | 1 => [(.iload 3, [], 0), (.aload 0, [], 0), (.getfield 15, [7, 1, 0], 0), (.if_icmp .ge 35, [4], 0), (.iload 2, [], 0), (.aload 0, [], 0), (.getfield 28, [7, 5, 2], 0), (.iload 3, [], 0), (.iaload, [], 0), (.iload 1, [], 0), (.if_icmp .lt 15, [2], 0), (.aload 0, [], 0), (.iload 3, [], 0), (.invokevirtual 123, [77, 2], 0), (.ifCond .eq 7, [2], 0), (.sipush 1, [], 0), (.goto 4, [3], 0)]
  | 2 => [(.sipush 0, [], 0), (.invokedynamic 4, [3], 0)]
  | 3 => [(.iadd, [], 0), (.istore 2, [], 0), (.iinc 3 1, [], 0), (.goto (-37), [1], 0)]
  | 4 => [(.iload 2, [], 0), (.ireturn, [0], 0)]
  | _ => []
def PX7_spansWith : Nat → Nat
  | 0 => 0
  | 1 => 4
  | 2 => 35
  | 3 => 36
  | 4 => 44
  | _ => 0
def BX7_isInNet : Nat → List MI
  | 0 => [(.aload 0, [], 0), (.sipush (-1), [], 0), (.invokevirtual 126, [83, 2], 0), (.aload 0, [], 0), (.getfield 55, [7, 13, 2], 0), (.iload 1, [], 0), (.baload, [], 0), (.ireturn, [1], 0)]
  | _ => []
def PX7_isInNet : Nat → Nat
  | 0 => 0
  | _ => 0
def BX7_lengthOfNet : Nat → List MI
  | 0 => [(.aload 0, [], 0), (.sipush (-1), [], 0), (.invokevirtual 126, [83, 2], 0), (.aload 0, [], 0), (.getfield 52, [7, 12, 0], 0), (.ireturn, [0], 0)]
  | _ => []
def PX7_lengthOfNet : Nat → Nat
  | 0 => 0
  | _ => 0
def BX7_parts : Nat → List MI
  | 0 => [(.aload 0, [], 0), (.sipush (-1), [], 0), (.invokevirtual 126, [83, 2], 0), (.aload 0, [], 0), (.getfield 9, [7, 0, 0], 0), (.aload 0, [], 0), (.getfield 49, [7, 11, 0], 0), (.isub, [], 0), (.ireturn, [0], 0)]
  | _ => []
def PX7_parts : Nat → Nat
  | 0 => 0
  | _ => 0
def BX7_substituteFor : Nat → List MI
  | 0 => [(.aload 0, [], 0), (.iload 1, [], 0), (.invokevirtual 130, [79, 2], 0), (.ifCond .ne 5, [1], 0), (.sipush (-1), [], 0), (.ireturn, [0], 0)]
  | 1 => [(.sipush 0, [], 0), (.istore 2, [], 0), (.invokedynamic 4, [2], 0)]
  | 2 => [(.iload 2, [], 0), (.aload 0, [], 0), (.getfield 15, [7, 1, 0], 0), (.if_icmp .ge 21, [3], 0), (.aload 0, [], 0), (.getfield 58, [7, 14, 2], 0), (.iload 2, [], 0), (.aload 0, [], 0), (.getfield 55, [7, 13, 2], 0), (.iload 2, [], 0), (.baload, [], 0), (.bastore, [], 0), (.iinc 2 1, [], 0), (.goto (-23), [2], 0)]
  | 3 => [(.aload 0, [], 0), (.iload 1, [], 0), (.invokevirtual 126, [83, 2], 0), (.sipush 0, [], 0), (.istore 2, [], 0), (.invokedynamic 4, [4], 0)]
  | 4 => [(.iload 2, [], 0), (.aload 0, [], 0), (.getfield 15, [7, 1, 0], 0), (.if_icmp .ge 29, [6], 0), (.aload 0, [], 0), (.getfield 55, [7, 13, 2], 0), (.iload 2, [], 0), (.baload, [], 0), (.ifCond .eq 14, [5], 0), (.aload 0, [], 0), (.getfield 58, [7, 14, 2], 0), (.iload 2, [], 0), (.baload, [], 0), (.ifCond .ne 5, [5], 0), (.iload 2, [], 0), (.ireturn, [0], 0)]
  | 5 => [(.iinc 2 1, [], 0), (.goto (-31), [4], 0)]
  | 6 => [(.sipush (-1), [], 0), (.ireturn, [0], 0)]
  | _ => []
def PX7_substituteFor : Nat → Nat
  | 0 => 0
  | 1 => 10
  | 2 => 12
  | 3 => 38
  | 4 => 45
  | 5 => 73
  | 6 => 79
  | _ => 0
def BX7_layNet : Nat → List MI
  | 0 => [(.aload 0, [], 0), (.getfield 46, [7, 10, 0], 0), (.iload 1, [], 0), (.if_icmp .ne 4, [1], 0), (.return_, [], 0)]
  | 1 => [(.aload 0, [], 0), (.iload 1, [], 0), (.putfield 46, [7, 10, 0], 0), (.aload 0, [], 0), (.sipush 0, [], 0), (.putfield 49, [7, 11, 0], 0), (.aload 0, [], 0), (.sipush 0, [], 0), (.putfield 52, [7, 12, 0], 0), (.sipush 0, [], 0), (.istore 2, [], 0), (.invokedynamic 4, [2], 0)]
  | 2 => [(.iload 2, [], 0), (.aload 0, [], 0), (.getfield 9, [7, 0, 0], 0), (.if_icmp .ge 16, [3], 0), (.aload 0, [], 0), (.getfield 64, [7, 16, 2], 0), (.iload 2, [], 0), (.iload 2, [], 0), (.iastore, [], 0), (.iinc 2 1, [], 0), (.goto (-18), [2], 0)]
  | 3 => [(.sipush 0, [], 0), (.istore 2, [], 0), (.invokedynamic 4, [4], 0)]
  | 4 => [(.iload 2, [], 0), (.aload 0, [], 0), (.getfield 15, [7, 1, 0], 0), (.if_icmp .ge 16, [5], 0), (.aload 0, [], 0), (.getfield 55, [7, 13, 2], 0), (.iload 2, [], 0), (.sipush 0, [], 0), (.bastore, [], 0), (.iinc 2 1, [], 0), (.goto (-18), [4], 0)]
  | 5 => [(.aload 0, [], 0), (.iload 1, [], 0), (.invokevirtual 133, [85, 2], 0), (.istore 2, [], 0), (.sipush 0, [], 0), (.istore 3, [], 0), (.invokedynamic 4, [6], 0)]
  | 6 => [(.iload 3, [], 0), (.iload 2, [], 0), (.if_icmp .ge 106, [8], 0), (.aload 0, [], 0), (.getfield 61, [7, 15, 2], 0), (.iload 3, [], 0), (.iaload, [], 0), (.istore 4, [], 0), (.aload 0, [], 0), (.getfield 64, [7, 16, 2], 0), (.aload 0, [], 0), (.getfield 18, [7, 2, 2], 0), (.iload 4, [], 0), (.iaload, [], 0), (.iaload, [], 0), (.aload 0, [], 0), (.getfield 64, [7, 16, 2], 0), (.aload 0, [], 0), (.getfield 22, [7, 3, 2], 0), (.iload 4, [], 0), (.iaload, [], 0), (.iaload, [], 0), (.if_icmp .eq 65, [7], 0), (.aload 0, [], 0), (.aload 0, [], 0), (.getfield 64, [7, 16, 2], 0), (.aload 0, [], 0), (.getfield 18, [7, 2, 2], 0), (.iload 4, [], 0), (.iaload, [], 0), (.iaload, [], 0), (.aload 0, [], 0), (.getfield 64, [7, 16, 2], 0), (.aload 0, [], 0), (.getfield 22, [7, 3, 2], 0), (.iload 4, [], 0), (.iaload, [], 0), (.iaload, [], 0), (.invokevirtual 136, [84, 3], 0), (.aload 0, [], 0), (.getfield 55, [7, 13, 2], 0), (.iload 4, [], 0), (.sipush 1, [], 0), (.bastore, [], 0), (.aload 0, [], 0), (.dup, [], 0), (.getfield 49, [7, 11, 0], 0), (.sipush 1, [], 0), (.iadd, [], 0), (.putfield 49, [7, 11, 0], 0), (.aload 0, [], 0), (.dup, [], 0), (.getfield 52, [7, 12, 0], 0), (.aload 0, [], 0), (.getfield 31, [7, 6, 2], 0), (.iload 4, [], 0), (.iaload, [], 0), (.iadd, [], 0), (.putfield 52, [7, 12, 0], 0), (.invokedynamic 4, [7], 0)]
  | 7 => [(.iinc 3 1, [], 0), (.goto (-105), [6], 0)]
  | 8 => [(.return_, [], 0)]
  | _ => []
def PX7_layNet : Nat → Nat
  | 0 => 0
  | 1 => 9
  | 2 => 26
  | 3 => 47
  | 4 => 49
  | 5 => 70
  | 6 => 78
  | 7 => 180
  | 8 => 186
  | _ => 0
def BX7_joinGroups : Nat → List MI
  | 0 => [(.sipush 0, [], 0), (.istore 3, [], 0), (.invokedynamic 4, [1], 0)]
  | 1 => [(.iload 3, [], 0), (.aload 0, [], 0), (.getfield 9, [7, 0, 0], 0), (.if_icmp .ge 26, [3], 0), (.aload 0, [], 0), (.getfield 64, [7, 16, 2], 0), (.iload 3, [], 0), (.iaload, [], 0), (.iload 2, [], 0), (.if_icmp .ne 10, [2], 0), (.aload 0, [], 0), (.getfield 64, [7, 16, 2], 0), (.iload 3, [], 0), (.iload 1, [], 0), (.iastore, [], 0), (.invokedynamic 4, [2], 0)]
  | 2 => [(.iinc 3 1, [], 0), (.goto (-28), [1], 0)]
  | 3 => [(.return_, [], 0)]
  | _ => []
def PX7_joinGroups : Nat → Nat
  | 0 => 0
  | 1 => 2
  | 2 => 27
  | 3 => 33
  | _ => 0
def BX7_sortOpen : Nat → List MI
  | 0 => [(.sipush 0, [], 0), (.istore 2, [], 0), (.sipush 0, [], 0), (.istore 3, [], 0), (.invokedynamic 4, [1], 0)]
  | 1 => [(.iload 3, [], 0), (.aload 0, [], 0), (.getfield 15, [7, 1, 0], 0), (.if_icmp .ge 86, [5], 0), (.iload 3, [], 0), (.iload 1, [], 0), (.if_icmp .eq 75, [4], 0), (.aload 0, [], 0), (.iload 3, [], 0), (.invokevirtual 99, [65, 2], 0), (.ifCond .eq 67, [4], 0), (.iload 2, [], 0), (.istore 4, [], 0), (.invokedynamic 4, [2], 0)]
  | 2 => [(.iload 4, [], 0), (.ifCond .le 48, [3], 0), (.aload 0, [], 0), (.getfield 31, [7, 6, 2], 0), (.aload 0, [], 0), (.getfield 61, [7, 15, 2], 0), (.iload 4, [], 0), (.sipush 1, [], 0), (.isub, [], 0), (.iaload, [], 0), (.iaload, [], 0), (.aload 0, [], 0), (.getfield 31, [7, 6, 2], 0), (.iload 3, [], 0), (.iaload, [], 0), (.if_icmp .le 25, [3], 0), (.aload 0, [], 0), (.getfield 61, [7, 15, 2], 0), (.iload 4, [], 0), (.aload 0, [], 0), (.getfield 61, [7, 15, 2], 0), (.iload 4, [], 0), (.sipush 1, [], 0), (.isub, [], 0), (.iaload, [], 0), (.iastore, [], 0), (.iinc 4 (-1), [], 0), (.goto (-47), [2], 0)]
  | 3 => [(.aload 0, [], 0), (.getfield 61, [7, 15, 2], 0), (.iload 4, [], 0), (.iload 3, [], 0), (.iastore, [], 0), (.iinc 2 1, [], 0), (.invokedynamic 4, [4], 0)]
  | 4 => [(.iinc 3 1, [], 0), (.goto (-88), [1], 0)]
  | 5 => [(.iload 2, [], 0), (.ireturn, [0], 0)]
  | _ => []
def PX7_sortOpen : Nat → Nat
  | 0 => 0
  | 1 => 4
  | 2 => 28
  | 3 => 78
  | 4 => 89
  | 5 => 95
  | _ => 0
def BX8_init : Nat → List MI
  | 0 => [(.aload 0, [], 0), (.invokedynamic 5, [3], 0), (.aload 0, [], 0), (.sipush 401, [], 0), (.anewarray 9, [], 0), (.putfield 11, [8, 0, 2], 0), (.aload 0, [], 0), (.sipush 401, [], 0), (.newarray .int, [], 0), (.putfield 17, [8, 1, 2], 0), (.aload 0, [], 0), (.sipush 401, [], 0), (.newarray .int, [], 0), (.putfield 21, [8, 2, 2], 0), (.aload 0, [], 0), (.sipush 401, [], 0), (.newarray .long, [], 0), (.putfield 24, [8, 3, 2], 0), (.aload 0, [], 0), (.sipush 0, [], 0), (.putfield 28, [8, 4, 0], 0), (.sipush 0, [], 0), (.istore 1, [], 0), (.invokedynamic 4, [1], 0)]
  | 1 => [(.iload 1, [], 0), (.aload 0, [], 0), (.getfield 11, [8, 0, 2], 0), (.arraylength, [], 0), (.if_icmp .ge 18, [2], 0), (.aload 0, [], 0), (.getfield 11, [8, 0, 2], 0), (.iload 1, [], 0), (.getstatic 32, [0, 45], 0), (.aastore, [], 0), (.iinc 1 1, [], 0), (.goto (-21), [1], 0)]
  | 2 => [(.return_, [], 0)]
  | _ => []
def PX8_init : Nat → Nat
  | 0 => 0
  | 1 => 48
  | 2 => 72
  | _ => 0
def BX8_has : Nat → List MI
  | 0 => [(.iload 1, [], 0), (.ifCond .lt 15, [1], 0), (.iload 1, [], 0), (.aload 0, [], 0), (.getfield 28, [8, 4, 0], 0), (.if_icmp .ge 7, [1], 0), (.sipush 1, [], 0), (.goto 4, [2], 0)]
  | 1 => [(.sipush 0, [], 0), (.invokedynamic 4, [2], 0)]
  | 2 => [(.ireturn, [1], 0)]
  | _ => []
def PX8_has : Nat → Nat
  | 0 => 0
  | 1 => 16
  | 2 => 17
  | _ => 0
def BX8_kindOf : Nat → List MI
  | 0 => [(.aload 0, [], 0), (.iload 1, [], 0), (.invokevirtual 36, [87, 2], 0), (.ifCond .eq 12, [1], 0), (.aload 0, [], 0), (.getfield 11, [8, 0, 2], 0), (.iload 1, [], 0), (.aaload, [], 0), (.goto 6, [2], 0)]
  | 1 => [(.getstatic 32, [0, 45], 0), (.invokedynamic 4, [2], 0)]
  | 2 => [(.areturn, [], 0)]
  | _ => []
def PX8_kindOf : Nat → Nat
  | 0 => 0
  | 1 => 17
  | 2 => 20
  | _ => 0
def BX8_placeOf : Nat → List MI
  | 0 => [(.aload 0, [], 0), (.iload 1, [], 0), (.invokevirtual 36, [87, 2], 0), (.ifCond .eq 12, [1], 0), (.aload 0, [], 0), (.getfield 17, [8, 1, 2], 0), (.iload 1, [], 0), (.iaload, [], 0), (.goto 4, [2], 0)]
  | 1 => [(.sipush (-1), [], 0), (.invokedynamic 4, [2], 0)]
  | 2 => [(.ireturn, [0], 0)]
  | _ => []
def PX8_placeOf : Nat → Nat
  | 0 => 0
  | 1 => 17
  | 2 => 18
  | _ => 0
def BX8_valueOf : Nat → List MI
  | 0 => [(.aload 0, [], 0), (.iload 1, [], 0), (.invokevirtual 36, [87, 2], 0), (.ifCond .eq 12, [1], 0), (.aload 0, [], 0), (.getfield 21, [8, 2, 2], 0), (.iload 1, [], 0), (.iaload, [], 0), (.goto 4, [2], 0)]
  | 1 => [(.sipush (-1), [], 0), (.invokedynamic 4, [2], 0)]
  | 2 => [(.ireturn, [0], 0)]
  | _ => []
def PX8_valueOf : Nat → Nat
  | 0 => 0
  | 1 => 17
  | 2 => 18
  | _ => 0
def BX8_spellingOf : Nat → List MI
  | 0 => [(.aload 0, [], 0), (.iload 1, [], 0), (.invokevirtual 36, [87, 2], 0), (.ifCond .eq 12, [1], 0), (.aload 0, [], 0), (.getfield 24, [8, 3, 2], 0), (.iload 1, [], 0), (.laload, [], 0), (.goto 6, [2], 0)]
  | 1 => [(.ldc2_w 40, [], (-1)), (.invokedynamic 4, [2], 0)]
  | 2 => [(.lreturn, [], 0)]
  | _ => []
def PX8_spellingOf : Nat → Nat
  | 0 => 0
  | 1 => 17
  | 2 => 20
  | _ => 0
def BX8_setValue : Nat → List MI
  | 0 => [(.aload 0, [], 0), (.iload 1, [], 0), (.invokevirtual 36, [87, 2], 0), (.ifCond .eq 10, [1], 0), (.aload 0, [], 0), (.getfield 21, [8, 2, 2], 0), (.iload 1, [], 0), (.iload 2, [], 0), (.iastore, [], 0), (.invokedynamic 4, [1], 0)]
  | 1 => [(.return_, [], 0)]
  | _ => []
def PX8_setValue : Nat → Nat
  | 0 => 0
  | 1 => 15
  | _ => 0
def BX8_setKind : Nat → List MI
  | 0 => [(.iload 1, [], 0), (.ifCond .lt 18, [1], 0), (.iload 1, [], 0), (.aload 0, [], 0), (.getfield 28, [8, 4, 0], 0), (.if_icmp .ge 10, [1], 0), (.aload 0, [], 0), (.getfield 11, [8, 0, 2], 0), (.iload 1, [], 0), (.aload 2, [], 0), (.aastore, [], 0), (.invokedynamic 4, [1], 0)]
  | 1 => [(.return_, [], 0)]
  | _ => []
def PX8_setKind : Nat → Nat
  | 0 => 0
  | 1 => 19
  | _ => 0
def BX8_read : Nat → List MI
  | 0 => [(.aload 0, [], 0), (.sipush 0, [], 0), (.putfield 28, [8, 4, 0], 0), (.sipush 0, [], 0), (.istore 3, [], 0), (.sipush 1, [], 0), (.istore 4, [], 0), (.sipush 0, [], 0), (.istore 5, [], 0), (.invokedynamic 4, [1], 0)]
  | 1 => [(.iload 4, [], 0), (.ifCond .eq 165, [9], 0), (.iload 5, [], 0), (.sipush 400, [], 0), (.if_icmp .gt 157, [9], 0), (.aload 1, [], 0), (.iload 2, [], 0), (.iload 3, [], 0), (.invokestatic 42, [95, 3], 0), (.istore 3, [], 0), (.aload 1, [], 0), (.iload 2, [], 0), (.iload 3, [], 0), (.invokestatic 46, [96, 3], 0), (.istore 6, [], 0), (.aload 1, [], 0), (.iload 3, [], 0), (.iload 6, [], 0), (.invokestatic 49, [97, 3], 0), (.astore 7, [], 0), (.iload 5, [], 0), (.sipush 400, [], 0), (.if_icmp .ne 16, [2], 0), (.aload 7, [], 0), (.getstatic 32, [0, 45], 0), (.if_acmp .eq 8, [2], 0), (.getstatic 53, [0, 44], 0), (.astore 7, [], 0), (.invokedynamic 4, [2], 0)]
  | 2 => [(.aload 0, [], 0), (.getfield 11, [8, 0, 2], 0), (.iload 5, [], 0), (.aload 7, [], 0), (.aastore, [], 0), (.aload 0, [], 0), (.getfield 17, [8, 1, 2], 0), (.iload 5, [], 0), (.iload 3, [], 0), (.iastore, [], 0), (.aload 0, [], 0), (.getfield 21, [8, 2, 2], 0), (.iload 5, [], 0), (.aload 7, [], 0), (.getstatic 56, [0, 43], 0), (.if_acmp .ne 13, [3], 0), (.aload 1, [], 0), (.iload 3, [], 0), (.iload 6, [], 0), (.invokestatic 59, [100, 3], 0), (.goto 4, [4], 0)]
  | 3 => [(.sipush 0, [], 0), (.invokedynamic 4, [4], 0)]
  | 4 => [(.iastore, [], 0), (.aload 0, [], 0), (.getfield 24, [8, 3, 2], 0), (.iload 5, [], 0), (.aload 7, [], 0), (.getstatic 62, [0, 42], 0), (.if_acmp .ne 13, [5], 0), (.aload 1, [], 0), (.iload 3, [], 0), (.iload 6, [], 0), (.invokestatic 65, [101, 3], 0), (.goto 4, [6], 0)]
  | 5 => [(.lconst 0, [], 0), (.invokedynamic 4, [6], 0)]
  | 6 => [(.lastore, [], 0), (.aload 0, [], 0), (.iload 5, [], 0), (.sipush 1, [], 0), (.iadd, [], 0), (.putfield 28, [8, 4, 0], 0), (.iload 6, [], 0), (.istore 3, [], 0), (.aload 7, [], 0), (.getstatic 32, [0, 45], 0), (.if_acmp .eq 15, [7], 0), (.aload 7, [], 0), (.getstatic 53, [0, 44], 0), (.if_acmp .eq 7, [7], 0), (.sipush 1, [], 0), (.goto 4, [8], 0)]
  | 7 => [(.sipush 0, [], 0), (.invokedynamic 4, [8], 0)]
  | 8 => [(.istore 4, [], 0), (.iinc 5 1, [], 0), (.goto (-164), [1], 0)]
  | 9 => [(.return_, [], 0)]
  | _ => []
def PX8_read : Nat → Nat
  | 0 => 0
  | 1 => 13
  | 2 => 71
  | 3 => 112
  | 4 => 113
  | 5 => 138
  | 6 => 139
  | 7 => 171
  | 8 => 172
  | 9 => 180
  | _ => 0
def BX8_behindBlanks : Nat → List MI
  | 0 => [(.iload 2, [], 0), (.istore 3, [], 0), (.invokedynamic 4, [1], 0)]
  | 1 => [(.iload 3, [], 0), (.iload 1, [], 0), (.if_icmp .ge 25, [3], 0), (.aload 0, [], 0), (.iload 3, [], 0), (.baload, [], 0), (.sipush 32, [], 0), (.if_icmp .eq 11, [2], 0), (.aload 0, [], 0), (.iload 3, [], 0), (.baload, [], 0), (.sipush 10, [], 0), (.if_icmp .ne 9, [3], 0), (.invokedynamic 4, [2], 0)]
  | 2 => [(.iinc 3 1, [], 0), (.goto (-24), [1], 0)]
  | 3 => [(.iload 3, [], 0), (.ireturn, [0], 0)]
  | _ => []
def PX8_behindBlanks : Nat → Nat
  | 0 => 0
  | 1 => 2
  | 2 => 23
  | 3 => 29
  | _ => 0
def BX8_endOfToken : Nat → List MI
  | 0 => [(.iload 2, [], 0), (.iload 1, [], 0), (.if_icmp .lt 5, [1], 0), (.iload 2, [], 0), (.ireturn, [0], 0)]
  | 1 => [(.iload 2, [], 0), (.sipush 1, [], 0), (.iadd, [], 0), (.istore 3, [], 0), (.aload 0, [], 0), (.iload 2, [], 0), (.baload, [], 0), (.invokestatic 69, [102, 1], 0), (.ifCond .eq 32, [4], 0), (.invokedynamic 4, [2], 0)]
  | 2 => [(.iload 3, [], 0), (.iload 1, [], 0), (.if_icmp .ge 88, [8], 0), (.aload 0, [], 0), (.iload 3, [], 0), (.baload, [], 0), (.invokestatic 69, [102, 1], 0), (.ifCond .ne 12, [3], 0), (.aload 0, [], 0), (.iload 3, [], 0), (.baload, [], 0), (.invokestatic 73, [103, 1], 0), (.ifCond .eq 70, [8], 0), (.invokedynamic 4, [3], 0)]
  | 3 => [(.iinc 3 1, [], 0), (.goto (-26), [2], 0)]
  | 4 => [(.aload 0, [], 0), (.iload 2, [], 0), (.baload, [], 0), (.invokestatic 73, [103, 1], 0), (.ifCond .eq 23, [6], 0), (.invokedynamic 4, [5], 0)]
  | 5 => [(.iload 3, [], 0), (.iload 1, [], 0), (.if_icmp .ge 50, [8], 0), (.aload 0, [], 0), (.iload 3, [], 0), (.baload, [], 0), (.invokestatic 73, [103, 1], 0), (.ifCond .eq 41, [8], 0), (.iinc 3 1, [], 0), (.goto (-17), [5], 0)]
  | 6 => [(.aload 0, [], 0), (.iload 2, [], 0), (.baload, [], 0), (.sipush 60, [], 0), (.if_icmp .eq 11, [7], 0), (.aload 0, [], 0), (.iload 2, [], 0), (.baload, [], 0), (.sipush 62, [], 0), (.if_icmp .ne 19, [8], 0), (.invokedynamic 4, [7], 0)]
  | 7 => [(.iload 3, [], 0), (.iload 1, [], 0), (.if_icmp .ge 14, [8], 0), (.aload 0, [], 0), (.iload 3, [], 0), (.baload, [], 0), (.sipush 61, [], 0), (.if_icmp .ne 6, [8], 0), (.iinc 3 1, [], 0), (.invokedynamic 4, [8], 0)]
  | 8 => [(.iload 3, [], 0), (.ireturn, [0], 0)]
  | _ => []
def PX8_endOfToken : Nat → Nat
  | 0 => 0
  | 1 => 7
  | 2 => 20
  | 3 => 43
  | 4 => 49
  | 5 => 58
  | 6 => 78
  | 7 => 94
  | 8 => 110
  | _ => 0
def BX8_kindBetween : Nat → List MI
  | 0 => [(.iload 1, [], 0), (.iload 2, [], 0), (.if_icmp .lt 7, [1], 0), (.getstatic 32, [0, 45], 0), (.areturn, [], 0)]
  | 1 => [(.aload 0, [], 0), (.iload 1, [], 0), (.baload, [], 0), (.invokestatic 69, [102, 1], 0), (.ifCond .eq 27, [4], 0), (.iload 2, [], 0), (.iload 1, [], 0), (.isub, [], 0), (.sipush 10, [], 0), (.if_icmp .le 9, [2], 0), (.getstatic 53, [0, 44], 0), (.goto 12, [3], 0)]
  | 2 => [(.aload 0, [], 0), (.iload 1, [], 0), (.iload 2, [], 0), (.getstatic 62, [0, 42], 0), (.invokestatic 76, [98, 4], 0), (.invokedynamic 4, [3], 0)]
  | 3 => [(.areturn, [], 0)]
  | 4 => [(.aload 0, [], 0), (.iload 1, [], 0), (.baload, [], 0), (.invokestatic 73, [103, 1], 0), (.ifCond .eq 21, [7], 0), (.iload 2, [], 0), (.iload 1, [], 0), (.isub, [], 0), (.sipush 6, [], 0), (.if_icmp .le 9, [5], 0), (.getstatic 53, [0, 44], 0), (.goto 6, [6], 0)]
  | 5 => [(.getstatic 56, [0, 43], 0), (.invokedynamic 4, [6], 0)]
  | 6 => [(.areturn, [], 0)]
  | 7 => [(.aload 0, [], 0), (.iload 1, [], 0), (.iload 2, [], 0), (.getstatic 53, [0, 44], 0), (.invokestatic 76, [98, 4], 0), (.areturn, [], 0)]
  | _ => []
def PX8_kindBetween : Nat → Nat
  | 0 => 0
  | 1 => 9
  | 2 => 32
  | 3 => 41
  | 4 => 42
  | 5 => 65
  | 6 => 68
  | 7 => 69
  | _ => 0
def BX8_kindSpelt : Nat → List MI
  | 0 => [(.getstatic 80, [0, 300], 0), (.astore 4, [], 0), (.aload 4, [], 0), (.arraylength, [], 0), (.istore 5, [], 0), (.sipush 0, [], 0), (.istore 6, [], 0), (.invokedynamic 4, [1], 0)]
  | 1 => [(.iload 6, [], 0), (.iload 5, [], 0), (.if_icmp .ge 46, [3], 0), (.aload 4, [], 0), (.iload 6, [], 0), (.aaload, [], 0), (.astore 7, [], 0), (.aload 7, [], 0), (.getfield 83, [99, 50, 0], 0), (.invokevirtual 87, [270, 1], 0), (.iload 2, [], 0), (.iload 1, [], 0), (.isub, [], 0), (.if_icmp .ne 19, [2], 0), (.aload 7, [], 0), (.getfield 83, [99, 50, 0], 0), (.aload 0, [], 0), (.iload 1, [], 0), (.invokestatic 93, [99, 3], 0), (.ifCond .eq 6, [2], 0), (.aload 7, [], 0), (.areturn, [], 0)]
  | 2 => [(.iinc 6 1, [], 0), (.goto (-47), [1], 0)]
  | 3 => [(.aload 3, [], 0), (.areturn, [], 0)]
  | _ => []
def PX8_kindSpelt : Nat → Nat
  | 0 => 0
  | 1 => 13
  | 2 => 57
  | 3 => 63
  | _ => 0
def BX8_isSpelt : Nat → List MI
  | 0 => [(.sipush 0, [], 0), (.istore 3, [], 0), (.invokedynamic 4, [1], 0)]
  | 1 => [(.iload 3, [], 0), (.aload 0, [], 0), (.invokevirtual 87, [270, 1], 0), (.if_icmp .ge 24, [3], 0), (.aload 0, [], 0), (.iload 3, [], 0), (.invokevirtual 97, [271, 2], 0), (.aload 1, [], 0), (.iload 2, [], 0), (.iload 3, [], 0), (.iadd, [], 0), (.baload, [], 0), (.if_icmp .eq 5, [2], 0), (.sipush 0, [], 0), (.ireturn, [1], 0)]
  | 2 => [(.iinc 3 1, [], 0), (.goto (-26), [1], 0)]
  | 3 => [(.sipush 1, [], 0), (.ireturn, [1], 0)]
  | _ => []
def PX8_isSpelt : Nat → Nat
  | 0 => 0
  | 1 => 2
  | 2 => 25
  | 3 => 31
  | _ => 0
def BX8_numberBetween : Nat → List MI
  | 0 => [(.sipush 0, [], 0), (.istore 3, [], 0), (.iload 1, [], 0), (.istore 4, [], 0), (.invokedynamic 4, [1], 0)]
  | 1 => [(.iload 4, [], 0), (.iload 2, [], 0), (.if_icmp .ge 22, [2], 0), (.iload 3, [], 0), (.sipush 10, [], 0), (.imul, [], 0), (.aload 0, [], 0), (.iload 4, [], 0), (.baload, [], 0), (.iadd, [], 0), (.sipush 48, [], 0), (.isub, [], 0), (.istore 3, [], 0), (.iinc 4 1, [], 0), (.goto (-22), [1], 0)]
  | 2 => [(.iload 3, [], 0), (.ireturn, [0], 0)]
  | _ => []
def PX8_numberBetween : Nat → Nat
  | 0 => 0
  | 1 => 5
  | 2 => 30
  | _ => 0
def BX8_spellingBetween : Nat → List MI
  | 0 => [(.lconst 0, [], 0), (.lstore 3, [], 0), (.iload 1, [], 0), (.istore 5, [], 0), (.invokedynamic 4, [1], 0)]
  | 1 => [(.iload 5, [], 0), (.iload 2, [], 0), (.if_icmp .ge 49, [4], 0), (.aload 0, [], 0), (.iload 5, [], 0), (.baload, [], 0), (.istore 6, [], 0), (.lload 3, [], 0), (.ldc2_w 101, [], 37), (.lmul, [], 0), (.iload 6, [], 0), (.invokestatic 69, [102, 1], 0), (.ifCond .eq 14, [2], 0), (.iload 6, [], 0), (.sipush 97, [], 0), (.isub, [], 0), (.sipush 11, [], 0), (.iadd, [], 0), (.goto 10, [3], 0)]
  | 2 => [(.iload 6, [], 0), (.sipush 48, [], 0), (.isub, [], 0), (.sipush 1, [], 0), (.iadd, [], 0), (.invokedynamic 4, [3], 0)]
  | 3 => [(.i2l, [], 0), (.ladd, [], 0), (.lstore 3, [], 0), (.iinc 5 1, [], 0), (.goto (-49), [1], 0)]
  | 4 => [(.lload 3, [], 0), (.lreturn, [], 0)]
  | _ => []
def PX8_spellingBetween : Nat → Nat
  | 0 => 0
  | 1 => 5
  | 2 => 41
  | 3 => 48
  | 4 => 57
  | _ => 0
def BX8_isLetter : Nat → List MI
  | 0 => [(.iload 0, [], 0), (.sipush 97, [], 0), (.if_icmp .lt 13, [1], 0), (.iload 0, [], 0), (.sipush 122, [], 0), (.if_icmp .gt 7, [1], 0), (.sipush 1, [], 0), (.goto 4, [2], 0)]
  | 1 => [(.sipush 0, [], 0), (.invokedynamic 4, [2], 0)]
  | 2 => [(.ireturn, [1], 0)]
  | _ => []
def PX8_isLetter : Nat → Nat
  | 0 => 0
  | 1 => 16
  | 2 => 17
  | _ => 0
def BX8_isDigit : Nat → List MI
  | 0 => [(.iload 0, [], 0), (.sipush 48, [], 0), (.if_icmp .lt 13, [1], 0), (.iload 0, [], 0), (.sipush 57, [], 0), (.if_icmp .gt 7, [1], 0), (.sipush 1, [], 0), (.goto 4, [2], 0)]
  | 1 => [(.sipush 0, [], 0), (.invokedynamic 4, [2], 0)]
  | 2 => [(.ireturn, [1], 0)]
  | _ => []
def PX8_isDigit : Nat → Nat
  | 0 => 0
  | 1 => 16
  | 2 => 17
  | _ => 0
def BX9_init : Nat → List MI
  | 0 => [(.aload 0, [], 0), (.invokedynamic 5, [3], 0), (.aload 0, [], 0), (.sipush 2000, [], 0), (.newarray .byte, [], 0), (.putfield 9, [9, 0, 2], 0), (.aload 0, [], 0), (.sipush 0, [], 0), (.putfield 13, [9, 1, 0], 0), (.aload 0, [], 0), (.sipush (-1), [], 0), (.putfield 17, [9, 2, 0], 0), (.aload 0, [], 0), (.new 20, [5], 0), (.dup, [], 0), (.invokespecial 22, [42, 1], 0), (.putfield 23, [9, 3, 2], 0), (.aload 0, [], 0), (.new 20, [5], 0), (.dup, [], 0), (.invokespecial 22, [42, 1], 0), (.putfield 27, [9, 4, 2], 0), (.aload 0, [], 0), (.new 30, [1], 0), (.dup, [], 0), (.aload 0, [], 0), (.getfield 27, [9, 4, 2], 0), (.invokespecial 32, [0, 2], 0), (.putfield 35, [9, 5, 2], 0), (.aload 0, [], 0), (.new 39, [4], 0), (.dup, [], 0), (.aload 0, [], 0), (.getfield 27, [9, 4, 2], 0), (.invokespecial 41, [31, 2], 0), (.putfield 42, [9, 6, 2], 0), (.aload 0, [], 0), (.new 46, [3], 0), (.dup, [], 0), (.aload 0, [], 0), (.getfield 23, [9, 3, 2], 0), (.invokespecial 48, [10, 2], 0), (.putfield 49, [9, 7, 2], 0), (.aload 0, [], 0), (.new 46, [3], 0), (.dup, [], 0), (.aload 0, [], 0), (.getfield 23, [9, 3, 2], 0), (.invokespecial 48, [10, 2], 0), (.putfield 53, [9, 8, 2], 0), (.return_, [], 0)]
  | _ => []
def PX9_init : Nat → Nat
  | 0 => 0
  | _ => 0
def BX9_feed : Nat → List MI
  | 0 => [(.aload 0, [], 0), (.getfield 13, [9, 1, 0], 0), (.sipush 20, [], 0), (.iadd, [], 0), (.sipush 2000, [], 0), (.if_icmp .le 13, [1], 0), (.invokedynamic 3, [0, 56, 58, 60, 0], 0)]
  | 1 => [(.aload 0, [], 0), (.iload 1, [], 0), (.invokevirtual 63, [106, 2], 0), (.aload 0, [], 0), (.iload 2, [], 0), (.invokevirtual 63, [106, 2], 0), (.aload 0, [], 0), (.iload 3, [], 0), (.invokevirtual 63, [106, 2], 0), (.aload 0, [], 0), (.iload 4, [], 0), (.invokevirtual 63, [106, 2], 0), (.aload 0, [], 0), (.iload 5, [], 0), (.invokevirtual 63, [106, 2], 0), (.aload 0, [], 0), (.getfield 13, [9, 1, 0], 0), (.ireturn, [0], 0)]
  | _ => []
def PX9_feed : Nat → Nat
  | 0 => 0
  | 1 => 23
  | _ => 0
def BX9_append : Nat → List MI
  | 0 => [(.sipush 24, [], 0), (.istore 2, [], 0), (.invokedynamic 4, [1], 0)]
  | 1 => [(.iload 2, [], 0), (.ifCond .lt 42, [2], 0), (.aload 0, [], 0), (.getfield 13, [9, 1, 0], 0), (.sipush 2000, [], 0), (.if_icmp .ge 32, [2], 0), (.aload 0, [], 0), (.getfield 9, [9, 0, 2], 0), (.aload 0, [], 0), (.getfield 13, [9, 1, 0], 0), (.iload 1, [], 0), (.iload 2, [], 0), (.ishr, [], 0), (.i2b, [], 0), (.bastore, [], 0), (.aload 0, [], 0), (.dup, [], 0), (.getfield 13, [9, 1, 0], 0), (.sipush 1, [], 0), (.iadd, [], 0), (.putfield 13, [9, 1, 0], 0), (.iinc 2 (-8), [], 0), (.goto (-40), [1], 0)]
  | 2 => [(.return_, [], 0)]
  | _ => []
def PX9_append : Nat → Nat
  | 0 => 0
  | 1 => 3
  | 2 => 46
  | _ => 0
def BX9_trim : Nat → List MI
  | 0 => [(.iload 1, [], 0), (.ifCond .lt 11, [1], 0), (.iload 1, [], 0), (.aload 0, [], 0), (.getfield 13, [9, 1, 0], 0), (.if_icmp .le 13, [2], 0), (.invokedynamic 4, [1], 0)]
  | 1 => [(.invokedynamic 3, [1, 67, 69, 71, 0], 0)]
  | 2 => [(.aload 0, [], 0), (.iload 1, [], 0), (.putfield 13, [9, 1, 0], 0), (.iload 1, [], 0), (.ireturn, [0], 0)]
  | _ => []
def PX9_trim : Nat → Nat
  | 0 => 0
  | 1 => 12
  | 2 => 22
  | _ => 0
def BX9_teach : Nat → List MI
  | 0 => [(.aload 0, [], 0), (.getfield 27, [9, 4, 2], 0), (.invokevirtual 72, [43, 1], 0), (.aload 0, [], 0), (.getfield 27, [9, 4, 2], 0), (.getfield 75, [5, 0, 2], 0), (.aload 0, [], 0), (.getfield 9, [9, 0, 2], 0), (.aload 0, [], 0), (.getfield 13, [9, 1, 0], 0), (.invokevirtual 79, [94, 3], 0), (.aload 0, [], 0), (.sipush 0, [], 0), (.putfield 13, [9, 1, 0], 0), (.aload 0, [], 0), (.getfield 35, [9, 5, 2], 0), (.aload 0, [], 0), (.getfield 27, [9, 4, 2], 0), (.invokevirtual 85, [1, 2], 0), (.ifCond .ne 26, [1], 0), (.aload 0, [], 0), (.aload 0, [], 0), (.getfield 27, [9, 4, 2], 0), (.getfield 75, [5, 0, 2], 0), (.aload 0, [], 0), (.getfield 35, [9, 5, 2], 0), (.getfield 89, [1, 1, 0], 0), (.invokevirtual 92, [89, 2], 0), (.putfield 17, [9, 2, 0], 0), (.sipush 1, [], 0), (.ireturn, [0], 0)]
  | 1 => [(.aload 0, [], 0), (.getfield 42, [9, 6, 2], 0), (.aload 0, [], 0), (.getfield 27, [9, 4, 2], 0), (.invokevirtual 96, [32, 2], 0), (.istore 1, [], 0), (.iload 1, [], 0), (.ifCond .eq 26, [2], 0), (.aload 0, [], 0), (.aload 0, [], 0), (.getfield 27, [9, 4, 2], 0), (.getfield 75, [5, 0, 2], 0), (.aload 0, [], 0), (.getfield 42, [9, 6, 2], 0), (.getfield 100, [4, 5, 0], 0), (.invokevirtual 92, [89, 2], 0), (.putfield 17, [9, 2, 0], 0), (.iload 1, [], 0), (.ireturn, [0], 0)]
  | 2 => [(.aload 0, [], 0), (.sipush (-1), [], 0), (.putfield 17, [9, 2, 0], 0), (.aload 0, [], 0), (.getfield 23, [9, 3, 2], 0), (.astore 2, [], 0), (.aload 0, [], 0), (.aload 0, [], 0), (.getfield 27, [9, 4, 2], 0), (.putfield 23, [9, 3, 2], 0), (.aload 0, [], 0), (.aload 2, [], 0), (.putfield 27, [9, 4, 2], 0), (.aload 0, [], 0), (.getfield 49, [9, 7, 2], 0), (.aload 0, [], 0), (.getfield 23, [9, 3, 2], 0), (.invokevirtual 103, [11, 2], 0), (.sipush 0, [], 0), (.ireturn, [0], 0)]
  | _ => []
def PX9_teach : Nat → Nat
  | 0 => 0
  | 1 => 67
  | 2 => 106
  | _ => 0
def BX9_count : Nat → List MI
  | 0 => [(.iload 1, [], 0), (.ifCond .lt 9, [1], 0), (.iload 1, [], 0), (.sipush 15, [], 0), (.if_icmp .lt 13, [2], 0), (.invokedynamic 4, [1], 0)]
  | 1 => [(.invokedynamic 3, [2, 106, 108, 110, 0], 0)]
  | 2 => [(.aload 0, [], 0), (.iload 1, [], 0), (.invokevirtual 111, [111, 2], 0), (.ireturn, [0], 0)]
  | _ => []
def PX9_count : Nat → Nat
  | 0 => 0
  | 1 => 10
  | 2 => 20
  | _ => 0
def BX9_countOf : Nat → List MI
  | 0 => [(.iload 1, [], 0), (.tableswitch 120 0 14 #[75, 83, 91, 99, 107, 120, 120, 120, 120, 120, 120, 120, 120, 120, 115], [7, 1, 2, 3, 4, 5, 7, 7, 7, 7, 7, 7, 7, 7, 7, 6], 0)]
  | 1 => [(.aload 0, [], 0), (.getfield 49, [9, 7, 2], 0), (.getfield 114, [3, 3, 0], 0), (.ireturn, [0], 0)]
  | 2 => [(.aload 0, [], 0), (.getfield 23, [9, 3, 2], 0), (.getfield 117, [5, 3, 0], 0), (.ireturn, [0], 0)]
  | 3 => [(.aload 0, [], 0), (.getfield 23, [9, 3, 2], 0), (.getfield 120, [5, 4, 0], 0), (.ireturn, [0], 0)]
  | 4 => [(.aload 0, [], 0), (.getfield 23, [9, 3, 2], 0), (.getfield 123, [5, 5, 0], 0), (.ireturn, [0], 0)]
  | 5 => [(.aload 0, [], 0), (.getfield 23, [9, 3, 2], 0), (.getfield 126, [5, 6, 0], 0), (.ireturn, [0], 0)]
  | 6 => [(.aload 0, [], 0), (.getfield 13, [9, 1, 0], 0), (.ireturn, [0], 0)]
  | 7 => [(.aload 0, [], 0), (.getfield 49, [9, 7, 2], 0), (.iload 1, [], 0), (.invokevirtual 129, [21, 2], 0), (.ireturn, [0], 0)]
  | _ => []
def PX9_countOf : Nat → Nat
  | 0 => 0
  | 1 => 76
  | 2 => 84
  | 3 => 92
  | 4 => 100
  | 5 => 108
  | 6 => 116
  | 7 => 121
  | _ => 0
def BX9_tavern : Nat → List MI
  | 0 => [(.aload 0, [], 0), (.iload 1, [], 0), (.invokevirtual 132, [119, 2], 0), (.ifCond .eq 12, [1], 0), (.iload 2, [], 0), (.ifCond .lt 8, [1], 0), (.iload 2, [], 0), (.sipush 4, [], 0), (.if_icmp .lt 13, [2], 0), (.invokedynamic 4, [1], 0)]
  | 1 => [(.invokedynamic 3, [2, 106, 136, 110, 0], 0)]
  | 2 => [(.aload 0, [], 0), (.iload 1, [], 0), (.iload 2, [], 0), (.invokevirtual 138, [113, 3], 0), (.ireturn, [0], 0)]
  | _ => []
def PX9_tavern : Nat → Nat
  | 0 => 0
  | 1 => 17
  | 2 => 27
  | _ => 0
def BX9_tavernFact : Nat → List MI
  | 0 => [(.iload 2, [], 0), (.tableswitch 60 0 2 #[27, 39, 48], [4, 1, 2, 3], 0)]
  | 1 => [(.aload 0, [], 0), (.getfield 49, [9, 7, 2], 0), (.getfield 142, [3, 0, 2], 0), (.iload 1, [], 0), (.invokevirtual 145, [70, 2], 0), (.ireturn, [0], 0)]
  | 2 => [(.aload 0, [], 0), (.getfield 49, [9, 7, 2], 0), (.iload 1, [], 0), (.invokevirtual 150, [17, 2], 0), (.ireturn, [0], 0)]
  | 3 => [(.aload 0, [], 0), (.getfield 49, [9, 7, 2], 0), (.getfield 142, [3, 0, 2], 0), (.iload 1, [], 0), (.invokevirtual 153, [73, 2], 0), (.ireturn, [0], 0)]
  | 4 => [(.aload 0, [], 0), (.getfield 49, [9, 7, 2], 0), (.getfield 142, [3, 0, 2], 0), (.iload 1, [], 0), (.invokevirtual 156, [74, 2], 0), (.ireturn, [0], 0)]
  | _ => []
def PX9_tavernFact : Nat → Nat
  | 0 => 0
  | 1 => 28
  | 2 => 40
  | 3 => 49
  | 4 => 61
  | _ => 0
def BX9_road : Nat → List MI
  | 0 => [(.aload 0, [], 0), (.iload 1, [], 0), (.invokevirtual 159, [120, 2], 0), (.ifCond .eq 13, [1], 0), (.iload 2, [], 0), (.ifCond .lt 9, [1], 0), (.iload 2, [], 0), (.sipush 9, [], 0), (.if_icmp .lt 13, [2], 0), (.invokedynamic 4, [1], 0)]
  | 1 => [(.invokedynamic 3, [2, 106, 162, 110, 0], 0)]
  | 2 => [(.aload 0, [], 0), (.iload 1, [], 0), (.iload 2, [], 0), (.invokevirtual 164, [115, 3], 0), (.ireturn, [0], 0)]
  | _ => []
def PX9_road : Nat → Nat
  | 0 => 0
  | 1 => 18
  | 2 => 28
  | _ => 0
def BX9_roadFact : Nat → List MI
  | 0 => [(.aload 0, [], 0), (.getfield 49, [9, 7, 2], 0), (.getfield 142, [3, 0, 2], 0), (.astore 3, [], 0), (.iload 2, [], 0), (.tableswitch 124 0 7 #[47, 54, 61, 68, 75, 82, 96, 110], [15, 1, 2, 3, 4, 5, 6, 9, 12], 0)]
  | 1 => [(.aload 3, [], 0), (.getfield 167, [7, 2, 2], 0), (.iload 1, [], 0), (.iaload, [], 0), (.ireturn, [0], 0)]
  | 2 => [(.aload 3, [], 0), (.getfield 171, [7, 3, 2], 0), (.iload 1, [], 0), (.iaload, [], 0), (.ireturn, [0], 0)]
  | 3 => [(.aload 3, [], 0), (.getfield 174, [7, 4, 2], 0), (.iload 1, [], 0), (.iaload, [], 0), (.ireturn, [0], 0)]
  | 4 => [(.aload 3, [], 0), (.getfield 177, [7, 5, 2], 0), (.iload 1, [], 0), (.iaload, [], 0), (.ireturn, [0], 0)]
  | 5 => [(.aload 3, [], 0), (.getfield 180, [7, 6, 2], 0), (.iload 1, [], 0), (.iaload, [], 0), (.ireturn, [0], 0)]
  | 6 => [(.aload 3, [], 0), (.iload 1, [], 0), (.invokevirtual 183, [65, 2], 0), (.ifCond .eq 7, [7], 0), (.sipush 1, [], 0), (.goto 4, [8], 0)]
  | 7 => [(.sipush 0, [], 0), (.invokedynamic 4, [8], 0)]
  | 8 => [(.ireturn, [0], 0)]
  | 9 => [(.aload 3, [], 0), (.iload 1, [], 0), (.invokevirtual 186, [77, 2], 0), (.ifCond .eq 7, [10], 0), (.sipush 1, [], 0), (.goto 4, [11], 0)]
  | 10 => [(.sipush 0, [], 0), (.invokedynamic 4, [11], 0)]
  | 11 => [(.ireturn, [0], 0)]
  | 12 => [(.aload 3, [], 0), (.iload 1, [], 0), (.invokevirtual 189, [79, 2], 0), (.ifCond .eq 7, [13], 0), (.sipush 1, [], 0), (.goto 4, [14], 0)]
  | 13 => [(.sipush 0, [], 0), (.invokedynamic 4, [14], 0)]
  | 14 => [(.ireturn, [0], 0)]
  | 15 => [(.aload 0, [], 0), (.getfield 49, [9, 7, 2], 0), (.iload 1, [], 0), (.invokevirtual 192, [19, 2], 0), (.ireturn, [0], 0)]
  | _ => []
def PX9_roadFact : Nat → Nat
  | 0 => 0
  | 1 => 56
  | 2 => 63
  | 3 => 70
  | 4 => 77
  | 5 => 84
  | 6 => 91
  | 7 => 103
  | 8 => 104
  | 9 => 105
  | 10 => 117
  | 11 => 118
  | 12 => 119
  | 13 => 131
  | 14 => 132
  | 15 => 133
  | _ => 0
def BX9_rumour : Nat → List MI
  | 0 => [(.aload 0, [], 0), (.iload 1, [], 0), (.invokevirtual 195, [121, 2], 0), (.ifCond .eq 12, [1], 0), (.iload 2, [], 0), (.ifCond .lt 8, [1], 0), (.iload 2, [], 0), (.sipush 4, [], 0), (.if_icmp .lt 13, [2], 0), (.invokedynamic 4, [1], 0)]
  | 1 => [(.invokedynamic 3, [2, 106, 198, 110, 0], 0)]
  | 2 => [(.aload 0, [], 0), (.iload 1, [], 0), (.iload 2, [], 0), (.invokevirtual 200, [117, 3], 0), (.ireturn, [0], 0)]
  | _ => []
def PX9_rumour : Nat → Nat
  | 0 => 0
  | 1 => 17
  | 2 => 27
  | _ => 0
def BX9_rumourFact : Nat → List MI
  | 0 => [(.iload 2, [], 0), (.tableswitch 56 0 2 #[27, 37, 47], [4, 1, 2, 3], 0)]
  | 1 => [(.aload 0, [], 0), (.getfield 23, [9, 3, 2], 0), (.getfield 203, [5, 10, 2], 0), (.iload 1, [], 0), (.iaload, [], 0), (.ireturn, [0], 0)]
  | 2 => [(.aload 0, [], 0), (.getfield 23, [9, 3, 2], 0), (.getfield 206, [5, 11, 2], 0), (.iload 1, [], 0), (.iaload, [], 0), (.ireturn, [0], 0)]
  | 3 => [(.aload 0, [], 0), (.getfield 49, [9, 7, 2], 0), (.iload 1, [], 0), (.invokevirtual 209, [16, 2], 0), (.ireturn, [0], 0)]
  | 4 => [(.aload 0, [], 0), (.getfield 49, [9, 7, 2], 0), (.iload 1, [], 0), (.invokevirtual 212, [20, 2], 0), (.ireturn, [0], 0)]
  | _ => []
def PX9_rumourFact : Nat → Nat
  | 0 => 0
  | 1 => 28
  | 2 => 38
  | 3 => 48
  | 4 => 57
  | _ => 0
def BX9_since : Nat → List MI
  | 0 => [(.aload 0, [], 0), (.iload 1, [], 0), (.invokevirtual 132, [119, 2], 0), (.ifCond .eq 11, [1], 0), (.aload 0, [], 0), (.iload 2, [], 0), (.invokevirtual 195, [121, 2], 0), (.ifCond .ne 13, [2], 0), (.invokedynamic 4, [1], 0)]
  | 1 => [(.invokedynamic 3, [2, 106, 215, 110, 0], 0)]
  | 2 => [(.aload 0, [], 0), (.getfield 49, [9, 7, 2], 0), (.iload 1, [], 0), (.iload 2, [], 0), (.invokevirtual 217, [13, 3], 0), (.ireturn, [0], 0)]
  | _ => []
def PX9_since : Nat → Nat
  | 0 => 0
  | 1 => 16
  | 2 => 26
  | _ => 0
def BX9_isTavern : Nat → List MI
  | 0 => [(.iload 1, [], 0), (.ifCond .lt 18, [1], 0), (.iload 1, [], 0), (.aload 0, [], 0), (.getfield 23, [9, 3, 2], 0), (.getfield 117, [5, 3, 0], 0), (.if_icmp .ge 7, [1], 0), (.sipush 1, [], 0), (.goto 4, [2], 0)]
  | 1 => [(.sipush 0, [], 0), (.invokedynamic 4, [2], 0)]
  | 2 => [(.ireturn, [1], 0)]
  | _ => []
def PX9_isTavern : Nat → Nat
  | 0 => 0
  | 1 => 19
  | 2 => 20
  | _ => 0
def BX9_isRoad : Nat → List MI
  | 0 => [(.iload 1, [], 0), (.ifCond .lt 18, [1], 0), (.iload 1, [], 0), (.aload 0, [], 0), (.getfield 23, [9, 3, 2], 0), (.getfield 120, [5, 4, 0], 0), (.if_icmp .ge 7, [1], 0), (.sipush 1, [], 0), (.goto 4, [2], 0)]
  | 1 => [(.sipush 0, [], 0), (.invokedynamic 4, [2], 0)]
  | 2 => [(.ireturn, [1], 0)]
  | _ => []
def PX9_isRoad : Nat → Nat
  | 0 => 0
  | 1 => 19
  | 2 => 20
  | _ => 0
def BX9_isRumour : Nat → List MI
  | 0 => [(.iload 1, [], 0), (.ifCond .lt 18, [1], 0), (.iload 1, [], 0), (.aload 0, [], 0), (.getfield 23, [9, 3, 2], 0), (.getfield 123, [5, 5, 0], 0), (.if_icmp .ge 7, [1], 0), (.sipush 1, [], 0), (.goto 4, [2], 0)]
  | 1 => [(.sipush 0, [], 0), (.invokedynamic 4, [2], 0)]
  | 2 => [(.ireturn, [1], 0)]
  | _ => []
def PX9_isRumour : Nat → Nat
  | 0 => 0
  | 1 => 19
  | 2 => 20
  | _ => 0
def BX9_far : Nat → List MI
  | 0 => [(.aload 0, [], 0), (.iload 1, [], 0), (.invokevirtual 132, [119, 2], 0), (.ifCond .eq 11, [1], 0), (.aload 0, [], 0), (.iload 2, [], 0), (.invokevirtual 132, [119, 2], 0), (.ifCond .ne 13, [2], 0), (.invokedynamic 4, [1], 0)]
  | 1 => [(.invokedynamic 3, [2, 106, 220, 110, 0], 0)]
  | 2 => [(.aload 0, [], 0), (.getfield 49, [9, 7, 2], 0), (.getfield 142, [3, 0, 2], 0), (.iload 1, [], 0), (.iload 2, [], 0), (.invokevirtual 222, [71, 3], 0), (.ireturn, [0], 0)]
  | _ => []
def PX9_far : Nat → Nat
  | 0 => 0
  | 1 => 16
  | 2 => 26
  | _ => 0
def BX9_step : Nat → List MI
  | 0 => [(.aload 0, [], 0), (.iload 1, [], 0), (.invokevirtual 132, [119, 2], 0), (.ifCond .eq 11, [1], 0), (.aload 0, [], 0), (.iload 2, [], 0), (.invokevirtual 132, [119, 2], 0), (.ifCond .ne 13, [2], 0), (.invokedynamic 4, [1], 0)]
  | 1 => [(.invokedynamic 3, [2, 106, 220, 110, 0], 0)]
  | 2 => [(.aload 0, [], 0), (.getfield 49, [9, 7, 2], 0), (.getfield 142, [3, 0, 2], 0), (.iload 1, [], 0), (.iload 2, [], 0), (.invokevirtual 225, [75, 3], 0), (.ireturn, [0], 0)]
  | _ => []
def PX9_step : Nat → Nat
  | 0 => 0
  | 1 => 16
  | 2 => 26
  | _ => 0
def BX9_detour : Nat → List MI
  | 0 => [(.aload 0, [], 0), (.iload 1, [], 0), (.invokevirtual 159, [120, 2], 0), (.ifCond .ne 13, [1], 0), (.invokedynamic 3, [2, 106, 228, 110, 0], 0)]
  | 1 => [(.aload 0, [], 0), (.getfield 49, [9, 7, 2], 0), (.getfield 142, [3, 0, 2], 0), (.iload 1, [], 0), (.invokevirtual 230, [76, 2], 0), (.ireturn, [0], 0)]
  | _ => []
def PX9_detour : Nat → Nat
  | 0 => 0
  | 1 => 18
  | _ => 0
def BX9_replace : Nat → List MI
  | 0 => [(.aload 0, [], 0), (.iload 1, [], 0), (.invokevirtual 159, [120, 2], 0), (.ifCond .ne 13, [1], 0), (.invokedynamic 3, [2, 106, 228, 110, 0], 0)]
  | 1 => [(.aload 0, [], 0), (.getfield 49, [9, 7, 2], 0), (.getfield 142, [3, 0, 2], 0), (.iload 1, [], 0), (.invokevirtual 233, [82, 2], 0), (.ireturn, [0], 0)]
  | _ => []
def PX9_replace : Nat → Nat
  | 0 => 0
  | 1 => 18
  | _ => 0
def BX9_hurt : Nat → List MI
  | 0 => [(.aload 0, [], 0), (.iload 1, [], 0), (.invokevirtual 159, [120, 2], 0), (.ifCond .ne 13, [1], 0), (.invokedynamic 3, [2, 106, 228, 110, 0], 0)]
  | 1 => [(.iload 2, [], 0), (.sipush 1, [], 0), (.if_icmp .lt 8, [2], 0), (.iload 2, [], 0), (.sipush 3, [], 0), (.if_icmp .le 13, [3], 0), (.invokedynamic 4, [2], 0)]
  | 2 => [(.invokedynamic 3, [1, 67, 236, 71, 0], 0)]
  | 3 => [(.aload 0, [], 0), (.getfield 49, [9, 7, 2], 0), (.getfield 142, [3, 0, 2], 0), (.iload 1, [], 0), (.iload 2, [], 0), (.invokevirtual 238, [63, 3], 0), (.pop, [], 0), (.aload 0, [], 0), (.getfield 49, [9, 7, 2], 0), (.getfield 142, [3, 0, 2], 0), (.getfield 177, [7, 5, 2], 0), (.iload 1, [], 0), (.iaload, [], 0), (.ireturn, [0], 0)]
  | _ => []
def PX9_hurt : Nat → Nat
  | 0 => 0
  | 1 => 18
  | 2 => 28
  | 3 => 38
  | _ => 0
def BX9_mend : Nat → List MI
  | 0 => [(.aload 0, [], 0), (.iload 1, [], 0), (.invokevirtual 159, [120, 2], 0), (.ifCond .ne 13, [1], 0), (.invokedynamic 3, [2, 106, 228, 110, 0], 0)]
  | 1 => [(.aload 0, [], 0), (.getfield 49, [9, 7, 2], 0), (.getfield 142, [3, 0, 2], 0), (.iload 1, [], 0), (.invokevirtual 242, [64, 2], 0), (.ifCond .ne 13, [2], 0), (.invokedynamic 3, [0, 56, 245, 60, 0], 0)]
  | 2 => [(.aload 0, [], 0), (.getfield 49, [9, 7, 2], 0), (.getfield 142, [3, 0, 2], 0), (.getfield 177, [7, 5, 2], 0), (.iload 1, [], 0), (.iaload, [], 0), (.ireturn, [0], 0)]
  | _ => []
def PX9_mend : Nat → Nat
  | 0 => 0
  | 1 => 18
  | 2 => 42
  | _ => 0
def BX9_tell : Nat → List MI
  | 0 => [(.aload 0, [], 0), (.iload 1, [], 0), (.invokevirtual 132, [119, 2], 0), (.ifCond .eq 11, [1], 0), (.aload 0, [], 0), (.iload 2, [], 0), (.invokevirtual 195, [121, 2], 0), (.ifCond .ne 13, [2], 0), (.invokedynamic 4, [1], 0)]
  | 1 => [(.invokedynamic 3, [2, 106, 215, 110, 0], 0)]
  | 2 => [(.aload 0, [], 0), (.getfield 49, [9, 7, 2], 0), (.iload 1, [], 0), (.iload 2, [], 0), (.invokevirtual 247, [15, 3], 0), (.ifCond .ne 13, [3], 0), (.invokedynamic 3, [0, 56, 250, 60, 0], 0)]
  | 3 => [(.aload 0, [], 0), (.getfield 49, [9, 7, 2], 0), (.iload 2, [], 0), (.invokevirtual 209, [16, 2], 0), (.ireturn, [0], 0)]
  | _ => []
def PX9_tell : Nat → Nat
  | 0 => 0
  | 1 => 16
  | 2 => 26
  | 3 => 48
  | _ => 0
def BX9_setMiles : Nat → List MI
  | 0 => [(.aload 0, [], 0), (.iload 1, [], 0), (.invokevirtual 159, [120, 2], 0), (.ifCond .ne 13, [1], 0), (.invokedynamic 3, [2, 106, 228, 110, 0], 0)]
  | 1 => [(.iload 2, [], 0), (.sipush 1, [], 0), (.if_icmp .lt 9, [2], 0), (.iload 2, [], 0), (.sipush 30, [], 0), (.if_icmp .le 13, [3], 0), (.invokedynamic 4, [2], 0)]
  | 2 => [(.invokedynamic 3, [1, 67, 252, 71, 0], 0)]
  | 3 => [(.aload 0, [], 0), (.getfield 49, [9, 7, 2], 0), (.getfield 142, [3, 0, 2], 0), (.getfield 174, [7, 4, 2], 0), (.iload 1, [], 0), (.iaload, [], 0), (.istore 3, [], 0), (.aload 0, [], 0), (.getfield 49, [9, 7, 2], 0), (.getfield 142, [3, 0, 2], 0), (.iload 1, [], 0), (.iload 2, [], 0), (.aload 0, [], 0), (.getfield 49, [9, 7, 2], 0), (.getfield 142, [3, 0, 2], 0), (.getfield 177, [7, 5, 2], 0), (.iload 1, [], 0), (.iaload, [], 0), (.invokevirtual 254, [61, 4], 0), (.iload 3, [], 0), (.ireturn, [0], 0)]
  | _ => []
def PX9_setMiles : Nat → Nat
  | 0 => 0
  | 1 => 18
  | 2 => 29
  | 3 => 39
  | _ => 0
def BX9_pass : Nat → List MI
  | 0 => [(.iload 1, [], 0), (.sipush 1, [], 0), (.if_icmp .lt 9, [1], 0), (.iload 1, [], 0), (.sipush 100, [], 0), (.if_icmp .le 14, [2], 0), (.invokedynamic 4, [1], 0)]
  | 1 => [(.invokedynamic 3, [1, 67, 258, 71, 1], 0)]
  | 2 => [(.aload 0, [], 0), (.getfield 49, [9, 7, 2], 0), (.iload 1, [], 0), (.invokevirtual 260, [22, 2], 0), (.ireturn, [0], 0)]
  | _ => []
def PX9_pass : Nat → Nat
  | 0 => 0
  | 1 => 11
  | 2 => 22
  | _ => 0
def BX9_foresee : Nat → List MI
  | 0 => [(.iload 1, [], 0), (.sipush 1, [], 0), (.if_icmp .lt 9, [1], 0), (.iload 1, [], 0), (.sipush 100, [], 0), (.if_icmp .le 14, [2], 0), (.invokedynamic 4, [1], 0)]
  | 1 => [(.invokedynamic 3, [1, 67, 258, 71, 1], 0)]
  | 2 => [(.iload 2, [], 0), (.sipush 5, [], 0), (.if_icmp .lt 9, [3], 0), (.iload 2, [], 0), (.sipush 13, [], 0), (.if_icmp .le 13, [4], 0), (.invokedynamic 4, [3], 0)]
  | 3 => [(.invokedynamic 3, [2, 106, 108, 110, 0], 0)]
  | 4 => [(.aload 0, [], 0), (.getfield 53, [9, 8, 2], 0), (.aload 0, [], 0), (.getfield 49, [9, 7, 2], 0), (.invokevirtual 265, [12, 2], 0), (.aload 0, [], 0), (.getfield 53, [9, 8, 2], 0), (.iload 1, [], 0), (.invokevirtual 260, [22, 2], 0), (.pop, [], 0), (.aload 0, [], 0), (.getfield 53, [9, 8, 2], 0), (.iload 2, [], 0), (.invokevirtual 129, [21, 2], 0), (.ireturn, [0], 0)]
  | _ => []
def PX9_foresee : Nat → Nat
  | 0 => 0
  | 1 => 11
  | 2 => 22
  | 3 => 33
  | 4 => 43
  | _ => 0
def BX9_best : Nat → List MI
  | 0 => [(.aload 0, [], 0), (.getfield 53, [9, 8, 2], 0), (.aload 0, [], 0), (.getfield 49, [9, 7, 2], 0), (.invokevirtual 265, [12, 2], 0), (.aload 0, [], 0), (.getfield 53, [9, 8, 2], 0), (.getfield 142, [3, 0, 2], 0), (.astore 1, [], 0), (.sipush (-1), [], 0), (.istore 2, [], 0), (.sipush 0, [], 0), (.istore 3, [], 0), (.sipush 0, [], 0), (.istore 4, [], 0), (.sipush 0, [], 0), (.istore 5, [], 0), (.invokedynamic 4, [1], 0)]
  | 1 => [(.iload 5, [], 0), (.aload 1, [], 0), (.getfield 276, [7, 1, 0], 0), (.if_icmp .ge 88, [5], 0), (.aload 1, [], 0), (.getfield 177, [7, 5, 2], 0), (.iload 5, [], 0), (.iaload, [], 0), (.istore 6, [], 0), (.aload 1, [], 0), (.iload 5, [], 0), (.invokevirtual 242, [64, 2], 0), (.ifCond .eq 64, [4], 0), (.aload 1, [], 0), (.invokevirtual 279, [81, 1], 0), (.istore 7, [], 0), (.aload 1, [], 0), (.invokevirtual 283, [80, 1], 0), (.istore 8, [], 0), (.iload 2, [], 0), (.sipush (-1), [], 0), (.if_icmp .eq 22, [2], 0), (.iload 7, [], 0), (.iload 3, [], 0), (.if_icmp .lt 16, [2], 0), (.iload 7, [], 0), (.iload 3, [], 0), (.if_icmp .ne 20, [3], 0), (.iload 8, [], 0), (.iload 4, [], 0), (.if_icmp .ge 13, [3], 0), (.invokedynamic 4, [2], 0)]
  | 2 => [(.iload 5, [], 0), (.istore 2, [], 0), (.iload 7, [], 0), (.istore 3, [], 0), (.iload 8, [], 0), (.istore 4, [], 0), (.invokedynamic 4, [3], 0)]
  | 3 => [(.aload 1, [], 0), (.iload 5, [], 0), (.aload 1, [], 0), (.getfield 174, [7, 4, 2], 0), (.iload 5, [], 0), (.iaload, [], 0), (.iload 6, [], 0), (.invokevirtual 254, [61, 4], 0), (.invokedynamic 4, [4], 0)]
  | 4 => [(.iinc 5 1, [], 0), (.goto (-91), [1], 0)]
  | 5 => [(.iload 2, [], 0), (.ireturn, [0], 0)]
  | _ => []
def PX9_best : Nat → Nat
  | 0 => 0
  | 1 => 29
  | 2 => 92
  | 3 => 102
  | 4 => 117
  | 5 => 123
  | _ => 0
def BX9_mean : Nat → List MI
  | 0 => [(.aload 0, [], 0), (.getfield 49, [9, 7, 2], 0), (.getfield 142, [3, 0, 2], 0), (.astore 1, [], 0), (.aload 1, [], 0), (.invokevirtual 286, [66, 1], 0), (.istore 2, [], 0), (.iload 2, [], 0), (.ifCond .ne 7, [1], 0), (.dconst 0, [], 0), (.goto 11, [2], 0)]
  | 1 => [(.aload 1, [], 0), (.invokevirtual 289, [67, 1], 0), (.i2d, [], 0), (.iload 2, [], 0), (.i2d, [], 0), (.ddiv, [], 0), (.invokedynamic 4, [2], 0)]
  | 2 => [(.dreturn, [], 0)]
  | _ => []
def PX9_mean : Nat → Nat
  | 0 => 0
  | 1 => 21
  | 2 => 29
  | _ => 0
def BX9_digest : Nat → List MI
  | 0 => [(.ldc2_w 292, [], 1697), (.lstore 1, [], 0), (.sipush 0, [], 0), (.istore 3, [], 0), (.invokedynamic 4, [1], 0)]
  | 1 => [(.iload 3, [], 0), (.sipush 15, [], 0), (.if_icmp .ge 22, [2], 0), (.lload 1, [], 0), (.ldc2_w 294, [], 31), (.lmul, [], 0), (.aload 0, [], 0), (.iload 3, [], 0), (.invokevirtual 111, [111, 2], 0), (.i2l, [], 0), (.ladd, [], 0), (.lstore 1, [], 0), (.iinc 3 1, [], 0), (.goto (-22), [1], 0)]
  | 2 => [(.aload 0, [], 0), (.lload 1, [], 0), (.invokevirtual 296, [138, 2], 0), (.lstore 1, [], 0), (.aload 0, [], 0), (.lload 1, [], 0), (.invokevirtual 300, [139, 2], 0), (.lstore 1, [], 0), (.sipush 0, [], 0), (.istore 3, [], 0), (.invokedynamic 4, [3], 0)]
  | 3 => [(.iload 3, [], 0), (.aload 0, [], 0), (.getfield 23, [9, 3, 2], 0), (.getfield 123, [5, 5, 0], 0), (.if_icmp .ge 39, [6], 0), (.sipush 0, [], 0), (.istore 4, [], 0), (.invokedynamic 4, [4], 0)]
  | 4 => [(.iload 4, [], 0), (.sipush 4, [], 0), (.if_icmp .ge 24, [5], 0), (.lload 1, [], 0), (.ldc2_w 294, [], 31), (.lmul, [], 0), (.aload 0, [], 0), (.iload 3, [], 0), (.iload 4, [], 0), (.invokevirtual 200, [117, 3], 0), (.i2l, [], 0), (.ladd, [], 0), (.lstore 1, [], 0), (.iinc 4 1, [], 0), (.goto (-24), [4], 0)]
  | 5 => [(.iinc 3 1, [], 0), (.goto (-44), [3], 0)]
  | 6 => [(.lload 1, [], 0), (.lreturn, [], 0)]
  | _ => []
def PX9_digest : Nat → Nat
  | 0 => 0
  | 1 => 6
  | 2 => 31
  | 3 => 45
  | 4 => 59
  | 5 => 86
  | 6 => 92
  | _ => 0
def BX9_digestTaverns : Nat → List MI
  | 0 => [(.lload 1, [], 0), (.lstore 3, [], 0), (.sipush 0, [], 0), (.istore 5, [], 0), (.invokedynamic 4, [1], 0)]
  | 1 => [(.iload 5, [], 0), (.aload 0, [], 0), (.getfield 23, [9, 3, 2], 0), (.getfield 117, [5, 3, 0], 0), (.if_icmp .ge 80, [6], 0), (.sipush 0, [], 0), (.istore 6, [], 0), (.invokedynamic 4, [2], 0)]
  | 2 => [(.iload 6, [], 0), (.sipush 4, [], 0), (.if_icmp .ge 25, [3], 0), (.lload 3, [], 0), (.ldc2_w 294, [], 31), (.lmul, [], 0), (.aload 0, [], 0), (.iload 5, [], 0), (.iload 6, [], 0), (.invokevirtual 138, [113, 3], 0), (.i2l, [], 0), (.ladd, [], 0), (.lstore 3, [], 0), (.iinc 6 1, [], 0), (.goto (-25), [2], 0)]
  | 3 => [(.sipush 0, [], 0), (.istore 6, [], 0), (.invokedynamic 4, [4], 0)]
  | 4 => [(.iload 6, [], 0), (.aload 0, [], 0), (.getfield 23, [9, 3, 2], 0), (.getfield 123, [5, 5, 0], 0), (.if_icmp .ge 28, [5], 0), (.lload 3, [], 0), (.ldc2_w 294, [], 31), (.lmul, [], 0), (.aload 0, [], 0), (.getfield 49, [9, 7, 2], 0), (.iload 5, [], 0), (.iload 6, [], 0), (.invokevirtual 217, [13, 3], 0), (.i2l, [], 0), (.ladd, [], 0), (.lstore 3, [], 0), (.iinc 6 1, [], 0), (.goto (-34), [4], 0)]
  | 5 => [(.iinc 5 1, [], 0), (.goto (-86), [1], 0)]
  | 6 => [(.lload 3, [], 0), (.lreturn, [], 0)]
  | _ => []
def PX9_digestTaverns : Nat → Nat
  | 0 => 0
  | 1 => 5
  | 2 => 20
  | 3 => 48
  | 4 => 51
  | 5 => 88
  | 6 => 94
  | _ => 0
def BX9_digestRoads : Nat → List MI
  | 0 => [(.lload 1, [], 0), (.lstore 3, [], 0), (.sipush 0, [], 0), (.istore 5, [], 0), (.invokedynamic 4, [1], 0)]
  | 1 => [(.iload 5, [], 0), (.aload 0, [], 0), (.getfield 23, [9, 3, 2], 0), (.getfield 120, [5, 4, 0], 0), (.if_icmp .ge 81, [4], 0), (.sipush 0, [], 0), (.istore 6, [], 0), (.invokedynamic 4, [2], 0)]
  | 2 => [(.iload 6, [], 0), (.sipush 9, [], 0), (.if_icmp .ge 25, [3], 0), (.lload 3, [], 0), (.ldc2_w 294, [], 31), (.lmul, [], 0), (.aload 0, [], 0), (.iload 5, [], 0), (.iload 6, [], 0), (.invokevirtual 164, [115, 3], 0), (.i2l, [], 0), (.ladd, [], 0), (.lstore 3, [], 0), (.iinc 6 1, [], 0), (.goto (-26), [2], 0)]
  | 3 => [(.lload 3, [], 0), (.ldc2_w 294, [], 31), (.lmul, [], 0), (.aload 0, [], 0), (.getfield 49, [9, 7, 2], 0), (.getfield 142, [3, 0, 2], 0), (.iload 5, [], 0), (.invokevirtual 230, [76, 2], 0), (.i2l, [], 0), (.ladd, [], 0), (.lstore 3, [], 0), (.lload 3, [], 0), (.ldc2_w 294, [], 31), (.lmul, [], 0), (.aload 0, [], 0), (.getfield 49, [9, 7, 2], 0), (.getfield 142, [3, 0, 2], 0), (.iload 5, [], 0), (.invokevirtual 233, [82, 2], 0), (.i2l, [], 0), (.ladd, [], 0), (.lstore 3, [], 0), (.iinc 5 1, [], 0), (.goto (-87), [1], 0)]
  | 4 => [(.lload 3, [], 0), (.lreturn, [], 0)]
  | _ => []
def PX9_digestRoads : Nat → Nat
  | 0 => 0
  | 1 => 5
  | 2 => 20
  | 3 => 49
  | 4 => 95
  | _ => 0
def BJx35411_checkForComodification_da8c8 : Nat → List MI
  | 0 => [(.aload 0, [], 0), (.getfield 1, [0, 3, 2], 0), (.getfield 17, [12, 0, 0], 0), (.aload 0, [], 0), (.getfield 22, [0, 2, 0], 0), (.if_icmp .eq 11, [1], 0), (.invokedynamic 9, [], 0)]
  | 1 => [(.return_, [], 0)]
  | _ => []
def PJx35411_checkForComodification_da8c8 : Nat → Nat
  | 0 => 0
  | 1 => 22
  | _ => 0
def BJx35411_hasNext_aae02 : Nat → List MI
  | 0 => [(.aload 0, [], 0), (.getfield 25, [0, 0, 0], 0), (.aload 0, [], 0), (.getfield 1, [0, 3, 2], 0), (.getfield 28, [12, 2, 0], 0), (.if_icmp .eq 7, [1], 0), (.sipush 1, [], 0), (.goto 4, [2], 0)]
  | 1 => [(.sipush 0, [], 0), (.invokedynamic 4, [2], 0)]
  | 2 => [(.ireturn, [1], 0)]
  | _ => []
def PJx35411_hasNext_aae02 : Nat → Nat
  | 0 => 0
  | 1 => 18
  | 2 => 19
  | _ => 0
def BJx35411_init_45d68 : Nat → List MI
  | 0 => [(.aload 0, [], 0), (.aload 1, [], 0), (.putfield 1, [0, 3, 2], 0), (.aload 0, [], 0), (.invokedynamic 5, [7], 0), (.aload 0, [], 0), (.sipush (-1), [], 0), (.putfield 13, [0, 1, 0], 0), (.aload 0, [], 0), (.aload 0, [], 0), (.getfield 1, [0, 3, 2], 0), (.getfield 17, [12, 0, 0], 0), (.putfield 22, [0, 2, 0], 0), (.return_, [], 0)]
  | _ => []
def PJx35411_init_45d68 : Nat → Nat
  | 0 => 0
  | _ => 0
def BJx35411_next_0502b : Nat → List MI
  | 0 => [(.aload 0, [], 0), (.invokevirtual 31, [190, 1], 0), (.aload 0, [], 0), (.getfield 25, [0, 0, 0], 0), (.istore 1, [], 0), (.iload 1, [], 0), (.aload 0, [], 0), (.getfield 1, [0, 3, 2], 0), (.getfield 28, [12, 2, 0], 0), (.if_icmp .lt 11, [1], 0), (.invokedynamic 9, [], 0)]
  | 1 => [(.aload 0, [], 0), (.getfield 1, [0, 3, 2], 0), (.getfield 37, [12, 1, 2], 0), (.astore 2, [], 0), (.iload 1, [], 0), (.aload 2, [], 0), (.arraylength, [], 0), (.if_icmp .lt 11, [2], 0), (.invokedynamic 9, [], 0)]
  | 2 => [(.aload 0, [], 0), (.iload 1, [], 0), (.sipush 1, [], 0), (.iadd, [], 0), (.putfield 25, [0, 0, 0], 0), (.aload 2, [], 0), (.aload 0, [], 0), (.iload 1, [], 0), (.dup_x1, [], 0), (.putfield 13, [0, 1, 0], 0), (.aaload, [], 0), (.areturn, [], 0)]
  | _ => []
def PJx35411_next_0502b : Nat → Nat
  | 0 => 0
  | 1 => 28
  | 2 => 50
  | _ => 0
def BX3_has : Nat → List MI
  | 0 => [(.iload 1, [], 0), (.ifCond .lt 33, [1], 0), (.iload 1, [], 0), (.aload 0, [], 0), (.getfield 61, [3, 2, 2], 0), (.getfield 85, [5, 3, 0], 0), (.if_icmp .ge 22, [1], 0), (.iload 2, [], 0), (.ifCond .lt 18, [1], 0), (.iload 2, [], 0), (.aload 0, [], 0), (.getfield 61, [3, 2, 2], 0), (.getfield 90, [5, 5, 0], 0), (.if_icmp .ge 7, [1], 0), (.sipush 1, [], 0), (.goto 4, [2], 0)]
  | 1 => [(.sipush 0, [], 0), (.invokedynamic 4, [2], 0)]
  | 2 => [(.ireturn, [1], 0)]
  | _ => []
def PX3_has : Nat → Nat
  | 0 => 0
  | 1 => 34
  | 2 => 35
  | _ => 0
def BX7_has : Nat → List MI
  | 0 => [(.iload 1, [], 0), (.ifCond .lt 15, [1], 0), (.iload 1, [], 0), (.aload 0, [], 0), (.getfield 15, [7, 1, 0], 0), (.if_icmp .ge 7, [1], 0), (.sipush 1, [], 0), (.goto 4, [2], 0)]
  | 1 => [(.sipush 0, [], 0), (.invokedynamic 4, [2], 0)]
  | 2 => [(.ireturn, [1], 0)]
  | _ => []
def PX7_has : Nat → Nat
  | 0 => 0
  | 1 => 16
  | 2 => 17
  | _ => 0
def BX7_lengthOf : Nat → List MI
  | 0 => [(.aload 0, [], 0), (.iload 1, [], 0), (.invokevirtual 89, [285, 2], 0), (.ifCond .eq 12, [1], 0), (.aload 0, [], 0), (.getfield 31, [7, 6, 2], 0), (.iload 1, [], 0), (.iaload, [], 0), (.goto 4, [2], 0)]
  | 1 => [(.sipush 0, [], 0), (.invokedynamic 4, [2], 0)]
  | 2 => [(.ireturn, [0], 0)]
  | _ => []
def PX7_lengthOf : Nat → Nat
  | 0 => 0
  | 1 => 17
  | 2 => 18
  | _ => 0
def BX7_woundsOf : Nat → List MI
  | 0 => [(.aload 0, [], 0), (.iload 1, [], 0), (.invokevirtual 89, [285, 2], 0), (.ifCond .eq 12, [1], 0), (.aload 0, [], 0), (.getfield 28, [7, 5, 2], 0), (.iload 1, [], 0), (.iaload, [], 0), (.goto 4, [2], 0)]
  | 1 => [(.sipush 0, [], 0), (.invokedynamic 4, [2], 0)]
  | 2 => [(.ireturn, [0], 0)]
  | _ => []
def PX7_woundsOf : Nat → Nat
  | 0 => 0
  | 1 => 17
  | 2 => 18
  | _ => 0
