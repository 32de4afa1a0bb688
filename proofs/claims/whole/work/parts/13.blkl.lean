/-! ===== BLOCKS of the methods, by program out of the claim's own listing: the law, the library ===== -/
def BL_feed : Nat → List MI
  | 0 => [(.aload 6, [], 0), (.sipush 0, [], 0), (.aload 0, [], 0), (.iload 1, [], 0), (.iload 2, [], 0), (.iload 3, [], 0), (.iload 4, [], 0), (.iload 5, [], 0), (.invokevirtual 7, [105, 6, 0, 1], 0), (.i2l, [], 0), (.lastore, [], 0), (.goto 7, [2], 0)]
  | 1 => [(.astore 7, [], 0), (.sipush 1, [], 0), (.ireturn, [0], 0)]
  | 2 => [(.sipush 0, [], 0), (.ireturn, [0], 0)]
  | _ => []
def PL_feed : Nat → Nat
  | 0 => 0
  | 1 => 19
  | 2 => 23
  | _ => 0
def BL_trim : Nat → List MI
  | 0 => [(.aload 2, [], 0), (.sipush 0, [], 0), (.aload 0, [], 0), (.iload 1, [], 0), (.invokevirtual 15, [107, 2, 1, 1], 0), (.i2l, [], 0), (.lastore, [], 0), (.goto 6, [2], 0)]
  | 1 => [(.astore 3, [], 0), (.sipush 1, [], 0), (.ireturn, [0], 0)]
  | 2 => [(.sipush 0, [], 0), (.ireturn, [0], 0)]
  | _ => []
def PL_trim : Nat → Nat
  | 0 => 0
  | 1 => 12
  | 2 => 15
  | _ => 0
def BL_count : Nat → List MI
  | 0 => [(.aload 2, [], 0), (.sipush 0, [], 0), (.aload 0, [], 0), (.iload 1, [], 0), (.invokevirtual 21, [110, 2, 2, 1], 0), (.i2l, [], 0), (.lastore, [], 0), (.goto 6, [2], 0)]
  | 1 => [(.astore 3, [], 0), (.sipush 1, [], 0), (.ireturn, [0], 0)]
  | 2 => [(.sipush 0, [], 0), (.ireturn, [0], 0)]
  | _ => []
def PL_count : Nat → Nat
  | 0 => 0
  | 1 => 12
  | 2 => 15
  | _ => 0
def BL_tavern : Nat → List MI
  | 0 => [(.aload 3, [], 0), (.sipush 0, [], 0), (.aload 0, [], 0), (.iload 1, [], 0), (.iload 2, [], 0), (.invokevirtual 26, [112, 3, 2, 1], 0), (.i2l, [], 0), (.lastore, [], 0), (.goto 7, [2], 0)]
  | 1 => [(.astore 4, [], 0), (.sipush 1, [], 0), (.ireturn, [0], 0)]
  | 2 => [(.sipush 0, [], 0), (.ireturn, [0], 0)]
  | _ => []
def PL_tavern : Nat → Nat
  | 0 => 0
  | 1 => 13
  | 2 => 17
  | _ => 0
def BL_road : Nat → List MI
  | 0 => [(.aload 3, [], 0), (.sipush 0, [], 0), (.aload 0, [], 0), (.iload 1, [], 0), (.iload 2, [], 0), (.invokevirtual 30, [114, 3, 2, 1], 0), (.i2l, [], 0), (.lastore, [], 0), (.goto 7, [2], 0)]
  | 1 => [(.astore 4, [], 0), (.sipush 1, [], 0), (.ireturn, [0], 0)]
  | 2 => [(.sipush 0, [], 0), (.ireturn, [0], 0)]
  | _ => []
def PL_road : Nat → Nat
  | 0 => 0
  | 1 => 13
  | 2 => 17
  | _ => 0
def BL_rumour : Nat → List MI
  | 0 => [(.aload 3, [], 0), (.sipush 0, [], 0), (.aload 0, [], 0), (.iload 1, [], 0), (.iload 2, [], 0), (.invokevirtual 33, [116, 3, 2, 1], 0), (.i2l, [], 0), (.lastore, [], 0), (.goto 7, [2], 0)]
  | 1 => [(.astore 4, [], 0), (.sipush 1, [], 0), (.ireturn, [0], 0)]
  | 2 => [(.sipush 0, [], 0), (.ireturn, [0], 0)]
  | _ => []
def PL_rumour : Nat → Nat
  | 0 => 0
  | 1 => 13
  | 2 => 17
  | _ => 0
def BL_since : Nat → List MI
  | 0 => [(.aload 3, [], 0), (.sipush 0, [], 0), (.aload 0, [], 0), (.iload 1, [], 0), (.iload 2, [], 0), (.invokevirtual 36, [118, 3, 2, 1], 0), (.i2l, [], 0), (.lastore, [], 0), (.goto 7, [2], 0)]
  | 1 => [(.astore 4, [], 0), (.sipush 1, [], 0), (.ireturn, [0], 0)]
  | 2 => [(.sipush 0, [], 0), (.ireturn, [0], 0)]
  | _ => []
def PL_since : Nat → Nat
  | 0 => 0
  | 1 => 13
  | 2 => 17
  | _ => 0
def BL_far : Nat → List MI
  | 0 => [(.aload 3, [], 0), (.sipush 0, [], 0), (.aload 0, [], 0), (.iload 1, [], 0), (.iload 2, [], 0), (.invokevirtual 39, [122, 3, 2, 1], 0), (.i2l, [], 0), (.lastore, [], 0), (.goto 7, [2], 0)]
  | 1 => [(.astore 4, [], 0), (.sipush 1, [], 0), (.ireturn, [0], 0)]
  | 2 => [(.sipush 0, [], 0), (.ireturn, [0], 0)]
  | _ => []
def PL_far : Nat → Nat
  | 0 => 0
  | 1 => 13
  | 2 => 17
  | _ => 0
def BL_step : Nat → List MI
  | 0 => [(.aload 3, [], 0), (.sipush 0, [], 0), (.aload 0, [], 0), (.iload 1, [], 0), (.iload 2, [], 0), (.invokevirtual 42, [123, 3, 2, 1], 0), (.i2l, [], 0), (.lastore, [], 0), (.goto 7, [2], 0)]
  | 1 => [(.astore 4, [], 0), (.sipush 1, [], 0), (.ireturn, [0], 0)]
  | 2 => [(.sipush 0, [], 0), (.ireturn, [0], 0)]
  | _ => []
def PL_step : Nat → Nat
  | 0 => 0
  | 1 => 13
  | 2 => 17
  | _ => 0
def BL_detour : Nat → List MI
  | 0 => [(.aload 2, [], 0), (.sipush 0, [], 0), (.aload 0, [], 0), (.iload 1, [], 0), (.invokevirtual 45, [124, 2, 2, 1], 0), (.i2l, [], 0), (.lastore, [], 0), (.goto 6, [2], 0)]
  | 1 => [(.astore 3, [], 0), (.sipush 1, [], 0), (.ireturn, [0], 0)]
  | 2 => [(.sipush 0, [], 0), (.ireturn, [0], 0)]
  | _ => []
def PL_detour : Nat → Nat
  | 0 => 0
  | 1 => 12
  | 2 => 15
  | _ => 0
def BL_replace : Nat → List MI
  | 0 => [(.aload 2, [], 0), (.sipush 0, [], 0), (.aload 0, [], 0), (.iload 1, [], 0), (.invokevirtual 48, [125, 2, 2, 1], 0), (.i2l, [], 0), (.lastore, [], 0), (.goto 6, [2], 0)]
  | 1 => [(.astore 3, [], 0), (.sipush 1, [], 0), (.ireturn, [0], 0)]
  | 2 => [(.sipush 0, [], 0), (.ireturn, [0], 0)]
  | _ => []
def PL_replace : Nat → Nat
  | 0 => 0
  | 1 => 12
  | 2 => 15
  | _ => 0
def BL_hurt : Nat → List MI
  | 0 => [(.aload 3, [], 0), (.sipush 0, [], 0), (.aload 0, [], 0), (.iload 1, [], 0), (.iload 2, [], 0), (.invokevirtual 51, [126, 3, 2, 1, 1, 2], 0), (.i2l, [], 0), (.lastore, [], 0), (.goto 11, [3], 0)]
  | 1 => [(.astore 4, [], 0), (.sipush 1, [], 0), (.ireturn, [0], 0)]
  | 2 => [(.astore 4, [], 0), (.sipush 2, [], 0), (.ireturn, [0], 0)]
  | 3 => [(.sipush 0, [], 0), (.ireturn, [0], 0)]
  | _ => []
def PL_hurt : Nat → Nat
  | 0 => 0
  | 1 => 13
  | 2 => 17
  | 3 => 21
  | _ => 0
def BL_mend : Nat → List MI
  | 0 => [(.aload 2, [], 0), (.sipush 0, [], 0), (.aload 0, [], 0), (.iload 1, [], 0), (.invokevirtual 54, [127, 2, 2, 1, 0, 2], 0), (.i2l, [], 0), (.lastore, [], 0), (.goto 9, [3], 0)]
  | 1 => [(.astore 3, [], 0), (.sipush 1, [], 0), (.ireturn, [0], 0)]
  | 2 => [(.astore 3, [], 0), (.sipush 2, [], 0), (.ireturn, [0], 0)]
  | 3 => [(.sipush 0, [], 0), (.ireturn, [0], 0)]
  | _ => []
def PL_mend : Nat → Nat
  | 0 => 0
  | 1 => 12
  | 2 => 15
  | 3 => 18
  | _ => 0
def BL_tell : Nat → List MI
  | 0 => [(.aload 3, [], 0), (.sipush 0, [], 0), (.aload 0, [], 0), (.iload 1, [], 0), (.iload 2, [], 0), (.invokevirtual 57, [128, 3, 2, 1, 0, 2], 0), (.i2l, [], 0), (.lastore, [], 0), (.goto 11, [3], 0)]
  | 1 => [(.astore 4, [], 0), (.sipush 1, [], 0), (.ireturn, [0], 0)]
  | 2 => [(.astore 4, [], 0), (.sipush 2, [], 0), (.ireturn, [0], 0)]
  | 3 => [(.sipush 0, [], 0), (.ireturn, [0], 0)]
  | _ => []
def PL_tell : Nat → Nat
  | 0 => 0
  | 1 => 13
  | 2 => 17
  | 3 => 21
  | _ => 0
def BL_setMiles : Nat → List MI
  | 0 => [(.aload 3, [], 0), (.sipush 0, [], 0), (.aload 0, [], 0), (.iload 1, [], 0), (.iload 2, [], 0), (.invokevirtual 60, [129, 3, 2, 1, 1, 2], 0), (.i2l, [], 0), (.lastore, [], 0), (.goto 11, [3], 0)]
  | 1 => [(.astore 4, [], 0), (.sipush 1, [], 0), (.ireturn, [0], 0)]
  | 2 => [(.astore 4, [], 0), (.sipush 2, [], 0), (.ireturn, [0], 0)]
  | 3 => [(.sipush 0, [], 0), (.ireturn, [0], 0)]
  | _ => []
def PL_setMiles : Nat → Nat
  | 0 => 0
  | 1 => 13
  | 2 => 17
  | 3 => 21
  | _ => 0
def BL_pass : Nat → List MI
  | 0 => [(.aload 2, [], 0), (.sipush 0, [], 0), (.aload 0, [], 0), (.iload 1, [], 0), (.invokevirtual 63, [130, 2, 1, 1], 0), (.i2l, [], 0), (.lastore, [], 0), (.goto 6, [2], 0)]
  | 1 => [(.astore 3, [], 0), (.sipush 1, [], 0), (.ireturn, [0], 0)]
  | 2 => [(.sipush 0, [], 0), (.ireturn, [0], 0)]
  | _ => []
def PL_pass : Nat → Nat
  | 0 => 0
  | 1 => 12
  | 2 => 15
  | _ => 0
def BL_until : Nat → List MI
  | 0 => [(.aload 2, [], 0), (.sipush 0, [], 0), (.aload 0, [], 0), (.iload 1, [], 0), (.invokevirtual 66, [131, 2, 2, 1], 0), (.i2l, [], 0), (.lastore, [], 0), (.goto 6, [2], 0)]
  | 1 => [(.astore 3, [], 0), (.sipush 1, [], 0), (.ireturn, [0], 0)]
  | 2 => [(.sipush 0, [], 0), (.ireturn, [0], 0)]
  | _ => []
def PL_until : Nat → Nat
  | 0 => 0
  | 1 => 12
  | 2 => 15
  | _ => 0
def BL_foresee : Nat → List MI
  | 0 => [(.aload 3, [], 0), (.sipush 0, [], 0), (.aload 0, [], 0), (.iload 1, [], 0), (.iload 2, [], 0), (.invokevirtual 69, [132, 3, 1, 1, 2, 2], 0), (.i2l, [], 0), (.lastore, [], 0), (.goto 11, [3], 0)]
  | 1 => [(.astore 4, [], 0), (.sipush 1, [], 0), (.ireturn, [0], 0)]
  | 2 => [(.astore 4, [], 0), (.sipush 2, [], 0), (.ireturn, [0], 0)]
  | 3 => [(.sipush 0, [], 0), (.ireturn, [0], 0)]
  | _ => []
def PL_foresee : Nat → Nat
  | 0 => 0
  | 1 => 13
  | 2 => 17
  | 3 => 21
  | _ => 0
def BL_advise : Nat → List MI
  | 0 => [(.aload 3, [], 0), (.sipush 0, [], 0), (.aload 0, [], 0), (.iload 1, [], 0), (.iload 2, [], 0), (.invokevirtual 72, [133, 3, 2, 1, 1, 2], 0), (.i2l, [], 0), (.lastore, [], 0), (.goto 11, [3], 0)]
  | 1 => [(.astore 4, [], 0), (.sipush 1, [], 0), (.ireturn, [0], 0)]
  | 2 => [(.astore 4, [], 0), (.sipush 2, [], 0), (.ireturn, [0], 0)]
  | 3 => [(.sipush 0, [], 0), (.ireturn, [0], 0)]
  | _ => []
def PL_advise : Nat → Nat
  | 0 => 0
  | 1 => 13
  | 2 => 17
  | 3 => 21
  | _ => 0
def BL_law : Nat → List MI
  | 0 => [(.new 8, [9], 0), (.dup, [], 0), (.invokespecial 75, [104, 1], 0), (.astore 1, [], 0), (.new 76, [12], 0), (.dup, [], 0), (.invokespecial 78, [149, 1], 0), (.astore 2, [], 0), (.sipush 1, [], 0), (.newarray .long, [], 0), (.astore 3, [], 0), (.sipush 0, [], 0), (.istore 4, [], 0), (.invokedynamic 4, [1], 0)]
  | 1 => [(.iload 4, [], 0), (.aload 0, [], 0), (.arraylength, [], 0), (.sipush 6, [], 0), (.isub, [], 0), (.if_icmp .gt 1466, [67], 0), (.aload 0, [], 0), (.iload 4, [], 0), (.iaload, [], 0), (.sipush 31, [], 0), (.iand, [], 0), (.tableswitch 1450 0 23 #[112, 216, 272, 285, 298, 354, 422, 490, 558, 626, 694, 762, 818, 874, 942, 998, 1066, 1134, 1190, 1246, 1314, 1382, 1395, 1436], [66, 2, 5, 8, 9, 10, 13, 16, 19, 22, 25, 28, 31, 34, 37, 40, 43, 46, 49, 52, 55, 58, 61, 62, 65], 0)]
  | 2 => [(.aload 1, [], 0), (.aload 0, [], 0), (.iload 4, [], 0), (.sipush 1, [], 0), (.iadd, [], 0), (.iaload, [], 0), (.aload 0, [], 0), (.iload 4, [], 0), (.sipush 2, [], 0), (.iadd, [], 0), (.iaload, [], 0), (.aload 0, [], 0), (.iload 4, [], 0), (.sipush 3, [], 0), (.iadd, [], 0), (.iaload, [], 0), (.aload 0, [], 0), (.iload 4, [], 0), (.sipush 4, [], 0), (.iadd, [], 0), (.iaload, [], 0), (.aload 0, [], 0), (.iload 4, [], 0), (.sipush 5, [], 0), (.iadd, [], 0), (.iaload, [], 0), (.aload 3, [], 0), (.invokestatic 79, [250, 7], 0), (.istore 5, [], 0), (.aload 2, [], 0), (.aload 0, [], 0), (.iload 4, [], 0), (.sipush 1, [], 0), (.iadd, [], 0), (.iaload, [], 0), (.aload 0, [], 0), (.iload 4, [], 0), (.sipush 2, [], 0), (.iadd, [], 0), (.iaload, [], 0), (.aload 0, [], 0), (.iload 4, [], 0), (.sipush 3, [], 0), (.iadd, [], 0), (.iaload, [], 0), (.aload 0, [], 0), (.iload 4, [], 0), (.sipush 4, [], 0), (.iadd, [], 0), (.iaload, [], 0), (.aload 0, [], 0), (.iload 4, [], 0), (.sipush 5, [], 0), (.iadd, [], 0), (.iaload, [], 0), (.invokevirtual 84, [217, 6], 0), (.istore 6, [], 0), (.aload 2, [], 0), (.invokevirtual 85, [150, 1], 0), (.iload 5, [], 0), (.if_icmp .eq 5, [3], 0), (.sipush 0, [], 0), (.ireturn, [1], 0)]
  | 3 => [(.iload 5, [], 0), (.ifCond .ne 15, [4], 0), (.aload 3, [], 0), (.sipush 0, [], 0), (.laload, [], 0), (.iload 6, [], 0), (.i2l, [], 0), (.lcmp, [], 0), (.ifCond .eq 5, [4], 0), (.sipush 0, [], 0), (.ireturn, [1], 0)]
  | 4 => [(.goto 1237, [66], 0)]
  | 5 => [(.aload 1, [], 0), (.aload 0, [], 0), (.iload 4, [], 0), (.sipush 1, [], 0), (.iadd, [], 0), (.iaload, [], 0), (.aload 3, [], 0), (.invokestatic 89, [251, 3], 0), (.istore 5, [], 0), (.aload 2, [], 0), (.aload 0, [], 0), (.iload 4, [], 0), (.sipush 1, [], 0), (.iadd, [], 0), (.iaload, [], 0), (.invokevirtual 92, [218, 2], 0), (.istore 6, [], 0), (.aload 2, [], 0), (.invokevirtual 85, [150, 1], 0), (.iload 5, [], 0), (.if_icmp .eq 5, [6], 0), (.sipush 0, [], 0), (.ireturn, [1], 0)]
  | 6 => [(.iload 5, [], 0), (.ifCond .ne 15, [7], 0), (.aload 3, [], 0), (.sipush 0, [], 0), (.laload, [], 0), (.iload 6, [], 0), (.i2l, [], 0), (.lcmp, [], 0), (.ifCond .eq 5, [7], 0), (.sipush 0, [], 0), (.ireturn, [1], 0)]
  | 7 => [(.goto 1181, [66], 0)]
  | 8 => [(.aload 1, [], 0), (.invokevirtual 93, [108, 1], 0), (.aload 2, [], 0), (.invokevirtual 96, [221, 1], 0), (.if_icmp .eq 1170, [66], 0), (.sipush 0, [], 0), (.ireturn, [1], 0)]
  | 9 => [(.aload 1, [], 0), (.invokevirtual 97, [109, 1], 0), (.aload 2, [], 0), (.invokevirtual 100, [222, 1], 0), (.if_icmp .eq 1157, [66], 0), (.sipush 0, [], 0), (.ireturn, [1], 0)]
  | 10 => [(.aload 1, [], 0), (.aload 0, [], 0), (.iload 4, [], 0), (.sipush 1, [], 0), (.iadd, [], 0), (.iaload, [], 0), (.aload 3, [], 0), (.invokestatic 101, [252, 3], 0), (.istore 5, [], 0), (.aload 2, [], 0), (.aload 0, [], 0), (.iload 4, [], 0), (.sipush 1, [], 0), (.iadd, [], 0), (.iaload, [], 0), (.invokevirtual 103, [223, 2], 0), (.istore 6, [], 0), (.aload 2, [], 0), (.invokevirtual 85, [150, 1], 0), (.iload 5, [], 0), (.if_icmp .eq 5, [11], 0), (.sipush 0, [], 0), (.ireturn, [1], 0)]
  | 11 => [(.iload 5, [], 0), (.ifCond .ne 15, [12], 0), (.aload 3, [], 0), (.sipush 0, [], 0), (.laload, [], 0), (.iload 6, [], 0), (.i2l, [], 0), (.lcmp, [], 0), (.ifCond .eq 5, [12], 0), (.sipush 0, [], 0), (.ireturn, [1], 0)]
  | 12 => [(.goto 1099, [66], 0)]
  | 13 => [(.aload 1, [], 0), (.aload 0, [], 0), (.iload 4, [], 0), (.sipush 1, [], 0), (.iadd, [], 0), (.iaload, [], 0), (.aload 0, [], 0), (.iload 4, [], 0), (.sipush 2, [], 0), (.iadd, [], 0), (.iaload, [], 0), (.aload 3, [], 0), (.invokestatic 104, [253, 4], 0), (.istore 5, [], 0), (.aload 2, [], 0), (.aload 0, [], 0), (.iload 4, [], 0), (.sipush 1, [], 0), (.iadd, [], 0), (.iaload, [], 0), (.aload 0, [], 0), (.iload 4, [], 0), (.sipush 2, [], 0), (.iadd, [], 0), (.iaload, [], 0), (.invokevirtual 107, [225, 3], 0), (.istore 6, [], 0), (.aload 2, [], 0), (.invokevirtual 85, [150, 1], 0), (.iload 5, [], 0), (.if_icmp .eq 5, [14], 0), (.sipush 0, [], 0), (.ireturn, [1], 0)]
  | 14 => [(.iload 5, [], 0), (.ifCond .ne 15, [15], 0), (.aload 3, [], 0), (.sipush 0, [], 0), (.laload, [], 0), (.iload 6, [], 0), (.i2l, [], 0), (.lcmp, [], 0), (.ifCond .eq 5, [15], 0), (.sipush 0, [], 0), (.ireturn, [1], 0)]
  | 15 => [(.goto 1031, [66], 0)]
  | 16 => [(.aload 1, [], 0), (.aload 0, [], 0), (.iload 4, [], 0), (.sipush 1, [], 0), (.iadd, [], 0), (.iaload, [], 0), (.aload 0, [], 0), (.iload 4, [], 0), (.sipush 2, [], 0), (.iadd, [], 0), (.iaload, [], 0), (.aload 3, [], 0), (.invokestatic 108, [254, 4], 0), (.istore 5, [], 0), (.aload 2, [], 0), (.aload 0, [], 0), (.iload 4, [], 0), (.sipush 1, [], 0), (.iadd, [], 0), (.iaload, [], 0), (.aload 0, [], 0), (.iload 4, [], 0), (.sipush 2, [], 0), (.iadd, [], 0), (.iaload, [], 0), (.invokevirtual 110, [228, 3], 0), (.istore 6, [], 0), (.aload 2, [], 0), (.invokevirtual 85, [150, 1], 0), (.iload 5, [], 0), (.if_icmp .eq 5, [17], 0), (.sipush 0, [], 0), (.ireturn, [1], 0)]
  | 17 => [(.iload 5, [], 0), (.ifCond .ne 15, [18], 0), (.aload 3, [], 0), (.sipush 0, [], 0), (.laload, [], 0), (.iload 6, [], 0), (.i2l, [], 0), (.lcmp, [], 0), (.ifCond .eq 5, [18], 0), (.sipush 0, [], 0), (.ireturn, [1], 0)]
  | 18 => [(.goto 963, [66], 0)]
  | 19 => [(.aload 1, [], 0), (.aload 0, [], 0), (.iload 4, [], 0), (.sipush 1, [], 0), (.iadd, [], 0), (.iaload, [], 0), (.aload 0, [], 0), (.iload 4, [], 0), (.sipush 2, [], 0), (.iadd, [], 0), (.iaload, [], 0), (.aload 3, [], 0), (.invokestatic 111, [255, 4], 0), (.istore 5, [], 0), (.aload 2, [], 0), (.aload 0, [], 0), (.iload 4, [], 0), (.sipush 1, [], 0), (.iadd, [], 0), (.iaload, [], 0), (.aload 0, [], 0), (.iload 4, [], 0), (.sipush 2, [], 0), (.iadd, [], 0), (.iaload, [], 0), (.invokevirtual 113, [230, 3], 0), (.istore 6, [], 0), (.aload 2, [], 0), (.invokevirtual 85, [150, 1], 0), (.iload 5, [], 0), (.if_icmp .eq 5, [20], 0), (.sipush 0, [], 0), (.ireturn, [1], 0)]
  | 20 => [(.iload 5, [], 0), (.ifCond .ne 15, [21], 0), (.aload 3, [], 0), (.sipush 0, [], 0), (.laload, [], 0), (.iload 6, [], 0), (.i2l, [], 0), (.lcmp, [], 0), (.ifCond .eq 5, [21], 0), (.sipush 0, [], 0), (.ireturn, [1], 0)]
  | 21 => [(.goto 895, [66], 0)]
  | 22 => [(.aload 1, [], 0), (.aload 0, [], 0), (.iload 4, [], 0), (.sipush 1, [], 0), (.iadd, [], 0), (.iaload, [], 0), (.aload 0, [], 0), (.iload 4, [], 0), (.sipush 2, [], 0), (.iadd, [], 0), (.iaload, [], 0), (.aload 3, [], 0), (.invokestatic 114, [256, 4], 0), (.istore 5, [], 0), (.aload 2, [], 0), (.aload 0, [], 0), (.iload 4, [], 0), (.sipush 1, [], 0), (.iadd, [], 0), (.iaload, [], 0), (.aload 0, [], 0), (.iload 4, [], 0), (.sipush 2, [], 0), (.iadd, [], 0), (.iaload, [], 0), (.invokevirtual 116, [231, 3], 0), (.istore 6, [], 0), (.aload 2, [], 0), (.invokevirtual 85, [150, 1], 0), (.iload 5, [], 0), (.if_icmp .eq 5, [23], 0), (.sipush 0, [], 0), (.ireturn, [1], 0)]
  | 23 => [(.iload 5, [], 0), (.ifCond .ne 15, [24], 0), (.aload 3, [], 0), (.sipush 0, [], 0), (.laload, [], 0), (.iload 6, [], 0), (.i2l, [], 0), (.lcmp, [], 0), (.ifCond .eq 5, [24], 0), (.sipush 0, [], 0), (.ireturn, [1], 0)]
  | 24 => [(.goto 827, [66], 0)]
  | 25 => [(.aload 1, [], 0), (.aload 0, [], 0), (.iload 4, [], 0), (.sipush 1, [], 0), (.iadd, [], 0), (.iaload, [], 0), (.aload 0, [], 0), (.iload 4, [], 0), (.sipush 2, [], 0), (.iadd, [], 0), (.iaload, [], 0), (.aload 3, [], 0), (.invokestatic 117, [257, 4], 0), (.istore 5, [], 0), (.aload 2, [], 0), (.aload 0, [], 0), (.iload 4, [], 0), (.sipush 1, [], 0), (.iadd, [], 0), (.iaload, [], 0), (.aload 0, [], 0), (.iload 4, [], 0), (.sipush 2, [], 0), (.iadd, [], 0), (.iaload, [], 0), (.invokevirtual 119, [232, 3], 0), (.istore 6, [], 0), (.aload 2, [], 0), (.invokevirtual 85, [150, 1], 0), (.iload 5, [], 0), (.if_icmp .eq 5, [26], 0), (.sipush 0, [], 0), (.ireturn, [1], 0)]
  | 26 => [(.iload 5, [], 0), (.ifCond .ne 15, [27], 0), (.aload 3, [], 0), (.sipush 0, [], 0), (.laload, [], 0), (.iload 6, [], 0), (.i2l, [], 0), (.lcmp, [], 0), (.ifCond .eq 5, [27], 0), (.sipush 0, [], 0), (.ireturn, [1], 0)]
  | 27 => [(.goto 759, [66], 0)]
  | 28 => [(.aload 1, [], 0), (.aload 0, [], 0), (.iload 4, [], 0), (.sipush 1, [], 0), (.iadd, [], 0), (.iaload, [], 0), (.aload 0, [], 0), (.iload 4, [], 0), (.sipush 2, [], 0), (.iadd, [], 0), (.iaload, [], 0), (.aload 3, [], 0), (.invokestatic 120, [258, 4], 0), (.istore 5, [], 0), (.aload 2, [], 0), (.aload 0, [], 0), (.iload 4, [], 0), (.sipush 1, [], 0), (.iadd, [], 0), (.iaload, [], 0), (.aload 0, [], 0), (.iload 4, [], 0), (.sipush 2, [], 0), (.iadd, [], 0), (.iaload, [], 0), (.invokevirtual 122, [234, 3], 0), (.istore 6, [], 0), (.aload 2, [], 0), (.invokevirtual 85, [150, 1], 0), (.iload 5, [], 0), (.if_icmp .eq 5, [29], 0), (.sipush 0, [], 0), (.ireturn, [1], 0)]
  | 29 => [(.iload 5, [], 0), (.ifCond .ne 15, [30], 0), (.aload 3, [], 0), (.sipush 0, [], 0), (.laload, [], 0), (.iload 6, [], 0), (.i2l, [], 0), (.lcmp, [], 0), (.ifCond .eq 5, [30], 0), (.sipush 0, [], 0), (.ireturn, [1], 0)]
  | 30 => [(.goto 691, [66], 0)]
  | 31 => [(.aload 1, [], 0), (.aload 0, [], 0), (.iload 4, [], 0), (.sipush 1, [], 0), (.iadd, [], 0), (.iaload, [], 0), (.aload 3, [], 0), (.invokestatic 123, [259, 3], 0), (.istore 5, [], 0), (.aload 2, [], 0), (.aload 0, [], 0), (.iload 4, [], 0), (.sipush 1, [], 0), (.iadd, [], 0), (.iaload, [], 0), (.invokevirtual 125, [235, 2], 0), (.istore 6, [], 0), (.aload 2, [], 0), (.invokevirtual 85, [150, 1], 0), (.iload 5, [], 0), (.if_icmp .eq 5, [32], 0), (.sipush 0, [], 0), (.ireturn, [1], 0)]
  | 32 => [(.iload 5, [], 0), (.ifCond .ne 15, [33], 0), (.aload 3, [], 0), (.sipush 0, [], 0), (.laload, [], 0), (.iload 6, [], 0), (.i2l, [], 0), (.lcmp, [], 0), (.ifCond .eq 5, [33], 0), (.sipush 0, [], 0), (.ireturn, [1], 0)]
  | 33 => [(.goto 635, [66], 0)]
  | 34 => [(.aload 1, [], 0), (.aload 0, [], 0), (.iload 4, [], 0), (.sipush 1, [], 0), (.iadd, [], 0), (.iaload, [], 0), (.aload 3, [], 0), (.invokestatic 126, [260, 3], 0), (.istore 5, [], 0), (.aload 2, [], 0), (.aload 0, [], 0), (.iload 4, [], 0), (.sipush 1, [], 0), (.iadd, [], 0), (.iaload, [], 0), (.invokevirtual 128, [236, 2], 0), (.istore 6, [], 0), (.aload 2, [], 0), (.invokevirtual 85, [150, 1], 0), (.iload 5, [], 0), (.if_icmp .eq 5, [35], 0), (.sipush 0, [], 0), (.ireturn, [1], 0)]
  | 35 => [(.iload 5, [], 0), (.ifCond .ne 15, [36], 0), (.aload 3, [], 0), (.sipush 0, [], 0), (.laload, [], 0), (.iload 6, [], 0), (.i2l, [], 0), (.lcmp, [], 0), (.ifCond .eq 5, [36], 0), (.sipush 0, [], 0), (.ireturn, [1], 0)]
  | 36 => [(.goto 579, [66], 0)]
  | 37 => [(.aload 1, [], 0), (.aload 0, [], 0), (.iload 4, [], 0), (.sipush 1, [], 0), (.iadd, [], 0), (.iaload, [], 0), (.aload 0, [], 0), (.iload 4, [], 0), (.sipush 2, [], 0), (.iadd, [], 0), (.iaload, [], 0), (.aload 3, [], 0), (.invokestatic 129, [261, 4], 0), (.istore 5, [], 0), (.aload 2, [], 0), (.aload 0, [], 0), (.iload 4, [], 0), (.sipush 1, [], 0), (.iadd, [], 0), (.iaload, [], 0), (.aload 0, [], 0), (.iload 4, [], 0), (.sipush 2, [], 0), (.iadd, [], 0), (.iaload, [], 0), (.invokevirtual 131, [237, 3], 0), (.istore 6, [], 0), (.aload 2, [], 0), (.invokevirtual 85, [150, 1], 0), (.iload 5, [], 0), (.if_icmp .eq 5, [38], 0), (.sipush 0, [], 0), (.ireturn, [1], 0)]
  | 38 => [(.iload 5, [], 0), (.ifCond .ne 15, [39], 0), (.aload 3, [], 0), (.sipush 0, [], 0), (.laload, [], 0), (.iload 6, [], 0), (.i2l, [], 0), (.lcmp, [], 0), (.ifCond .eq 5, [39], 0), (.sipush 0, [], 0), (.ireturn, [1], 0)]
  | 39 => [(.goto 511, [66], 0)]
  | 40 => [(.aload 1, [], 0), (.aload 0, [], 0), (.iload 4, [], 0), (.sipush 1, [], 0), (.iadd, [], 0), (.iaload, [], 0), (.aload 3, [], 0), (.invokestatic 132, [262, 3], 0), (.istore 5, [], 0), (.aload 2, [], 0), (.aload 0, [], 0), (.iload 4, [], 0), (.sipush 1, [], 0), (.iadd, [], 0), (.iaload, [], 0), (.invokevirtual 134, [238, 2], 0), (.istore 6, [], 0), (.aload 2, [], 0), (.invokevirtual 85, [150, 1], 0), (.iload 5, [], 0), (.if_icmp .eq 5, [41], 0), (.sipush 0, [], 0), (.ireturn, [1], 0)]
  | 41 => [(.iload 5, [], 0), (.ifCond .ne 15, [42], 0), (.aload 3, [], 0), (.sipush 0, [], 0), (.laload, [], 0), (.iload 6, [], 0), (.i2l, [], 0), (.lcmp, [], 0), (.ifCond .eq 5, [42], 0), (.sipush 0, [], 0), (.ireturn, [1], 0)]
  | 42 => [(.goto 455, [66], 0)]
  | 43 => [(.aload 1, [], 0), (.aload 0, [], 0), (.iload 4, [], 0), (.sipush 1, [], 0), (.iadd, [], 0), (.iaload, [], 0), (.aload 0, [], 0), (.iload 4, [], 0), (.sipush 2, [], 0), (.iadd, [], 0), (.iaload, [], 0), (.aload 3, [], 0), (.invokestatic 135, [263, 4], 0), (.istore 5, [], 0), (.aload 2, [], 0), (.aload 0, [], 0), (.iload 4, [], 0), (.sipush 1, [], 0), (.iadd, [], 0), (.iaload, [], 0), (.aload 0, [], 0), (.iload 4, [], 0), (.sipush 2, [], 0), (.iadd, [], 0), (.iaload, [], 0), (.invokevirtual 137, [239, 3], 0), (.istore 6, [], 0), (.aload 2, [], 0), (.invokevirtual 85, [150, 1], 0), (.iload 5, [], 0), (.if_icmp .eq 5, [44], 0), (.sipush 0, [], 0), (.ireturn, [1], 0)]
  | 44 => [(.iload 5, [], 0), (.ifCond .ne 15, [45], 0), (.aload 3, [], 0), (.sipush 0, [], 0), (.laload, [], 0), (.iload 6, [], 0), (.i2l, [], 0), (.lcmp, [], 0), (.ifCond .eq 5, [45], 0), (.sipush 0, [], 0), (.ireturn, [1], 0)]
  | 45 => [(.goto 387, [66], 0)]
  | 46 => [(.aload 1, [], 0), (.aload 0, [], 0), (.iload 4, [], 0), (.sipush 1, [], 0), (.iadd, [], 0), (.iaload, [], 0), (.aload 0, [], 0), (.iload 4, [], 0), (.sipush 2, [], 0), (.iadd, [], 0), (.iaload, [], 0), (.aload 3, [], 0), (.invokestatic 138, [264, 4], 0), (.istore 5, [], 0), (.aload 2, [], 0), (.aload 0, [], 0), (.iload 4, [], 0), (.sipush 1, [], 0), (.iadd, [], 0), (.iaload, [], 0), (.aload 0, [], 0), (.iload 4, [], 0), (.sipush 2, [], 0), (.iadd, [], 0), (.iaload, [], 0), (.invokevirtual 140, [240, 3], 0), (.istore 6, [], 0), (.aload 2, [], 0), (.invokevirtual 85, [150, 1], 0), (.iload 5, [], 0), (.if_icmp .eq 5, [47], 0), (.sipush 0, [], 0), (.ireturn, [1], 0)]
  | 47 => [(.iload 5, [], 0), (.ifCond .ne 15, [48], 0), (.aload 3, [], 0), (.sipush 0, [], 0), (.laload, [], 0), (.iload 6, [], 0), (.i2l, [], 0), (.lcmp, [], 0), (.ifCond .eq 5, [48], 0), (.sipush 0, [], 0), (.ireturn, [1], 0)]
  | 48 => [(.goto 319, [66], 0)]
  | 49 => [(.aload 1, [], 0), (.aload 0, [], 0), (.iload 4, [], 0), (.sipush 1, [], 0), (.iadd, [], 0), (.iaload, [], 0), (.aload 3, [], 0), (.invokestatic 141, [265, 3], 0), (.istore 5, [], 0), (.aload 2, [], 0), (.aload 0, [], 0), (.iload 4, [], 0), (.sipush 1, [], 0), (.iadd, [], 0), (.iaload, [], 0), (.invokevirtual 143, [241, 2], 0), (.istore 6, [], 0), (.aload 2, [], 0), (.invokevirtual 85, [150, 1], 0), (.iload 5, [], 0), (.if_icmp .eq 5, [50], 0), (.sipush 0, [], 0), (.ireturn, [1], 0)]
  | 50 => [(.iload 5, [], 0), (.ifCond .ne 15, [51], 0), (.aload 3, [], 0), (.sipush 0, [], 0), (.laload, [], 0), (.iload 6, [], 0), (.i2l, [], 0), (.lcmp, [], 0), (.ifCond .eq 5, [51], 0), (.sipush 0, [], 0), (.ireturn, [1], 0)]
  | 51 => [(.goto 263, [66], 0)]
  | 52 => [(.aload 1, [], 0), (.aload 0, [], 0), (.iload 4, [], 0), (.sipush 1, [], 0), (.iadd, [], 0), (.iaload, [], 0), (.aload 3, [], 0), (.invokestatic 144, [266, 3], 0), (.istore 5, [], 0), (.aload 2, [], 0), (.aload 0, [], 0), (.iload 4, [], 0), (.sipush 1, [], 0), (.iadd, [], 0), (.iaload, [], 0), (.invokevirtual 146, [243, 2], 0), (.istore 6, [], 0), (.aload 2, [], 0), (.invokevirtual 85, [150, 1], 0), (.iload 5, [], 0), (.if_icmp .eq 5, [53], 0), (.sipush 0, [], 0), (.ireturn, [1], 0)]
  | 53 => [(.iload 5, [], 0), (.ifCond .ne 15, [54], 0), (.aload 3, [], 0), (.sipush 0, [], 0), (.laload, [], 0), (.iload 6, [], 0), (.i2l, [], 0), (.lcmp, [], 0), (.ifCond .eq 5, [54], 0), (.sipush 0, [], 0), (.ireturn, [1], 0)]
  | 54 => [(.goto 207, [66], 0)]
  | 55 => [(.aload 1, [], 0), (.aload 0, [], 0), (.iload 4, [], 0), (.sipush 1, [], 0), (.iadd, [], 0), (.iaload, [], 0), (.aload 0, [], 0), (.iload 4, [], 0), (.sipush 2, [], 0), (.iadd, [], 0), (.iaload, [], 0), (.aload 3, [], 0), (.invokestatic 147, [267, 4], 0), (.istore 5, [], 0), (.aload 2, [], 0), (.aload 0, [], 0), (.iload 4, [], 0), (.sipush 1, [], 0), (.iadd, [], 0), (.iaload, [], 0), (.aload 0, [], 0), (.iload 4, [], 0), (.sipush 2, [], 0), (.iadd, [], 0), (.iaload, [], 0), (.invokevirtual 149, [244, 3], 0), (.istore 6, [], 0), (.aload 2, [], 0), (.invokevirtual 85, [150, 1], 0), (.iload 5, [], 0), (.if_icmp .eq 5, [56], 0), (.sipush 0, [], 0), (.ireturn, [1], 0)]
  | 56 => [(.iload 5, [], 0), (.ifCond .ne 15, [57], 0), (.aload 3, [], 0), (.sipush 0, [], 0), (.laload, [], 0), (.iload 6, [], 0), (.i2l, [], 0), (.lcmp, [], 0), (.ifCond .eq 5, [57], 0), (.sipush 0, [], 0), (.ireturn, [1], 0)]
  | 57 => [(.goto 139, [66], 0)]
  | 58 => [(.aload 1, [], 0), (.aload 0, [], 0), (.iload 4, [], 0), (.sipush 1, [], 0), (.iadd, [], 0), (.iaload, [], 0), (.aload 0, [], 0), (.iload 4, [], 0), (.sipush 2, [], 0), (.iadd, [], 0), (.iaload, [], 0), (.aload 3, [], 0), (.invokestatic 150, [268, 4], 0), (.istore 5, [], 0), (.aload 2, [], 0), (.aload 0, [], 0), (.iload 4, [], 0), (.sipush 1, [], 0), (.iadd, [], 0), (.iaload, [], 0), (.aload 0, [], 0), (.iload 4, [], 0), (.sipush 2, [], 0), (.iadd, [], 0), (.iaload, [], 0), (.invokevirtual 152, [246, 3], 0), (.istore 6, [], 0), (.aload 2, [], 0), (.invokevirtual 85, [150, 1], 0), (.iload 5, [], 0), (.if_icmp .eq 5, [59], 0), (.sipush 0, [], 0), (.ireturn, [1], 0)]
  | 59 => [(.iload 5, [], 0), (.ifCond .ne 15, [60], 0), (.aload 3, [], 0), (.sipush 0, [], 0), (.laload, [], 0), (.iload 6, [], 0), (.i2l, [], 0), (.lcmp, [], 0), (.ifCond .eq 5, [60], 0), (.sipush 0, [], 0), (.ireturn, [1], 0)]
  | 60 => [(.goto 71, [66], 0)]
  | 61 => [(.aload 1, [], 0), (.invokevirtual 153, [135, 1], 0), (.aload 2, [], 0), (.invokevirtual 156, [247, 1], 0), (.if_icmp .eq 60, [66], 0), (.sipush 0, [], 0), (.ireturn, [1], 0)]
  | 62 => [(.aload 1, [], 0), (.invokevirtual 157, [136, 1], 0), (.dstore 5, [], 0), (.aload 2, [], 0), (.invokevirtual 161, [248, 1], 0), (.dstore 7, [], 0), (.dload 5, [], 0), (.dload 7, [], 0), (.dcmp .l, [], 0), (.ifCond .eq 21, [64], 0), (.dload 5, [], 0), (.dload 5, [], 0), (.dcmp .l, [], 0), (.ifCond .eq 11, [63], 0), (.dload 7, [], 0), (.dload 7, [], 0), (.dcmp .l, [], 0), (.ifCond .ne 5, [64], 0), (.invokedynamic 4, [63], 0)]
  | 63 => [(.sipush 0, [], 0), (.ireturn, [1], 0)]
  | 64 => [(.goto 17, [66], 0)]
  | 65 => [(.aload 1, [], 0), (.invokevirtual 162, [137, 1], 0), (.aload 2, [], 0), (.invokevirtual 166, [249, 1], 0), (.lcmp, [], 0), (.ifCond .eq 5, [66], 0), (.sipush 0, [], 0), (.ireturn, [1], 0)]
  | 66 => [(.iinc 4 6, [], 0), (.goto (-1470), [1], 0)]
  | 67 => [(.sipush 1, [], 0), (.ireturn, [1], 0)]
  | _ => []
def PL_law : Nat → Nat
  | 0 => 0
  | 1 => 23
  | 2 => 152
  | 3 => 236
  | 4 => 253
  | 5 => 256
  | 6 => 292
  | 7 => 309
  | 8 => 312
  | 9 => 325
  | 10 => 338
  | 11 => 374
  | 12 => 391
  | 13 => 394
  | 14 => 442
  | 15 => 459
  | 16 => 462
  | 17 => 510
  | 18 => 527
  | 19 => 530
  | 20 => 578
  | 21 => 595
  | 22 => 598
  | 23 => 646
  | 24 => 663
  | 25 => 666
  | 26 => 714
  | 27 => 731
  | 28 => 734
  | 29 => 782
  | 30 => 799
  | 31 => 802
  | 32 => 838
  | 33 => 855
  | 34 => 858
  | 35 => 894
  | 36 => 911
  | 37 => 914
  | 38 => 962
  | 39 => 979
  | 40 => 982
  | 41 => 1018
  | 42 => 1035
  | 43 => 1038
  | 44 => 1086
  | 45 => 1103
  | 46 => 1106
  | 47 => 1154
  | 48 => 1171
  | 49 => 1174
  | 50 => 1210
  | 51 => 1227
  | 52 => 1230
  | 53 => 1266
  | 54 => 1283
  | 55 => 1286
  | 56 => 1334
  | 57 => 1351
  | 58 => 1354
  | 59 => 1402
  | 60 => 1419
  | 61 => 1422
  | 62 => 1435
  | 63 => 1471
  | 64 => 1473
  | 65 => 1476
  | 66 => 1490
  | 67 => 1496
  | _ => 0
def BJ0_length_8abf5 : Nat → List MI
  | 0 => [(.aload 0, [], 0), (.getfield 9, [99, 53, 0], 0), (.arraylength, [], 0), (.aload 0, [], 0), (.invokevirtual 335, [274, 1], 0), (.ishr, [], 0), (.ireturn, [0], 0)]
  | _ => []
def PJ0_length_8abf5 : Nat → Nat
  | 0 => 0
  | _ => 0
def BJ0_charAt_5068e : Nat → List MI
  | 0 => [(.aload 0, [], 0), (.invokevirtual 492, [275, 1], 0), (.ifCond .eq 12, [1], 0), (.aload 0, [], 0), (.getfield 9, [99, 53, 0], 0), (.iload 1, [], 0), (.invokestatic 495, [277, 2], 0), (.ireturn, [3], 0)]
  | 1 => [(.aload 0, [], 0), (.getfield 9, [99, 53, 0], 0), (.iload 1, [], 0)]
  | _ => []
def PJ0_charAt_5068e : Nat → Nat
  | 0 => 0
  | 1 => 16
  | _ => 0
def BJ0_indexOf_0f7a4 : Nat → List MI
  | 0 => [(.aload 0, [], 0), (.iload 1, [], 0), (.sipush 0, [], 0), (.invokevirtual 633, [273, 3], 0), (.ireturn, [0], 0)]
  | _ => []
def PJ0_indexOf_0f7a4 : Nat → Nat
  | 0 => 0
  | _ => 0
def BJ0_indexOf_7cf53 : Nat → List MI
  | 0 => [(.aload 0, [], 0), (.invokevirtual 492, [275, 1], 0), (.ifCond .eq 19, [1], 0), (.aload 0, [], 0), (.getfield 9, [99, 53, 0], 0), (.iload 1, [], 0), (.iload 2, [], 0), (.aload 0, [], 0), (.invokevirtual 505, [270, 1], 0), (.invokestatic 637, [279, 4], 0), (.goto 16, [2], 0)]
  | 1 => [(.aload 0, [], 0), (.getfield 9, [99, 53, 0], 0), (.iload 1, [], 0), (.iload 2, [], 0), (.aload 0, [], 0), (.invokevirtual 505, [270, 1], 0)]
  | 2 => [(.ireturn, [0], 0)]
  | _ => []
def PJ0_indexOf_7cf53 : Nat → Nat
  | 0 => 0
  | 1 => 23
  | 2 => 36
  | _ => 0
def BJ0_coder_7d493 : Nat → List MI
  | 0 => [(.getstatic 38, [1], 1), (.ifCond .eq 10, [1], 0), (.aload 0, [], 0), (.getfield 15, [99, 54, 0], 0), (.goto 4, [2], 0)]
  | 1 => [(.sipush 1, [], 0), (.invokedynamic 4, [2], 0)]
  | 2 => [(.ireturn, [2], 0)]
  | _ => []
def PJ0_coder_7d493 : Nat → Nat
  | 0 => 0
  | 1 => 13
  | 2 => 14
  | _ => 0
def BJ0_isLatin1_aae02 : Nat → List MI
  | 0 => [(.getstatic 38, [1], 1), (.ifCond .eq 14, [1], 0), (.aload 0, [], 0), (.getfield 15, [99, 54, 0], 0), (.ifCond .ne 7, [1], 0), (.sipush 1, [], 0), (.goto 4, [2], 0)]
  | 1 => [(.sipush 0, [], 0), (.invokedynamic 4, [2], 0)]
  | 2 => [(.ireturn, [1], 0)]
  | _ => []
def PJ0_isLatin1_aae02 : Nat → Nat
  | 0 => 0
  | 1 => 17
  | 2 => 18
  | _ => 0
def BJ0_checkIndex_df160 : Nat → List MI
  | 0 => [(.iload 0, [], 0), (.iload 1, [], 0), (.getstatic 1053, [2], 0), (.invokestatic 1059, [281, 3], 0), (.pop, [], 0), (.return_, [], 0)]
  | _ => []
def PJ0_checkIndex_df160 : Nat → Nat
  | 0 => 0
  | _ => 0
def BJ1_charAt_3b067 : Nat → List MI
  | 0 => [(.iload 1, [], 0), (.aload 0, [], 0), (.arraylength, [], 0), (.invokestatic 9, [276, 2], 0), (.aload 0, [], 0), (.iload 1, [], 0), (.baload, [], 0), (.sipush 255, [], 0), (.iand, [], 0), (.i2c, [], 0), (.ireturn, [3], 0)]
  | _ => []
def PJ1_charAt_3b067 : Nat → Nat
  | 0 => 0
  | _ => 0
def BJ1_canEncode_9a6ad : Nat → List MI
  | 0 => [(.iload 0, [], 0), (.ifCond .lt 14, [1], 0), (.iload 0, [], 0), (.sipush 255, [], 0), (.if_icmp .gt 7, [1], 0), (.sipush 1, [], 0), (.goto 4, [2], 0)]
  | 1 => [(.sipush 0, [], 0), (.invokedynamic 4, [2], 0)]
  | 2 => [(.ireturn, [1], 0)]
  | _ => []
def PJ1_canEncode_9a6ad : Nat → Nat
  | 0 => 0
  | 1 => 15
  | 2 => 16
  | _ => 0
def BJ1_indexOf_4cfef : Nat → List MI
  | 0 => [(.iload 1, [], 0), (.invokestatic 88, [278, 1], 0), (.ifCond .ne 5, [1], 0), (.sipush (-1), [], 0), (.ireturn, [0], 0)]
  | 1 => [(.iload 2, [], 0), (.sipush 0, [], 0), (.invokedynamic 1, [92], 0), (.istore 2, [], 0), (.iload 3, [], 0), (.aload 0, [], 0), (.arraylength, [], 0), (.invokedynamic 2, [38], 0), (.istore 3, [], 0), (.iload 2, [], 0), (.iload 3, [], 0), (.if_icmp .lt 5, [2], 0), (.sipush (-1), [], 0), (.ireturn, [0], 0)]
  | 2 => [(.aload 0, [], 0), (.iload 1, [], 0), (.iload 2, [], 0), (.iload 3, [], 0), (.invokestatic 95, [280, 4], 0), (.ireturn, [0], 0)]
  | _ => []
def PJ1_indexOf_4cfef : Nat → Nat
  | 0 => 0
  | 1 => 9
  | 2 => 29
  | _ => 0
def BJ1_indexOfChar_4cfef : Nat → List MI
  | 0 => [(.iload 1, [], 0), (.i2b, [], 0), (.istore 4, [], 0), (.iload 2, [], 0), (.istore 5, [], 0), (.invokedynamic 4, [1], 0)]
  | 1 => [(.iload 5, [], 0), (.iload 3, [], 0), (.if_icmp .ge 21, [3], 0), (.aload 0, [], 0), (.iload 5, [], 0), (.baload, [], 0), (.iload 4, [], 0), (.if_icmp .ne 6, [2], 0), (.iload 5, [], 0), (.ireturn, [0], 0)]
  | 2 => [(.iinc 5 1, [], 0), (.goto (-21), [1], 0)]
  | 3 => [(.sipush (-1), [], 0), (.ireturn, [0], 0)]
  | _ => []
def PJ1_indexOfChar_4cfef : Nat → Nat
  | 0 => 0
  | 1 => 7
  | 2 => 25
  | 3 => 31
  | _ => 0
def BJ3_checkIndex_8e157 : Nat → List MI
  | 0 => [(.iload 0, [], 0), (.ifCond .lt 8, [1], 0), (.iload 0, [], 0), (.iload 1, [], 0), (.if_icmp .lt 10, [2], 0), (.invokedynamic 4, [1], 0)]
  | 1 => [(.aload 2, [], 0), (.iload 0, [], 0), (.iload 1, [], 0)]
  | 2 => [(.iload 0, [], 0), (.ireturn, [0], 0)]
  | _ => []
def PJ3_checkIndex_8e157 : Nat → Nat
  | 0 => 0
  | 1 => 9
  | 2 => 16
  | _ => 0
def BJ7_fill_53178 : Nat → List MI
  | 0 => [(.sipush 0, [], 0), (.istore 2, [], 0), (.aload 0, [], 0), (.arraylength, [], 0), (.istore 3, [], 0), (.invokedynamic 4, [1], 0)]
  | 1 => [(.iload 2, [], 0), (.iload 3, [], 0), (.if_icmp .ge 13, [2], 0), (.aload 0, [], 0), (.iload 2, [], 0), (.iload 1, [], 0), (.iastore, [], 0), (.iinc 2 1, [], 0), (.goto (-12), [1], 0)]
  | 2 => [(.return_, [], 0)]
  | _ => []
def PJ7_fill_53178 : Nat → Nat
  | 0 => 0
  | 1 => 5
  | 2 => 20
  | _ => 0
def BJx29ce0_ordinal_8abf5 : Nat → List MI
  | 0 => [(.aload 0, [], 0), (.getfield 7, [99, 52, 0], 0), (.ireturn, [0], 0)]
  | _ => []
def PJx29ce0_ordinal_8abf5 : Nat → Nat
  | 0 => 0
  | _ => 0
