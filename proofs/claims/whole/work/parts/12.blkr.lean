/-! ===== BLOCKS of the methods, by program out of the claim's own listing: the reference ===== -/
def BX10_init : Nat → List MI
  | 0 => [(.aload 0, [], 0), (.invokedynamic 5, [3], 0), (.aload 0, [], 0), (.sipush 401, [], 0), (.newarray .int, [], 0), (.putfield 9, [10, 0, 2], 0), (.aload 0, [], 0), (.sipush 401, [], 0), (.newarray .int, [], 0), (.putfield 15, [10, 1, 2], 0), (.aload 0, [], 0), (.sipush 401, [], 0), (.newarray .int, [], 0), (.putfield 18, [10, 2, 2], 0), (.aload 0, [], 0), (.sipush 401, [], 0), (.newarray .int, [], 0), (.putfield 21, [10, 3, 2], 0), (.aload 0, [], 0), (.sipush 6, [], 0), (.newarray .int, [], 0), (.putfield 24, [10, 4, 2], 0), (.aload 0, [], 0), (.sipush 84, [], 0), (.newarray .int, [], 0), (.putfield 27, [10, 5, 2], 0), (.aload 0, [], 0), (.sipush 14, [], 0), (.newarray .int, [], 0), (.putfield 30, [10, 6, 2], 0), (.aload 0, [], 0), (.sipush 14, [], 0), (.newarray .int, [], 0), (.putfield 33, [10, 7, 2], 0), (.aload 0, [], 0), (.sipush 14, [], 0), (.newarray .int, [], 0), (.putfield 36, [10, 8, 2], 0), (.aload 0, [], 0), (.sipush 6, [], 0), (.newarray .int, [], 0), (.putfield 39, [10, 9, 2], 0), (.aload 0, [], 0), (.sipush 6, [], 0), (.newarray .int, [], 0), (.putfield 42, [10, 10, 2], 0), (.aload 0, [], 0), (.sipush 20, [], 0), (.newarray .int, [], 0), (.putfield 45, [10, 12, 2], 0), (.aload 0, [], 0), (.sipush 20, [], 0), (.newarray .int, [], 0), (.putfield 48, [10, 13, 2], 0), (.aload 0, [], 0), (.sipush 20, [], 0), (.newarray .int, [], 0), (.putfield 51, [10, 14, 2], 0), (.aload 0, [], 0), (.sipush 20, [], 0), (.newarray .int, [], 0), (.putfield 54, [10, 15, 2], 0), (.return_, [], 0)]
  | _ => []
def PX10_init : Nat → Nat
  | 0 => 0
  | _ => 0
def BX11_init : Nat → List MI
  | 0 => [(.aload 0, [], 0), (.invokedynamic 5, [3], 0), (.aload 0, [], 0), (.sipush 14, [], 0), (.newarray .int, [], 0), (.putfield 9, [11, 4, 2], 0), (.aload 0, [], 0), (.sipush 14, [], 0), (.newarray .int, [], 0), (.putfield 15, [11, 5, 2], 0), (.aload 0, [], 0), (.sipush 60, [], 0), (.newarray .int, [], 0), (.putfield 18, [11, 6, 2], 0), (.aload 0, [], 0), (.sipush 60, [], 0), (.newarray .int, [], 0), (.putfield 21, [11, 7, 2], 0), (.aload 0, [], 0), (.sipush 10, [], 0), (.newarray .int, [], 0), (.putfield 24, [11, 8, 2], 0), (.aload 0, [], 0), (.sipush 168, [], 0), (.newarray .int, [], 0), (.putfield 27, [11, 10, 2], 0), (.aload 0, [], 0), (.sipush 168, [], 0), (.newarray .int, [], 0), (.putfield 30, [11, 11, 2], 0), (.aload 0, [], 0), (.sipush 168, [], 0), (.newarray .int, [], 0), (.putfield 33, [11, 12, 2], 0), (.aload 0, [], 0), (.sipush 168, [], 0), (.newarray .int, [], 0), (.putfield 36, [11, 13, 2], 0), (.return_, [], 0)]
  | _ => []
def PX11_init : Nat → Nat
  | 0 => 0
  | _ => 0
def BX11_copy : Nat → List MI
  | 0 => [(.aload 0, [], 0), (.sipush 0, [], 0), (.aload 1, [], 0), (.sipush 0, [], 0), (.aload 1, [], 0), (.arraylength, [], 0), (.invokedynamic 0, [39], 0), (.return_, [], 0)]
  | _ => []
def PX11_copy : Nat → Nat
  | 0 => 0
  | _ => 0
def BX11_become : Nat → List MI
  | 0 => [(.aload 0, [], 0), (.aload 1, [], 0), (.getfield 45, [11, 0, 0], 0), (.putfield 45, [11, 0, 0], 0), (.aload 0, [], 0), (.aload 1, [], 0), (.getfield 49, [11, 1, 0], 0), (.putfield 49, [11, 1, 0], 0), (.aload 0, [], 0), (.aload 1, [], 0), (.getfield 52, [11, 2, 0], 0), (.putfield 52, [11, 2, 0], 0), (.aload 0, [], 0), (.aload 1, [], 0), (.getfield 55, [11, 3, 0], 0), (.putfield 55, [11, 3, 0], 0), (.aload 0, [], 0), (.aload 1, [], 0), (.getfield 58, [11, 9, 0], 0), (.putfield 58, [11, 9, 0], 0), (.aload 1, [], 0), (.getfield 9, [11, 4, 2], 0), (.aload 0, [], 0), (.getfield 9, [11, 4, 2], 0), (.invokestatic 61, [142, 2], 0), (.aload 1, [], 0), (.getfield 15, [11, 5, 2], 0), (.aload 0, [], 0), (.getfield 15, [11, 5, 2], 0), (.invokestatic 61, [142, 2], 0), (.aload 1, [], 0), (.getfield 18, [11, 6, 2], 0), (.aload 0, [], 0), (.getfield 18, [11, 6, 2], 0), (.invokestatic 61, [142, 2], 0), (.aload 1, [], 0), (.getfield 21, [11, 7, 2], 0), (.aload 0, [], 0), (.getfield 21, [11, 7, 2], 0), (.invokestatic 61, [142, 2], 0), (.aload 1, [], 0), (.getfield 24, [11, 8, 2], 0), (.aload 0, [], 0), (.getfield 24, [11, 8, 2], 0), (.invokestatic 61, [142, 2], 0), (.aload 1, [], 0), (.getfield 27, [11, 10, 2], 0), (.aload 0, [], 0), (.getfield 27, [11, 10, 2], 0), (.invokestatic 61, [142, 2], 0), (.aload 1, [], 0), (.getfield 30, [11, 11, 2], 0), (.aload 0, [], 0), (.getfield 30, [11, 11, 2], 0), (.invokestatic 61, [142, 2], 0), (.aload 1, [], 0), (.getfield 33, [11, 12, 2], 0), (.aload 0, [], 0), (.getfield 33, [11, 12, 2], 0), (.invokestatic 61, [142, 2], 0), (.aload 1, [], 0), (.getfield 36, [11, 13, 2], 0), (.aload 0, [], 0), (.getfield 36, [11, 13, 2], 0), (.invokestatic 61, [142, 2], 0), (.return_, [], 0)]
  | _ => []
def PX11_become : Nat → Nat
  | 0 => 0
  | _ => 0
def BX11_isOpen : Nat → List MI
  | 0 => [(.aload 0, [], 0), (.getfield 15, [11, 5, 2], 0), (.iload 1, [], 0), (.iaload, [], 0), (.sipush 3, [], 0), (.if_icmp .ge 7, [1], 0), (.sipush 1, [], 0), (.goto 4, [2], 0)]
  | 1 => [(.sipush 0, [], 0), (.invokedynamic 4, [2], 0)]
  | 2 => [(.ireturn, [1], 0)]
  | _ => []
def PX11_isOpen : Nat → Nat
  | 0 => 0
  | 1 => 14
  | 2 => 15
  | _ => 0
def BX11_length : Nat → List MI
  | 0 => [(.aload 0, [], 0), (.getfield 9, [11, 4, 2], 0), (.iload 1, [], 0), (.iaload, [], 0), (.sipush 2, [], 0), (.aload 0, [], 0), (.getfield 15, [11, 5, 2], 0), (.iload 1, [], 0), (.iaload, [], 0), (.imul, [], 0), (.iadd, [], 0), (.ireturn, [0], 0)]
  | _ => []
def PX11_length : Nat → Nat
  | 0 => 0
  | _ => 0
def BX11_knows : Nat → List MI
  | 0 => [(.aload 0, [], 0), (.getfield 18, [11, 6, 2], 0), (.sipush 6, [], 0), (.iload 1, [], 0), (.imul, [], 0), (.iload 2, [], 0), (.iadd, [], 0), (.iaload, [], 0), (.sipush (-1), [], 0), (.if_icmp .eq 7, [1], 0), (.sipush 1, [], 0), (.goto 4, [2], 0)]
  | 1 => [(.sipush 0, [], 0), (.invokedynamic 4, [2], 0)]
  | 2 => [(.ireturn, [1], 0)]
  | _ => []
def PX11_knows : Nat → Nat
  | 0 => 0
  | 1 => 19
  | 2 => 20
  | _ => 0
def BX11_hear : Nat → List MI
  | 0 => [(.aload 0, [], 0), (.iload 1, [], 0), (.iload 2, [], 0), (.invokevirtual 65, [146, 3], 0), (.ifCond .eq 5, [1], 0), (.sipush 0, [], 0), (.ireturn, [1], 0)]
  | 1 => [(.aload 0, [], 0), (.getfield 18, [11, 6, 2], 0), (.sipush 6, [], 0), (.iload 1, [], 0), (.imul, [], 0), (.iload 2, [], 0), (.iadd, [], 0), (.aload 0, [], 0), (.getfield 45, [11, 0, 0], 0), (.iastore, [], 0), (.aload 0, [], 0), (.dup, [], 0), (.getfield 55, [11, 3, 0], 0), (.sipush 1, [], 0), (.iadd, [], 0), (.putfield 55, [11, 3, 0], 0), (.sipush 1, [], 0), (.ireturn, [1], 0)]
  | _ => []
def PX11_hear : Nat → Nat
  | 0 => 0
  | 1 => 11
  | _ => 0
def BX11_keep : Nat → List MI
  | 0 => [(.aload 0, [], 0), (.getfield 27, [11, 10, 2], 0), (.iload 2, [], 0), (.aload 0, [], 0), (.getfield 27, [11, 10, 2], 0), (.iload 1, [], 0), (.iaload, [], 0), (.iastore, [], 0), (.aload 0, [], 0), (.getfield 30, [11, 11, 2], 0), (.iload 2, [], 0), (.aload 0, [], 0), (.getfield 30, [11, 11, 2], 0), (.iload 1, [], 0), (.iaload, [], 0), (.iastore, [], 0), (.aload 0, [], 0), (.getfield 33, [11, 12, 2], 0), (.iload 2, [], 0), (.aload 0, [], 0), (.getfield 33, [11, 12, 2], 0), (.iload 1, [], 0), (.iaload, [], 0), (.iastore, [], 0), (.aload 0, [], 0), (.getfield 36, [11, 13, 2], 0), (.iload 2, [], 0), (.aload 0, [], 0), (.getfield 36, [11, 13, 2], 0), (.iload 1, [], 0), (.iaload, [], 0), (.iastore, [], 0), (.return_, [], 0)]
  | _ => []
def PX11_keep : Nat → Nat
  | 0 => 0
  | _ => 0
def BX12_init : Nat → List MI
  | 0 => [(.aload 0, [], 0), (.invokedynamic 5, [3], 0), (.aload 0, [], 0), (.sipush 2000, [], 0), (.newarray .int, [], 0), (.putfield 9, [12, 1, 2], 0), (.aload 0, [], 0), (.sipush (-1), [], 0), (.putfield 13, [12, 3, 0], 0), (.aload 0, [], 0), (.new 17, [10], 0), (.dup, [], 0), (.invokespecial 19, [140, 1], 0), (.putfield 20, [12, 6, 2], 0), (.aload 0, [], 0), (.new 24, [11], 0), (.dup, [], 0), (.invokespecial 26, [141, 1], 0), (.putfield 27, [12, 7, 2], 0), (.aload 0, [], 0), (.new 24, [11], 0), (.dup, [], 0), (.invokespecial 26, [141, 1], 0), (.putfield 31, [12, 8, 2], 0), (.aload 0, [], 0), (.aload 0, [], 0), (.getfield 27, [12, 7, 2], 0), (.putfield 34, [12, 10, 2], 0), (.aload 0, [], 0), (.sipush 10, [], 0), (.newarray .int, [], 0), (.putfield 37, [12, 11, 2], 0), (.aload 0, [], 0), (.sipush 10, [], 0), (.newarray .int, [], 0), (.putfield 40, [12, 12, 2], 0), (.aload 0, [], 0), (.sipush 10, [], 0), (.newarray .int, [], 0), (.putfield 43, [12, 13, 2], 0), (.aload 0, [], 0), (.sipush 14, [], 0), (.newarray .boolean, [], 0), (.putfield 46, [12, 14, 2], 0), (.aload 0, [], 0), (.sipush 14, [], 0), (.newarray .boolean, [], 0), (.putfield 50, [12, 15, 2], 0), (.aload 0, [], 0), (.sipush 14, [], 0), (.newarray .boolean, [], 0), (.putfield 53, [12, 16, 2], 0), (.aload 0, [], 0), (.sipush (-1), [], 0), (.putfield 56, [12, 17, 0], 0), (.aload 0, [], 0), (.getfield 27, [12, 7, 2], 0), (.getfield 59, [11, 6, 2], 0), (.sipush (-1), [], 0), (.invokestatic 62, [219, 2], 0), (.return_, [], 0)]
  | _ => []
def PX12_init : Nat → Nat
  | 0 => 0
  | _ => 0
def BX12_thrown : Nat → List MI
  | 0 => [(.aload 0, [], 0), (.getfield 66, [12, 0, 0], 0), (.ireturn, [0], 0)]
  | _ => []
def PX12_thrown : Nat → Nat
  | 0 => 0
  | _ => 0
def BX12_no : Nat → List MI
  | 0 => [(.aload 0, [], 0), (.iload 1, [], 0), (.putfield 66, [12, 0, 0], 0), (.sipush 0, [], 0), (.ireturn, [0], 0)]
  | _ => []
def PX12_no : Nat → Nat
  | 0 => 0
  | _ => 0
def BX12_isIn : Nat → List MI
  | 0 => [(.iload 0, [], 0), (.iload 1, [], 0), (.if_icmp .lt 12, [1], 0), (.iload 0, [], 0), (.iload 2, [], 0), (.if_icmp .gt 7, [1], 0), (.sipush 1, [], 0), (.goto 4, [2], 0)]
  | 1 => [(.sipush 0, [], 0), (.invokedynamic 4, [2], 0)]
  | 2 => [(.ireturn, [1], 0)]
  | _ => []
def PX12_isIn : Nat → Nat
  | 0 => 0
  | 1 => 14
  | 2 => 15
  | _ => 0
def BX12_is : Nat → List MI
  | 0 => [(.iload 2, [], 0), (.sipush 0, [], 0), (.aload 0, [], 0), (.getfield 20, [12, 6, 2], 0), (.getfield 69, [10, 4, 2], 0), (.iload 1, [], 0), (.iaload, [], 0), (.sipush 1, [], 0), (.isub, [], 0), (.invokestatic 72, [152, 3], 0), (.ireturn, [1], 0)]
  | _ => []
def PX12_is : Nat → Nat
  | 0 => 0
  | _ => 0
def BX12_isLetter : Nat → List MI
  | 0 => [(.iload 0, [], 0), (.sipush 97, [], 0), (.if_icmp .lt 13, [1], 0), (.iload 0, [], 0), (.sipush 122, [], 0), (.if_icmp .gt 7, [1], 0), (.sipush 1, [], 0), (.goto 4, [2], 0)]
  | 1 => [(.sipush 0, [], 0), (.invokedynamic 4, [2], 0)]
  | 2 => [(.ireturn, [1], 0)]
  | _ => []
def PX12_isLetter : Nat → Nat
  | 0 => 0
  | 1 => 16
  | 2 => 17
  | _ => 0
def BX12_isDigit : Nat → List MI
  | 0 => [(.iload 0, [], 0), (.sipush 48, [], 0), (.if_icmp .lt 13, [1], 0), (.iload 0, [], 0), (.sipush 57, [], 0), (.if_icmp .gt 7, [1], 0), (.sipush 1, [], 0), (.goto 4, [2], 0)]
  | 1 => [(.sipush 0, [], 0), (.invokedynamic 4, [2], 0)]
  | 2 => [(.ireturn, [1], 0)]
  | _ => []
def PX12_isDigit : Nat → Nat
  | 0 => 0
  | 1 => 16
  | 2 => 17
  | _ => 0
def BX12_byteAt : Nat → List MI
  | 0 => [(.iload 1, [], 0), (.aload 0, [], 0), (.getfield 76, [12, 2, 0], 0), (.if_icmp .ge 12, [1], 0), (.aload 0, [], 0), (.getfield 9, [12, 1, 2], 0), (.iload 1, [], 0), (.iaload, [], 0), (.goto 4, [2], 0)]
  | 1 => [(.sipush (-1), [], 0), (.invokedynamic 4, [2], 0)]
  | 2 => [(.ireturn, [0], 0)]
  | _ => []
def PX12_byteAt : Nat → Nat
  | 0 => 0
  | 1 => 17
  | 2 => 18
  | _ => 0
def BX12_lengthAt : Nat → List MI
  | 0 => [(.aload 0, [], 0), (.iload 1, [], 0), (.invokevirtual 79, [156, 2], 0), (.istore 2, [], 0), (.iload 1, [], 0), (.sipush 1, [], 0), (.iadd, [], 0), (.istore 3, [], 0), (.iload 2, [], 0), (.invokestatic 83, [154, 1], 0), (.ifCond .ne 10, [1], 0), (.iload 2, [], 0), (.invokestatic 87, [155, 1], 0), (.ifCond .eq 38, [3], 0), (.invokedynamic 4, [1], 0)]
  | 1 => [(.aload 0, [], 0), (.iload 3, [], 0), (.invokevirtual 79, [156, 2], 0), (.invokestatic 87, [155, 1], 0), (.ifCond .ne 21, [2], 0), (.iload 2, [], 0), (.invokestatic 83, [154, 1], 0), (.ifCond .eq 45, [5], 0), (.aload 0, [], 0), (.iload 3, [], 0), (.invokevirtual 79, [156, 2], 0), (.invokestatic 83, [154, 1], 0), (.ifCond .eq 34, [5], 0), (.invokedynamic 4, [2], 0)]
  | 2 => [(.iinc 3 1, [], 0), (.goto (-32), [1], 0)]
  | 3 => [(.iload 2, [], 0), (.sipush 60, [], 0), (.if_icmp .eq 9, [4], 0), (.iload 2, [], 0), (.sipush 62, [], 0), (.if_icmp .ne 16, [5], 0), (.invokedynamic 4, [4], 0)]
  | 4 => [(.aload 0, [], 0), (.iload 3, [], 0), (.invokevirtual 79, [156, 2], 0), (.sipush 61, [], 0), (.if_icmp .ne 6, [5], 0), (.iinc 3 1, [], 0), (.invokedynamic 4, [5], 0)]
  | 5 => [(.iload 3, [], 0), (.iload 1, [], 0), (.isub, [], 0), (.ireturn, [0], 0)]
  | _ => []
def PX12_lengthAt : Nat → Nat
  | 0 => 0
  | 1 => 24
  | 2 => 53
  | 3 => 59
  | 4 => 71
  | 5 => 84
  | _ => 0
def BX12_kindAt : Nat → List MI
  | 0 => [(.aload 0, [], 0), (.iload 1, [], 0), (.invokevirtual 79, [156, 2], 0), (.istore 3, [], 0), (.iload 3, [], 0), (.sipush (-1), [], 0), (.if_icmp .ne 6, [1], 0), (.sipush 70, [], 0), (.ireturn, [0], 0)]
  | 1 => [(.iload 3, [], 0), (.invokestatic 87, [155, 1], 0), (.ifCond .eq 17, [4], 0), (.iload 2, [], 0), (.sipush 6, [], 0), (.if_icmp .le 8, [2], 0), (.sipush 71, [], 0), (.goto 5, [3], 0)]
  | 2 => [(.sipush 37, [], 0), (.invokedynamic 4, [3], 0)]
  | 3 => [(.ireturn, [0], 0)]
  | 4 => [(.iload 3, [], 0), (.invokestatic 83, [154, 1], 0), (.ifCond .eq 21, [7], 0), (.iload 2, [], 0), (.sipush 10, [], 0), (.if_icmp .le 8, [5], 0), (.sipush 71, [], 0), (.goto 9, [6], 0)]
  | 5 => [(.aload 0, [], 0), (.iload 1, [], 0), (.iload 2, [], 0), (.invokevirtual 90, [159, 3], 0), (.invokedynamic 4, [6], 0)]
  | 6 => [(.ireturn, [0], 0)]
  | 7 => [(.iload 2, [], 0), (.sipush 2, [], 0), (.if_icmp .ne 17, [10], 0), (.iload 3, [], 0), (.sipush 60, [], 0), (.if_icmp .ne 8, [8], 0), (.sipush 53, [], 0), (.goto 5, [9], 0)]
  | 8 => [(.sipush 54, [], 0), (.invokedynamic 4, [9], 0)]
  | 9 => [(.ireturn, [0], 0)]
  | 10 => [(.ldc 94, [142], 0), (.iload 3, [], 0), (.invokevirtual 96, [272, 2], 0), (.istore 4, [], 0), (.iload 4, [], 0), (.ifCond .ge 8, [11], 0), (.sipush 71, [], 0), (.goto 8, [12], 0)]
  | 11 => [(.sipush 40, [], 0), (.iload 4, [], 0), (.iadd, [], 0), (.invokedynamic 4, [12], 0)]
  | 12 => [(.ireturn, [0], 0)]
  | _ => []
def PX12_kindAt : Nat → Nat
  | 0 => 0
  | 1 => 14
  | 2 => 32
  | 3 => 34
  | 4 => 35
  | 5 => 53
  | 6 => 59
  | 7 => 60
  | 8 => 76
  | 9 => 78
  | 10 => 79
  | 11 => 97
  | 12 => 102
  | _ => 0
def BX12_wordAt : Nat → List MI
  | 0 => [(.sipush 0, [], 0), (.istore 3, [], 0), (.invokedynamic 4, [1], 0)]
  | 1 => [(.iload 3, [], 0), (.getstatic 101, [0, 301], 0), (.arraylength, [], 0), (.if_icmp .ge 80, [5], 0), (.sipush 0, [], 0), (.istore 4, [], 0), (.invokedynamic 4, [2], 0)]
  | 2 => [(.iload 4, [], 0), (.iload 2, [], 0), (.if_icmp .ge 44, [3], 0), (.iload 4, [], 0), (.getstatic 101, [0, 301], 0), (.iload 3, [], 0), (.aaload, [], 0), (.invokevirtual 105, [270, 1], 0), (.if_icmp .ge 31, [3], 0), (.getstatic 101, [0, 301], 0), (.iload 3, [], 0), (.aaload, [], 0), (.iload 4, [], 0), (.invokevirtual 109, [271, 2], 0), (.aload 0, [], 0), (.getfield 9, [12, 1, 2], 0), (.iload 1, [], 0), (.iload 4, [], 0), (.iadd, [], 0), (.iaload, [], 0), (.if_icmp .ne 9, [3], 0), (.iinc 4 1, [], 0), (.goto (-44), [2], 0)]
  | 3 => [(.iload 4, [], 0), (.iload 2, [], 0), (.if_icmp .ne 18, [4], 0), (.iload 4, [], 0), (.getstatic 101, [0, 301], 0), (.iload 3, [], 0), (.aaload, [], 0), (.invokevirtual 105, [270, 1], 0), (.if_icmp .ne 5, [4], 0), (.iload 3, [], 0), (.ireturn, [0], 0)]
  | 4 => [(.iinc 3 1, [], 0), (.goto (-82), [1], 0)]
  | 5 => [(.sipush 36, [], 0), (.ireturn, [0], 0)]
  | _ => []
def PX12_wordAt : Nat → Nat
  | 0 => 0
  | 1 => 2
  | 2 => 13
  | 3 => 60
  | 4 => 81
  | 5 => 87
  | _ => 0
def BX12_cut : Nat → List MI
  | 0 => [(.sipush 0, [], 0), (.istore 2, [], 0), (.sipush 0, [], 0), (.istore 3, [], 0), (.invokedynamic 4, [1], 0)]
  | 1 => [(.iload 3, [], 0), (.sipush 400, [], 0), (.if_icmp .gt 117, [7], 0), (.invokedynamic 4, [2], 0)]
  | 2 => [(.aload 0, [], 0), (.iload 2, [], 0), (.invokevirtual 79, [156, 2], 0), (.sipush 32, [], 0), (.if_icmp .eq 13, [3], 0), (.aload 0, [], 0), (.iload 2, [], 0), (.invokevirtual 79, [156, 2], 0), (.sipush 10, [], 0), (.if_icmp .ne 9, [4], 0), (.invokedynamic 4, [3], 0)]
  | 3 => [(.iinc 2 1, [], 0), (.goto (-23), [2], 0)]
  | 4 => [(.aload 1, [], 0), (.getfield 113, [10, 1, 2], 0), (.iload 3, [], 0), (.iload 2, [], 0), (.iastore, [], 0), (.aload 1, [], 0), (.getfield 116, [10, 2, 2], 0), (.iload 3, [], 0), (.aload 0, [], 0), (.iload 2, [], 0), (.invokevirtual 119, [157, 2], 0), (.iastore, [], 0), (.aload 1, [], 0), (.getfield 122, [10, 0, 2], 0), (.iload 3, [], 0), (.aload 0, [], 0), (.iload 2, [], 0), (.aload 1, [], 0), (.getfield 116, [10, 2, 2], 0), (.iload 3, [], 0), (.iaload, [], 0), (.invokevirtual 125, [158, 3], 0), (.iastore, [], 0), (.iload 3, [], 0), (.sipush 400, [], 0), (.if_icmp .ne 22, [5], 0), (.aload 1, [], 0), (.getfield 122, [10, 0, 2], 0), (.iload 3, [], 0), (.iaload, [], 0), (.sipush 70, [], 0), (.if_icmp .eq 11, [5], 0), (.aload 1, [], 0), (.getfield 122, [10, 0, 2], 0), (.iload 3, [], 0), (.sipush 71, [], 0), (.iastore, [], 0), (.invokedynamic 4, [5], 0)]
  | 5 => [(.aload 1, [], 0), (.getfield 122, [10, 0, 2], 0), (.iload 3, [], 0), (.iaload, [], 0), (.sipush 70, [], 0), (.if_icmp .lt 4, [6], 0), (.return_, [], 0)]
  | 6 => [(.iload 2, [], 0), (.aload 1, [], 0), (.getfield 116, [10, 2, 2], 0), (.iload 3, [], 0), (.iaload, [], 0), (.iadd, [], 0), (.istore 2, [], 0), (.iinc 3 1, [], 0), (.goto (-118), [1], 0)]
  | 7 => [(.return_, [], 0)]
  | _ => []
def PX12_cut : Nat → Nat
  | 0 => 0
  | 1 => 4
  | 2 => 11
  | 3 => 31
  | 4 => 37
  | 5 => 98
  | 6 => 110
  | 7 => 125
  | _ => 0
def BX12_eat : Nat → List MI
  | 0 => [(.aload 1, [], 0), (.getfield 122, [10, 0, 2], 0), (.aload 0, [], 0), (.getfield 128, [12, 4, 0], 0), (.iaload, [], 0), (.iload 2, [], 0), (.if_icmp .eq 5, [1], 0), (.sipush 0, [], 0), (.ireturn, [1], 0)]
  | 1 => [(.aload 0, [], 0), (.dup, [], 0), (.getfield 128, [12, 4, 0], 0), (.sipush 1, [], 0), (.iadd, [], 0), (.putfield 128, [12, 4, 0], 0), (.sipush 1, [], 0), (.ireturn, [1], 0)]
  | _ => []
def PX12_eat : Nat → Nat
  | 0 => 0
  | 1 => 15
  | _ => 0
def BX12_eatIn : Nat → List MI
  | 0 => [(.aload 1, [], 0), (.getfield 122, [10, 0, 2], 0), (.aload 0, [], 0), (.getfield 128, [12, 4, 0], 0), (.iaload, [], 0), (.iload 2, [], 0), (.iload 3, [], 0), (.invokestatic 72, [152, 3], 0), (.ifCond .ne 5, [1], 0), (.sipush 0, [], 0), (.ireturn, [1], 0)]
  | 1 => [(.aload 0, [], 0), (.dup, [], 0), (.getfield 128, [12, 4, 0], 0), (.sipush 1, [], 0), (.iadd, [], 0), (.putfield 128, [12, 4, 0], 0), (.sipush 1, [], 0), (.ireturn, [1], 0)]
  | _ => []
def PX12_eatIn : Nat → Nat
  | 0 => 0
  | 1 => 19
  | _ => 0
def BX12_goDown : Nat → List MI
  | 0 => [(.aload 1, [], 0), (.getfield 122, [10, 0, 2], 0), (.aload 0, [], 0), (.getfield 128, [12, 4, 0], 0), (.iaload, [], 0), (.iload 2, [], 0), (.if_icmp .ne 12, [1], 0), (.aload 0, [], 0), (.getfield 131, [12, 5, 0], 0), (.sipush 8, [], 0), (.if_icmp .ne 5, [2], 0), (.invokedynamic 4, [1], 0)]
  | 1 => [(.sipush 0, [], 0), (.ireturn, [1], 0)]
  | 2 => [(.aload 0, [], 0), (.dup, [], 0), (.getfield 131, [12, 5, 0], 0), (.sipush 1, [], 0), (.iadd, [], 0), (.putfield 131, [12, 5, 0], 0), (.aload 0, [], 0), (.dup, [], 0), (.getfield 128, [12, 4, 0], 0), (.sipush 1, [], 0), (.iadd, [], 0), (.putfield 128, [12, 4, 0], 0), (.sipush 1, [], 0), (.ireturn, [1], 0)]
  | _ => []
def PX12_goDown : Nat → Nat
  | 0 => 0
  | 1 => 22
  | 2 => 24
  | _ => 0
def BX12_isList : Nat → List MI
  | 0 => [(.aload 1, [], 0), (.getfield 122, [10, 0, 2], 0), (.aload 0, [], 0), (.getfield 128, [12, 4, 0], 0), (.iaload, [], 0), (.sipush 70, [], 0), (.if_icmp .eq 23, [2], 0), (.aload 0, [], 0), (.aload 1, [], 0), (.invokevirtual 134, [168, 2], 0), (.ifCond .eq 13, [1], 0), (.aload 0, [], 0), (.aload 1, [], 0), (.sipush 44, [], 0), (.invokevirtual 138, [161, 3], 0), (.ifCond .ne (-29), [0], 0), (.invokedynamic 4, [1], 0)]
  | 1 => [(.sipush 0, [], 0), (.ireturn, [1], 0)]
  | 2 => [(.sipush 1, [], 0), (.ireturn, [1], 0)]
  | _ => []
def PX12_isList : Nat → Nat
  | 0 => 0
  | 1 => 32
  | 2 => 34
  | _ => 0
def BX12_isNumber : Nat → List MI
  | 0 => [(.aload 0, [], 0), (.aload 1, [], 0), (.iload 2, [], 0), (.invokevirtual 138, [161, 3], 0), (.ifCond .eq 17, [1], 0), (.aload 0, [], 0), (.aload 1, [], 0), (.sipush 37, [], 0), (.invokevirtual 138, [161, 3], 0), (.ifCond .eq 7, [1], 0), (.sipush 1, [], 0), (.goto 4, [2], 0)]
  | 1 => [(.sipush 0, [], 0), (.invokedynamic 4, [2], 0)]
  | 2 => [(.ireturn, [1], 0)]
  | _ => []
def PX12_isNumber : Nat → Nat
  | 0 => 0
  | 1 => 23
  | 2 => 24
  | _ => 0
def BX12_isName : Nat → List MI
  | 0 => [(.aload 0, [], 0), (.aload 1, [], 0), (.iload 2, [], 0), (.invokevirtual 138, [161, 3], 0), (.ifCond .eq 17, [1], 0), (.aload 0, [], 0), (.aload 1, [], 0), (.sipush 36, [], 0), (.invokevirtual 138, [161, 3], 0), (.ifCond .eq 7, [1], 0), (.sipush 1, [], 0), (.goto 4, [2], 0)]
  | 1 => [(.sipush 0, [], 0), (.invokedynamic 4, [2], 0)]
  | 2 => [(.ireturn, [1], 0)]
  | _ => []
def PX12_isName : Nat → Nat
  | 0 => 0
  | 1 => 23
  | 2 => 24
  | _ => 0
def BX12_isWhen : Nat → List MI
  | 0 => [(.aload 0, [], 0), (.aload 1, [], 0), (.sipush 12, [], 0), (.invokevirtual 138, [161, 3], 0), (.ifCond .eq 15, [1], 0), (.aload 0, [], 0), (.aload 1, [], 0), (.invokevirtual 142, [169, 2], 0), (.ifCond .eq 7, [1], 0), (.sipush 1, [], 0), (.goto 4, [2], 0)]
  | 1 => [(.sipush 0, [], 0), (.invokedynamic 4, [2], 0)]
  | 2 => [(.ireturn, [1], 0)]
  | _ => []
def PX12_isWhen : Nat → Nat
  | 0 => 0
  | 1 => 22
  | 2 => 23
  | _ => 0
def BX12_isLine : Nat → List MI
  | 0 => [(.aload 1, [], 0), (.getfield 122, [10, 0, 2], 0), (.aload 0, [], 0), (.getfield 128, [12, 4, 0], 0), (.iaload, [], 0), (.tableswitch 177 0 8 #[51, 58, 177, 177, 177, 100, 177, 177, 135], [11, 1, 2, 11, 11, 11, 5, 11, 11, 8], 0)]
  | 1 => [(.aload 0, [], 0), (.aload 1, [], 0), (.sipush 0, [], 0), (.invokevirtual 145, [166, 3], 0), (.ireturn, [1], 0)]
  | 2 => [(.aload 0, [], 0), (.aload 1, [], 0), (.sipush 1, [], 0), (.invokevirtual 145, [166, 3], 0), (.ifCond .eq 34, [3], 0), (.aload 0, [], 0), (.aload 1, [], 0), (.sipush 2, [], 0), (.invokevirtual 145, [166, 3], 0), (.ifCond .eq 25, [3], 0), (.aload 0, [], 0), (.aload 1, [], 0), (.sipush 3, [], 0), (.invokevirtual 145, [166, 3], 0), (.ifCond .eq 16, [3], 0), (.aload 0, [], 0), (.aload 1, [], 0), (.sipush 4, [], 0), (.invokevirtual 148, [165, 3], 0), (.ifCond .eq 7, [3], 0), (.sipush 1, [], 0), (.goto 4, [4], 0)]
  | 3 => [(.sipush 0, [], 0), (.invokedynamic 4, [4], 0)]
  | 4 => [(.ireturn, [1], 0)]
  | 5 => [(.aload 0, [], 0), (.aload 1, [], 0), (.sipush 5, [], 0), (.invokevirtual 145, [166, 3], 0), (.ifCond .eq 27, [6], 0), (.aload 0, [], 0), (.aload 1, [], 0), (.sipush 6, [], 0), (.invokevirtual 145, [166, 3], 0), (.ifCond .eq 17, [6], 0), (.aload 0, [], 0), (.aload 1, [], 0), (.sipush 7, [], 0), (.invokevirtual 148, [165, 3], 0), (.ifCond .eq 7, [6], 0), (.sipush 1, [], 0), (.goto 4, [7], 0)]
  | 6 => [(.sipush 0, [], 0), (.invokedynamic 4, [7], 0)]
  | 7 => [(.ireturn, [1], 0)]
  | 8 => [(.aload 0, [], 0), (.aload 1, [], 0), (.sipush 8, [], 0), (.invokevirtual 145, [166, 3], 0), (.ifCond .eq 33, [9], 0), (.aload 0, [], 0), (.aload 1, [], 0), (.sipush 9, [], 0), (.invokevirtual 138, [161, 3], 0), (.ifCond .eq 23, [9], 0), (.aload 0, [], 0), (.aload 1, [], 0), (.invokevirtual 151, [172, 2], 0), (.ifCond .eq 15, [9], 0), (.aload 0, [], 0), (.aload 1, [], 0), (.invokevirtual 154, [167, 2], 0), (.ifCond .eq 7, [9], 0), (.sipush 1, [], 0), (.goto 4, [10], 0)]
  | 9 => [(.sipush 0, [], 0), (.invokedynamic 4, [10], 0)]
  | 10 => [(.ireturn, [1], 0)]
  | 11 => [(.aload 0, [], 0), (.aload 1, [], 0), (.sipush 10, [], 0), (.sipush 11, [], 0), (.invokevirtual 157, [162, 4], 0), (.ifCond .eq 25, [12], 0), (.aload 0, [], 0), (.aload 1, [], 0), (.sipush 36, [], 0), (.invokevirtual 138, [161, 3], 0), (.ifCond .eq 15, [12], 0), (.aload 0, [], 0), (.aload 1, [], 0), (.invokevirtual 154, [167, 2], 0), (.ifCond .eq 7, [12], 0), (.sipush 1, [], 0), (.goto 4, [13], 0)]
  | 12 => [(.sipush 0, [], 0), (.invokedynamic 4, [13], 0)]
  | 13 => [(.ireturn, [1], 0)]
  | _ => []
def PX12_isLine : Nat → Nat
  | 0 => 0
  | 1 => 60
  | 2 => 67
  | 3 => 107
  | 4 => 108
  | 5 => 109
  | 6 => 142
  | 7 => 143
  | 8 => 144
  | 9 => 184
  | 10 => 185
  | 11 => 186
  | 12 => 220
  | 13 => 221
  | _ => 0
def BX12_isTest : Nat → List MI
  | 0 => [(.aload 0, [], 0), (.aload 1, [], 0), (.invokevirtual 161, [170, 2], 0), (.ifCond .ne 5, [1], 0), (.sipush 0, [], 0), (.ireturn, [1], 0)]
  | 1 => [(.aload 0, [], 0), (.aload 1, [], 0), (.sipush 23, [], 0), (.invokevirtual 138, [161, 3], 0), (.ifCond .ne (-17), [0], 0), (.sipush 1, [], 0), (.ireturn, [1], 0)]
  | _ => []
def PX12_isTest : Nat → Nat
  | 0 => 0
  | 1 => 10
  | _ => 0
def BX12_isBoth : Nat → List MI
  | 0 => [(.aload 0, [], 0), (.aload 1, [], 0), (.invokevirtual 164, [171, 2], 0), (.ifCond .ne 5, [1], 0), (.sipush 0, [], 0), (.ireturn, [1], 0)]
  | 1 => [(.aload 0, [], 0), (.aload 1, [], 0), (.sipush 22, [], 0), (.invokevirtual 138, [161, 3], 0), (.ifCond .ne (-17), [0], 0), (.sipush 1, [], 0), (.ireturn, [1], 0)]
  | _ => []
def PX12_isBoth : Nat → Nat
  | 0 => 0
  | 1 => 10
  | _ => 0
def BX12_isSingle : Nat → List MI
  | 0 => [(.aload 1, [], 0), (.getfield 122, [10, 0, 2], 0), (.aload 0, [], 0), (.getfield 128, [12, 4, 0], 0), (.iaload, [], 0), (.sipush 21, [], 0), (.if_icmp .ne 35, [3], 0), (.aload 0, [], 0), (.aload 1, [], 0), (.sipush 21, [], 0), (.invokevirtual 167, [163, 3], 0), (.ifCond .eq 11, [1], 0), (.aload 0, [], 0), (.aload 1, [], 0), (.invokevirtual 164, [171, 2], 0), (.ifCond .ne 5, [2], 0), (.invokedynamic 4, [1], 0)]
  | 1 => [(.sipush 0, [], 0), (.ireturn, [1], 0)]
  | 2 => [(.aload 0, [], 0), (.dup, [], 0), (.getfield 131, [12, 5, 0], 0), (.sipush 1, [], 0), (.isub, [], 0), (.putfield 131, [12, 5, 0], 0), (.sipush 1, [], 0), (.ireturn, [1], 0)]
  | 3 => [(.aload 1, [], 0), (.getfield 122, [10, 0, 2], 0), (.aload 0, [], 0), (.getfield 128, [12, 4, 0], 0), (.iaload, [], 0), (.sipush 42, [], 0), (.if_icmp .ne 45, [6], 0), (.aload 0, [], 0), (.aload 1, [], 0), (.sipush 42, [], 0), (.invokevirtual 167, [163, 3], 0), (.ifCond .eq 21, [4], 0), (.aload 0, [], 0), (.aload 1, [], 0), (.invokevirtual 142, [169, 2], 0), (.ifCond .eq 13, [4], 0), (.aload 0, [], 0), (.aload 1, [], 0), (.sipush 43, [], 0), (.invokevirtual 138, [161, 3], 0), (.ifCond .ne 5, [5], 0), (.invokedynamic 4, [4], 0)]
  | 4 => [(.sipush 0, [], 0), (.ireturn, [1], 0)]
  | 5 => [(.aload 0, [], 0), (.dup, [], 0), (.getfield 131, [12, 5, 0], 0), (.sipush 1, [], 0), (.isub, [], 0), (.putfield 131, [12, 5, 0], 0), (.sipush 1, [], 0), (.ireturn, [1], 0)]
  | 6 => [(.aload 0, [], 0), (.aload 1, [], 0), (.sipush 18, [], 0), (.invokevirtual 138, [161, 3], 0), (.ifCond .eq 11, [7], 0), (.aload 0, [], 0), (.aload 1, [], 0), (.sipush 36, [], 0), (.invokevirtual 138, [161, 3], 0), (.ireturn, [1], 0)]
  | 7 => [(.aload 0, [], 0), (.aload 1, [], 0), (.sipush 19, [], 0), (.sipush 20, [], 0), (.invokevirtual 157, [162, 4], 0), (.ifCond .eq 29, [10], 0), (.aload 0, [], 0), (.aload 1, [], 0), (.sipush 36, [], 0), (.invokevirtual 138, [161, 3], 0), (.ifCond .eq 17, [8], 0), (.aload 0, [], 0), (.aload 1, [], 0), (.sipush 36, [], 0), (.invokevirtual 138, [161, 3], 0), (.ifCond .eq 7, [8], 0), (.sipush 1, [], 0), (.goto 4, [9], 0)]
  | 8 => [(.sipush 0, [], 0), (.invokedynamic 4, [9], 0)]
  | 9 => [(.ireturn, [1], 0)]
  | 10 => [(.aload 0, [], 0), (.aload 1, [], 0), (.invokevirtual 151, [172, 2], 0), (.ifCond .eq 27, [11], 0), (.aload 0, [], 0), (.aload 1, [], 0), (.sipush 50, [], 0), (.sipush 54, [], 0), (.invokevirtual 157, [162, 4], 0), (.ifCond .eq 15, [11], 0), (.aload 0, [], 0), (.aload 1, [], 0), (.invokevirtual 151, [172, 2], 0), (.ifCond .eq 7, [11], 0), (.sipush 1, [], 0), (.goto 4, [12], 0)]
  | 11 => [(.sipush 0, [], 0), (.invokedynamic 4, [12], 0)]
  | 12 => [(.ireturn, [1], 0)]
  | _ => []
def PX12_isSingle : Nat → Nat
  | 0 => 0
  | 1 => 32
  | 2 => 34
  | 3 => 46
  | 4 => 88
  | 5 => 90
  | 6 => 102
  | 7 => 120
  | 8 => 156
  | 9 => 157
  | 10 => 158
  | 11 => 190
  | 12 => 191
  | _ => 0
def BX12_isSum : Nat → List MI
  | 0 => [(.aload 0, [], 0), (.aload 1, [], 0), (.invokevirtual 170, [173, 2], 0), (.ifCond .ne 5, [1], 0), (.sipush 0, [], 0), (.ireturn, [1], 0)]
  | 1 => [(.aload 0, [], 0), (.aload 1, [], 0), (.sipush 46, [], 0), (.sipush 47, [], 0), (.invokevirtual 157, [162, 4], 0), (.ifCond .ne (-19), [0], 0), (.sipush 1, [], 0), (.ireturn, [1], 0)]
  | _ => []
def PX12_isSum : Nat → Nat
  | 0 => 0
  | 1 => 10
  | _ => 0
def BX12_isProduct : Nat → List MI
  | 0 => [(.aload 0, [], 0), (.aload 1, [], 0), (.invokevirtual 173, [174, 2], 0), (.ifCond .ne 5, [1], 0), (.sipush 0, [], 0), (.ireturn, [1], 0)]
  | 1 => [(.aload 0, [], 0), (.aload 1, [], 0), (.sipush 48, [], 0), (.sipush 49, [], 0), (.invokevirtual 157, [162, 4], 0), (.ifCond .ne (-19), [0], 0), (.sipush 1, [], 0), (.ireturn, [1], 0)]
  | _ => []
def PX12_isProduct : Nat → Nat
  | 0 => 0
  | 1 => 10
  | _ => 0
def BX12_isValue : Nat → List MI
  | 0 => [(.aload 1, [], 0), (.getfield 122, [10, 0, 2], 0), (.aload 0, [], 0), (.getfield 128, [12, 4, 0], 0), (.iaload, [], 0), (.sipush 47, [], 0), (.if_icmp .ne 35, [3], 0), (.aload 0, [], 0), (.aload 1, [], 0), (.sipush 47, [], 0), (.invokevirtual 167, [163, 3], 0), (.ifCond .eq 11, [1], 0), (.aload 0, [], 0), (.aload 1, [], 0), (.invokevirtual 173, [174, 2], 0), (.ifCond .ne 5, [2], 0), (.invokedynamic 4, [1], 0)]
  | 1 => [(.sipush 0, [], 0), (.ireturn, [1], 0)]
  | 2 => [(.aload 0, [], 0), (.dup, [], 0), (.getfield 131, [12, 5, 0], 0), (.sipush 1, [], 0), (.isub, [], 0), (.putfield 131, [12, 5, 0], 0), (.sipush 1, [], 0), (.ireturn, [1], 0)]
  | 3 => [(.aload 0, [], 0), (.aload 1, [], 0), (.sipush 37, [], 0), (.invokevirtual 138, [161, 3], 0), (.ifCond .ne 13, [4], 0), (.aload 0, [], 0), (.aload 1, [], 0), (.sipush 13, [], 0), (.invokevirtual 138, [161, 3], 0), (.ifCond .eq 5, [5], 0), (.invokedynamic 4, [4], 0)]
  | 4 => [(.sipush 1, [], 0), (.ireturn, [1], 0)]
  | 5 => [(.aload 0, [], 0), (.aload 1, [], 0), (.sipush 16, [], 0), (.invokevirtual 138, [161, 3], 0), (.ifCond .eq 29, [8], 0), (.aload 0, [], 0), (.aload 1, [], 0), (.sipush 36, [], 0), (.invokevirtual 138, [161, 3], 0), (.ifCond .eq 17, [6], 0), (.aload 0, [], 0), (.aload 1, [], 0), (.sipush 36, [], 0), (.invokevirtual 138, [161, 3], 0), (.ifCond .eq 7, [6], 0), (.sipush 1, [], 0), (.goto 4, [7], 0)]
  | 6 => [(.sipush 0, [], 0), (.invokedynamic 4, [7], 0)]
  | 7 => [(.ireturn, [1], 0)]
  | 8 => [(.aload 0, [], 0), (.aload 1, [], 0), (.sipush 14, [], 0), (.sipush 17, [], 0), (.invokevirtual 157, [162, 4], 0), (.ifCond .eq 11, [9], 0), (.aload 0, [], 0), (.aload 1, [], 0), (.sipush 36, [], 0), (.invokevirtual 138, [161, 3], 0), (.ireturn, [1], 0)]
  | 9 => [(.aload 0, [], 0), (.aload 1, [], 0), (.sipush 24, [], 0), (.sipush 25, [], 0), (.invokevirtual 157, [162, 4], 0), (.istore 2, [], 0), (.aload 0, [], 0), (.aload 1, [], 0), (.sipush 40, [], 0), (.invokevirtual 167, [163, 3], 0), (.ifCond .eq 43, [11], 0), (.aload 0, [], 0), (.aload 1, [], 0), (.invokevirtual 151, [172, 2], 0), (.ifCond .eq 35, [11], 0), (.iload 2, [], 0), (.ifCond .eq 21, [10], 0), (.aload 0, [], 0), (.aload 1, [], 0), (.sipush 45, [], 0), (.invokevirtual 138, [161, 3], 0), (.ifCond .eq 21, [11], 0), (.aload 0, [], 0), (.aload 1, [], 0), (.invokevirtual 151, [172, 2], 0), (.ifCond .eq 13, [11], 0), (.invokedynamic 4, [10], 0)]
  | 10 => [(.aload 0, [], 0), (.aload 1, [], 0), (.sipush 41, [], 0), (.invokevirtual 138, [161, 3], 0), (.ifCond .ne 5, [12], 0), (.invokedynamic 4, [11], 0)]
  | 11 => [(.sipush 0, [], 0), (.ireturn, [1], 0)]
  | 12 => [(.aload 0, [], 0), (.dup, [], 0), (.getfield 131, [12, 5, 0], 0), (.sipush 1, [], 0), (.isub, [], 0), (.putfield 131, [12, 5, 0], 0), (.sipush 1, [], 0), (.ireturn, [1], 0)]
  | _ => []
def PX12_isValue : Nat → Nat
  | 0 => 0
  | 1 => 32
  | 2 => 34
  | 3 => 46
  | 4 => 66
  | 5 => 68
  | 6 => 102
  | 7 => 103
  | 8 => 104
  | 9 => 124
  | 10 => 174
  | 11 => 184
  | 12 => 186
  | _ => 0
def BX12_number : Nat → List MI
  | 0 => [(.sipush 0, [], 0), (.istore 3, [], 0), (.sipush 0, [], 0), (.istore 4, [], 0), (.invokedynamic 4, [1], 0)]
  | 1 => [(.iload 4, [], 0), (.aload 1, [], 0), (.getfield 116, [10, 2, 2], 0), (.iload 2, [], 0), (.iaload, [], 0), (.if_icmp .ge 32, [2], 0), (.sipush 10, [], 0), (.iload 3, [], 0), (.imul, [], 0), (.aload 0, [], 0), (.getfield 9, [12, 1, 2], 0), (.aload 1, [], 0), (.getfield 113, [10, 1, 2], 0), (.iload 2, [], 0), (.iaload, [], 0), (.iload 4, [], 0), (.iadd, [], 0), (.iaload, [], 0), (.iadd, [], 0), (.sipush 48, [], 0), (.isub, [], 0), (.istore 3, [], 0), (.iinc 4 1, [], 0), (.goto (-37), [1], 0)]
  | 2 => [(.iload 3, [], 0), (.ireturn, [0], 0)]
  | _ => []
def PX12_number : Nat → Nat
  | 0 => 0
  | 1 => 5
  | 2 => 45
  | _ => 0
def BX12_areSame : Nat → List MI
  | 0 => [(.aload 1, [], 0), (.getfield 116, [10, 2, 2], 0), (.iload 2, [], 0), (.iaload, [], 0), (.aload 1, [], 0), (.getfield 116, [10, 2, 2], 0), (.iload 3, [], 0), (.iaload, [], 0), (.if_icmp .ne 7, [1], 0), (.sipush 1, [], 0), (.goto 4, [2], 0)]
  | 1 => [(.sipush 0, [], 0), (.invokedynamic 4, [2], 0)]
  | 2 => [(.istore 4, [], 0), (.sipush 0, [], 0), (.istore 5, [], 0), (.invokedynamic 4, [3], 0)]
  | 3 => [(.iload 4, [], 0), (.ifCond .eq 58, [6], 0), (.iload 5, [], 0), (.aload 1, [], 0), (.getfield 116, [10, 2, 2], 0), (.iload 2, [], 0), (.iaload, [], 0), (.if_icmp .ge 47, [6], 0), (.aload 0, [], 0), (.getfield 9, [12, 1, 2], 0), (.aload 1, [], 0), (.getfield 113, [10, 1, 2], 0), (.iload 2, [], 0), (.iaload, [], 0), (.iload 5, [], 0), (.iadd, [], 0), (.iaload, [], 0), (.aload 0, [], 0), (.getfield 9, [12, 1, 2], 0), (.aload 1, [], 0), (.getfield 113, [10, 1, 2], 0), (.iload 3, [], 0), (.iaload, [], 0), (.iload 5, [], 0), (.iadd, [], 0), (.iaload, [], 0), (.if_icmp .ne 7, [4], 0), (.sipush 1, [], 0), (.goto 4, [5], 0)]
  | 4 => [(.sipush 0, [], 0), (.invokedynamic 4, [5], 0)]
  | 5 => [(.istore 4, [], 0), (.iinc 5 1, [], 0), (.goto (-57), [3], 0)]
  | 6 => [(.iload 4, [], 0), (.ireturn, [1], 0)]
  | _ => []
def PX12_areSame : Nat → Nat
  | 0 => 0
  | 1 => 19
  | 2 => 20
  | 3 => 25
  | 4 => 76
  | 5 => 77
  | 6 => 85
  | _ => 0
def BX12_find : Nat → List MI
  | 0 => [(.sipush 0, [], 0), (.istore 4, [], 0), (.invokedynamic 4, [1], 0)]
  | 1 => [(.iload 4, [], 0), (.aload 1, [], 0), (.getfield 69, [10, 4, 2], 0), (.iload 2, [], 0), (.iaload, [], 0), (.if_icmp .ge 33, [3], 0), (.aload 0, [], 0), (.aload 1, [], 0), (.aload 1, [], 0), (.getfield 176, [10, 5, 2], 0), (.sipush 14, [], 0), (.iload 2, [], 0), (.imul, [], 0), (.iload 4, [], 0), (.iadd, [], 0), (.iaload, [], 0), (.iload 3, [], 0), (.invokevirtual 179, [176, 4], 0), (.ifCond .eq 6, [2], 0), (.iload 4, [], 0), (.ireturn, [0], 0)]
  | 2 => [(.iinc 4 1, [], 0), (.goto (-38), [1], 0)]
  | 3 => [(.sipush (-1), [], 0), (.ireturn, [0], 0)]
  | _ => []
def PX12_find : Nat → Nat
  | 0 => 0
  | 1 => 3
  | 2 => 38
  | 3 => 44
  | _ => 0
def BX12_most : Nat → List MI
  | 0 => [(.iload 0, [], 0), (.ifCond .ne 8, [1], 0), (.sipush 10, [], 0), (.goto 15, [3], 0)]
  | 1 => [(.iload 0, [], 0), (.sipush 1, [], 0), (.if_icmp .ne 8, [2], 0), (.sipush 14, [], 0), (.goto 5, [3], 0)]
  | 2 => [(.sipush 6, [], 0), (.invokedynamic 4, [3], 0)]
  | 3 => [(.ireturn, [0], 0)]
  | _ => []
def PX12_most : Nat → Nat
  | 0 => 0
  | 1 => 9
  | 2 => 19
  | 3 => 21
  | _ => 0
def BX12_isSort : Nat → List MI
  | 0 => [(.iload 0, [], 0), (.ifCond .eq 13, [1], 0), (.iload 0, [], 0), (.sipush 1, [], 0), (.if_icmp .eq 8, [1], 0), (.iload 0, [], 0), (.sipush 5, [], 0), (.if_icmp .ne 7, [2], 0), (.invokedynamic 4, [1], 0)]
  | 1 => [(.sipush 1, [], 0), (.goto 4, [3], 0)]
  | 2 => [(.sipush 0, [], 0), (.invokedynamic 4, [3], 0)]
  | 3 => [(.ireturn, [1], 0)]
  | _ => []
def PX12_isSort : Nat → Nat
  | 0 => 0
  | 1 => 14
  | 2 => 18
  | 3 => 19
  | _ => 0
def BX12_errorOfNew : Nat → List MI
  | 0 => [(.aload 0, [], 0), (.aload 1, [], 0), (.iload 2, [], 0), (.iload 3, [], 0), (.invokevirtual 182, [177, 4], 0), (.sipush (-1), [], 0), (.if_icmp .eq 5, [1], 0), (.sipush 2, [], 0), (.ireturn, [0], 0)]
  | 1 => [(.aload 1, [], 0), (.getfield 69, [10, 4, 2], 0), (.iload 2, [], 0), (.iaload, [], 0), (.iload 2, [], 0), (.invokestatic 186, [178, 1], 0), (.if_icmp .ne 5, [2], 0), (.sipush 4, [], 0), (.ireturn, [0], 0)]
  | 2 => [(.aload 1, [], 0), (.getfield 176, [10, 5, 2], 0), (.sipush 14, [], 0), (.iload 2, [], 0), (.imul, [], 0), (.aload 1, [], 0), (.getfield 69, [10, 4, 2], 0), (.iload 2, [], 0), (.iaload, [], 0), (.iadd, [], 0), (.iload 3, [], 0), (.iastore, [], 0), (.aload 1, [], 0), (.getfield 69, [10, 4, 2], 0), (.iload 2, [], 0), (.dup2, [], 0), (.iaload, [], 0), (.sipush 1, [], 0), (.iadd, [], 0), (.iastore, [], 0), (.sipush 0, [], 0), (.ireturn, [0], 0)]
  | _ => []
def PX12_errorOfNew : Nat → Nat
  | 0 => 0
  | 1 => 13
  | 2 => 28
  | _ => 0
def BX12_sortOf : Nat → List MI
  | 0 => [(.aload 0, [], 0), (.getfield 122, [10, 0, 2], 0), (.iload 1, [], 0), (.sipush 1, [], 0), (.isub, [], 0), (.iaload, [], 0), (.lookupswitch 91 #[(8, 68), (10, 68), (14, 68), (15, 68), (17, 70), (18, 68), (36, 72)], [6, 1, 1, 1, 1, 2, 1, 3], 0)]
  | 1 => [(.sipush 1, [], 0), (.ireturn, [0], 0)]
  | 2 => [(.sipush 5, [], 0), (.ireturn, [0], 0)]
  | 3 => [(.aload 0, [], 0), (.getfield 122, [10, 0, 2], 0), (.iload 1, [], 0), (.sipush 2, [], 0), (.isub, [], 0), (.iaload, [], 0), (.sipush 19, [], 0), (.if_icmp .ne 7, [4], 0), (.sipush 5, [], 0), (.goto 4, [5], 0)]
  | 4 => [(.sipush 0, [], 0), (.invokedynamic 4, [5], 0)]
  | 5 => [(.ireturn, [0], 0)]
  | 6 => [(.sipush 0, [], 0), (.ireturn, [0], 0)]
  | _ => []
def PX12_sortOf : Nat → Nat
  | 0 => 0
  | 1 => 76
  | 2 => 78
  | 3 => 80
  | 4 => 97
  | 5 => 98
  | 6 => 99
  | _ => 0
def BX12_errorOfName : Nat → List MI
  | 0 => [(.aload 1, [], 0), (.getfield 122, [10, 0, 2], 0), (.iload 2, [], 0), (.sipush 1, [], 0), (.isub, [], 0), (.iaload, [], 0), (.istore 3, [], 0), (.iload 3, [], 0), (.invokestatic 189, [179, 1], 0), (.ifCond .eq 11, [1], 0), (.aload 0, [], 0), (.aload 1, [], 0), (.iload 3, [], 0), (.iload 2, [], 0), (.invokevirtual 192, [180, 4], 0), (.ireturn, [0], 0)]
  | 1 => [(.aload 0, [], 0), (.aload 1, [], 0), (.aload 1, [], 0), (.iload 2, [], 0), (.invokestatic 195, [181, 2], 0), (.iload 2, [], 0), (.invokevirtual 182, [177, 4], 0), (.istore 4, [], 0), (.aload 1, [], 0), (.getfield 199, [10, 3, 2], 0), (.iload 2, [], 0), (.iload 4, [], 0), (.iastore, [], 0), (.iload 4, [], 0), (.sipush (-1), [], 0), (.if_icmp .ne 5, [2], 0), (.sipush 3, [], 0), (.ireturn, [0], 0)]
  | 2 => [(.aload 1, [], 0), (.getfield 69, [10, 4, 2], 0), (.sipush 1, [], 0), (.iaload, [], 0), (.sipush 1, [], 0), (.isub, [], 0), (.istore 5, [], 0), (.iload 3, [], 0), (.tableswitch 126 2 11 #[56, 67, 126, 126, 94, 126, 111, 126, 111, 111], [9, 3, 4, 9, 9, 7, 9, 8, 9, 8, 8], 0)]
  | 3 => [(.aload 1, [], 0), (.getfield 202, [10, 6, 2], 0), (.iload 5, [], 0), (.iload 4, [], 0), (.iastore, [], 0), (.sipush 0, [], 0), (.ireturn, [0], 0)]
  | 4 => [(.aload 1, [], 0), (.getfield 205, [10, 7, 2], 0), (.iload 5, [], 0), (.iload 4, [], 0), (.iastore, [], 0), (.aload 1, [], 0), (.getfield 202, [10, 6, 2], 0), (.iload 5, [], 0), (.iaload, [], 0), (.iload 4, [], 0), (.if_icmp .ne 7, [5], 0), (.sipush 3, [], 0), (.goto 4, [6], 0)]
  | 5 => [(.sipush 0, [], 0), (.invokedynamic 4, [6], 0)]
  | 6 => [(.ireturn, [0], 0)]
  | 7 => [(.aload 1, [], 0), (.getfield 208, [10, 9, 2], 0), (.aload 1, [], 0), (.getfield 69, [10, 4, 2], 0), (.sipush 5, [], 0), (.iaload, [], 0), (.sipush 1, [], 0), (.isub, [], 0), (.iload 4, [], 0), (.iastore, [], 0), (.sipush 0, [], 0), (.ireturn, [0], 0)]
  | 8 => [(.aload 1, [], 0), (.getfield 211, [10, 13, 2], 0), (.aload 1, [], 0), (.getfield 214, [10, 11, 0], 0), (.sipush 1, [], 0), (.isub, [], 0), (.iload 4, [], 0), (.iastore, [], 0), (.sipush 0, [], 0), (.ireturn, [0], 0)]
  | 9 => [(.sipush 0, [], 0), (.ireturn, [0], 0)]
  | _ => []
def PX12_errorOfName : Nat → Nat
  | 0 => 0
  | 1 => 24
  | 2 => 53
  | 3 => 120
  | 4 => 131
  | 5 => 156
  | 6 => 157
  | 7 => 158
  | 8 => 175
  | 9 => 190
  | _ => 0
def BX12_errorOfNumber : Nat → List MI
  | 0 => [(.aload 0, [], 0), (.aload 1, [], 0), (.iload 2, [], 0), (.invokevirtual 217, [175, 3], 0), (.istore 3, [], 0), (.aload 1, [], 0), (.getfield 199, [10, 3, 2], 0), (.iload 2, [], 0), (.iload 3, [], 0), (.iastore, [], 0), (.aload 1, [], 0), (.getfield 122, [10, 0, 2], 0), (.iload 2, [], 0), (.sipush 1, [], 0), (.isub, [], 0), (.iaload, [], 0), (.sipush 4, [], 0), (.if_icmp .ne 33, [3], 0), (.aload 1, [], 0), (.getfield 220, [10, 8, 2], 0), (.aload 1, [], 0), (.getfield 69, [10, 4, 2], 0), (.sipush 1, [], 0), (.iaload, [], 0), (.sipush 1, [], 0), (.isub, [], 0), (.iload 3, [], 0), (.iastore, [], 0), (.iload 3, [], 0), (.sipush 1, [], 0), (.sipush 30, [], 0), (.invokestatic 72, [152, 3], 0), (.ifCond .eq 7, [1], 0), (.sipush 0, [], 0), (.goto 4, [2], 0)]
  | 1 => [(.sipush 5, [], 0), (.invokedynamic 4, [2], 0)]
  | 2 => [(.ireturn, [0], 0)]
  | 3 => [(.aload 1, [], 0), (.getfield 122, [10, 0, 2], 0), (.iload 2, [], 0), (.sipush 1, [], 0), (.isub, [], 0), (.iaload, [], 0), (.sipush 7, [], 0), (.if_icmp .eq 5, [4], 0), (.sipush 0, [], 0), (.ireturn, [0], 0)]
  | 4 => [(.aload 1, [], 0), (.getfield 223, [10, 10, 2], 0), (.aload 1, [], 0), (.getfield 69, [10, 4, 2], 0), (.sipush 5, [], 0), (.iaload, [], 0), (.sipush 1, [], 0), (.isub, [], 0), (.iload 3, [], 0), (.iastore, [], 0), (.iload 3, [], 0), (.sipush 0, [], 0), (.sipush 99, [], 0), (.invokestatic 72, [152, 3], 0), (.ifCond .eq 7, [5], 0), (.sipush 0, [], 0), (.goto 4, [6], 0)]
  | 5 => [(.sipush 5, [], 0), (.invokedynamic 4, [6], 0)]
  | 6 => [(.ireturn, [0], 0)]
  | _ => []
def PX12_errorOfNumber : Nat → Nat
  | 0 => 0
  | 1 => 54
  | 2 => 55
  | 3 => 56
  | 4 => 71
  | 5 => 99
  | 6 => 100
  | _ => 0
def BX12_errorOfOrder : Nat → List MI
  | 0 => [(.aload 1, [], 0), (.getfield 214, [10, 11, 0], 0), (.sipush 20, [], 0), (.if_icmp .ne 5, [1], 0), (.sipush 4, [], 0), (.ireturn, [0], 0)]
  | 1 => [(.aload 1, [], 0), (.getfield 225, [10, 12, 2], 0), (.aload 1, [], 0), (.getfield 214, [10, 11, 0], 0), (.iload 2, [], 0), (.iastore, [], 0), (.aload 1, [], 0), (.dup, [], 0), (.getfield 214, [10, 11, 0], 0), (.sipush 1, [], 0), (.iadd, [], 0), (.putfield 214, [10, 11, 0], 0), (.sipush 0, [], 0), (.ireturn, [0], 0)]
  | _ => []
def PX12_errorOfOrder : Nat → Nat
  | 0 => 0
  | 1 => 11
  | _ => 0
def BX12_errorOf : Nat → List MI
  | 0 => [(.aload 1, [], 0), (.getfield 122, [10, 0, 2], 0), (.iload 2, [], 0), (.iaload, [], 0), (.lookupswitch 124 #[(8, 80), (9, 92), (10, 80), (11, 80), (12, 108), (36, 66), (37, 73)], [6, 3, 4, 3, 3, 5, 1, 2], 0)]
  | 1 => [(.aload 0, [], 0), (.aload 1, [], 0), (.iload 2, [], 0), (.invokevirtual 228, [182, 3], 0), (.ireturn, [0], 0)]
  | 2 => [(.aload 0, [], 0), (.aload 1, [], 0), (.iload 2, [], 0), (.invokevirtual 231, [183, 3], 0), (.ireturn, [0], 0)]
  | 3 => [(.aload 0, [], 0), (.aload 1, [], 0), (.aload 1, [], 0), (.getfield 122, [10, 0, 2], 0), (.iload 2, [], 0), (.iaload, [], 0), (.invokevirtual 234, [184, 3], 0), (.ireturn, [0], 0)]
  | 4 => [(.aload 1, [], 0), (.getfield 237, [10, 14, 2], 0), (.aload 1, [], 0), (.getfield 214, [10, 11, 0], 0), (.sipush 1, [], 0), (.isub, [], 0), (.iload 2, [], 0), (.sipush 1, [], 0), (.iadd, [], 0), (.iastore, [], 0), (.sipush 0, [], 0), (.ireturn, [0], 0)]
  | 5 => [(.aload 1, [], 0), (.getfield 240, [10, 15, 2], 0), (.aload 1, [], 0), (.getfield 214, [10, 11, 0], 0), (.sipush 1, [], 0), (.isub, [], 0), (.iload 2, [], 0), (.sipush 1, [], 0), (.iadd, [], 0), (.iastore, [], 0), (.sipush 0, [], 0), (.ireturn, [0], 0)]
  | 6 => [(.sipush 0, [], 0), (.ireturn, [0], 0)]
  | _ => []
def PX12_errorOf : Nat → Nat
  | 0 => 0
  | 1 => 72
  | 2 => 79
  | 3 => 86
  | 4 => 98
  | 5 => 114
  | 6 => 130
  | _ => 0
def BX12_read : Nat → List MI
  | 0 => [(.aload 0, [], 0), (.aload 1, [], 0), (.invokevirtual 243, [160, 2], 0), (.aload 0, [], 0), (.sipush 0, [], 0), (.putfield 128, [12, 4, 0], 0), (.aload 0, [], 0), (.sipush 0, [], 0), (.putfield 131, [12, 5, 0], 0), (.aload 0, [], 0), (.aload 1, [], 0), (.invokevirtual 247, [164, 2], 0), (.ifCond .ne 18, [1], 0), (.aload 0, [], 0), (.aload 1, [], 0), (.getfield 113, [10, 1, 2], 0), (.aload 0, [], 0), (.getfield 128, [12, 4, 0], 0), (.iaload, [], 0), (.putfield 13, [12, 3, 0], 0), (.sipush 1, [], 0), (.ireturn, [0], 0)]
  | 1 => [(.sipush 0, [], 0), (.istore 2, [], 0), (.invokedynamic 4, [2], 0)]
  | 2 => [(.iload 2, [], 0), (.aload 0, [], 0), (.getfield 128, [12, 4, 0], 0), (.if_icmp .ge 35, [5], 0), (.aload 0, [], 0), (.aload 1, [], 0), (.iload 2, [], 0), (.invokevirtual 250, [185, 3], 0), (.istore 3, [], 0), (.iload 3, [], 0), (.ifCond .ne 6, [3], 0), (.goto 15, [4], 0)]
  | 3 => [(.aload 0, [], 0), (.aload 1, [], 0), (.getfield 113, [10, 1, 2], 0), (.iload 2, [], 0), (.iaload, [], 0), (.putfield 13, [12, 3, 0], 0), (.iload 3, [], 0), (.ireturn, [0], 0)]
  | 4 => [(.iinc 2 1, [], 0), (.goto (-37), [2], 0)]
  | 5 => [(.sipush 0, [], 0), (.ireturn, [0], 0)]
  | _ => []
def PX12_read : Nat → Nat
  | 0 => 0
  | 1 => 38
  | 2 => 40
  | 3 => 62
  | 4 => 74
  | 5 => 80
  | _ => 0
def BX12_goesBy : Nat → List MI
  | 0 => [(.aload 0, [], 0), (.getfield 20, [12, 6, 2], 0), (.getfield 122, [10, 0, 2], 0), (.aload 0, [], 0), (.getfield 253, [12, 9, 0], 0), (.iaload, [], 0), (.iload 1, [], 0), (.if_icmp .eq 5, [1], 0), (.sipush 0, [], 0), (.ireturn, [1], 0)]
  | 1 => [(.aload 0, [], 0), (.dup, [], 0), (.getfield 253, [12, 9, 0], 0), (.sipush 1, [], 0), (.iadd, [], 0), (.putfield 253, [12, 9, 0], 0), (.sipush 1, [], 0), (.ireturn, [1], 0)]
  | _ => []
def PX12_goesBy : Nat → Nat
  | 0 => 0
  | 1 => 18
  | _ => 0
def BX12_test : Nat → List MI
  | 0 => [(.aload 0, [], 0), (.invokevirtual 256, [189, 1], 0), (.istore 1, [], 0), (.invokedynamic 4, [1], 0)]
  | 1 => [(.aload 0, [], 0), (.sipush 23, [], 0), (.invokevirtual 260, [187, 2], 0), (.ifCond .eq 13, [2], 0), (.iload 1, [], 0), (.aload 0, [], 0), (.invokevirtual 256, [189, 1], 0), (.ior, [], 0), (.istore 1, [], 0), (.goto (-16), [1], 0)]
  | 2 => [(.iload 1, [], 0), (.ireturn, [1], 0)]
  | _ => []
def PX12_test : Nat → Nat
  | 0 => 0
  | 1 => 5
  | 2 => 24
  | _ => 0
def BX12_both : Nat → List MI
  | 0 => [(.aload 0, [], 0), (.invokevirtual 263, [191, 1], 0), (.istore 1, [], 0), (.invokedynamic 4, [1], 0)]
  | 1 => [(.aload 0, [], 0), (.sipush 22, [], 0), (.invokevirtual 260, [187, 2], 0), (.ifCond .eq 13, [2], 0), (.iload 1, [], 0), (.aload 0, [], 0), (.invokevirtual 263, [191, 1], 0), (.iand, [], 0), (.istore 1, [], 0), (.goto (-16), [1], 0)]
  | 2 => [(.iload 1, [], 0), (.ireturn, [1], 0)]
  | _ => []
def PX12_both : Nat → Nat
  | 0 => 0
  | 1 => 5
  | 2 => 24
  | _ => 0
def BX12_named : Nat → List MI
  | 0 => [(.aload 0, [], 0), (.getfield 20, [12, 6, 2], 0), (.getfield 199, [10, 3, 2], 0), (.aload 0, [], 0), (.getfield 253, [12, 9, 0], 0), (.iaload, [], 0), (.istore 1, [], 0), (.aload 0, [], 0), (.dup, [], 0), (.getfield 253, [12, 9, 0], 0), (.sipush 1, [], 0), (.iadd, [], 0), (.putfield 253, [12, 9, 0], 0), (.iload 1, [], 0), (.ireturn, [0], 0)]
  | _ => []
def PX12_named : Nat → Nat
  | 0 => 0
  | _ => 0
def BX12_single : Nat → List MI
  | 0 => [(.aload 0, [], 0), (.sipush 21, [], 0), (.invokevirtual 260, [187, 2], 0), (.ifCond .eq 16, [3], 0), (.aload 0, [], 0), (.invokevirtual 263, [191, 1], 0), (.ifCond .ne 7, [1], 0), (.sipush 1, [], 0), (.goto 4, [2], 0)]
  | 1 => [(.sipush 0, [], 0), (.invokedynamic 4, [2], 0)]
  | 2 => [(.ireturn, [1], 0)]
  | 3 => [(.aload 0, [], 0), (.sipush 42, [], 0), (.invokevirtual 260, [187, 2], 0), (.ifCond .eq 20, [4], 0), (.aload 0, [], 0), (.invokevirtual 266, [188, 1], 0), (.istore 1, [], 0), (.aload 0, [], 0), (.dup, [], 0), (.getfield 253, [12, 9, 0], 0), (.sipush 1, [], 0), (.iadd, [], 0), (.putfield 253, [12, 9, 0], 0), (.iload 1, [], 0), (.ireturn, [1], 0)]
  | 4 => [(.aload 0, [], 0), (.sipush 18, [], 0), (.invokevirtual 260, [187, 2], 0), (.ifCond .eq 15, [5], 0), (.aload 0, [], 0), (.getfield 34, [12, 10, 2], 0), (.aload 0, [], 0), (.invokevirtual 269, [190, 1], 0), (.invokevirtual 272, [144, 2], 0), (.ireturn, [1], 0)]
  | 5 => [(.aload 0, [], 0), (.sipush 19, [], 0), (.invokevirtual 260, [187, 2], 0), (.ifCond .eq 21, [6], 0), (.aload 0, [], 0), (.invokevirtual 269, [190, 1], 0), (.istore 1, [], 0), (.aload 0, [], 0), (.getfield 34, [12, 10, 2], 0), (.iload 1, [], 0), (.aload 0, [], 0), (.invokevirtual 269, [190, 1], 0), (.invokevirtual 275, [146, 3], 0), (.ireturn, [1], 0)]
  | 6 => [(.aload 0, [], 0), (.sipush 20, [], 0), (.invokevirtual 260, [187, 2], 0), (.ifCond .eq 31, [9], 0), (.aload 0, [], 0), (.invokevirtual 269, [190, 1], 0), (.istore 1, [], 0), (.aload 0, [], 0), (.aload 0, [], 0), (.getfield 34, [12, 10, 2], 0), (.iload 1, [], 0), (.aload 0, [], 0), (.invokevirtual 269, [190, 1], 0), (.invokevirtual 279, [198, 4], 0), (.sipush (-1), [], 0), (.if_icmp .ne 7, [7], 0), (.sipush 1, [], 0), (.goto 4, [8], 0)]
  | 7 => [(.sipush 0, [], 0), (.invokedynamic 4, [8], 0)]
  | 8 => [(.ireturn, [1], 0)]
  | 9 => [(.aload 0, [], 0), (.invokevirtual 283, [192, 1], 0), (.istore 1, [], 0), (.aload 0, [], 0), (.getfield 20, [12, 6, 2], 0), (.getfield 122, [10, 0, 2], 0), (.aload 0, [], 0), (.getfield 253, [12, 9, 0], 0), (.iaload, [], 0), (.istore 2, [], 0), (.aload 0, [], 0), (.dup, [], 0), (.getfield 253, [12, 9, 0], 0), (.sipush 1, [], 0), (.iadd, [], 0), (.putfield 253, [12, 9, 0], 0), (.aload 0, [], 0), (.invokevirtual 283, [192, 1], 0), (.istore 3, [], 0), (.iload 1, [], 0), (.iload 3, [], 0), (.if_icmp .ne 21, [13], 0), (.iload 2, [], 0), (.sipush 52, [], 0), (.if_icmp .eq 9, [10], 0), (.iload 2, [], 0), (.sipush 53, [], 0), (.if_icmp .lt 7, [11], 0), (.invokedynamic 4, [10], 0)]
  | 10 => [(.sipush 1, [], 0), (.goto 4, [12], 0)]
  | 11 => [(.sipush 0, [], 0), (.invokedynamic 4, [12], 0)]
  | 12 => [(.ireturn, [1], 0)]
  | 13 => [(.iload 1, [], 0), (.iload 3, [], 0), (.if_icmp .ge 23, [16], 0), (.iload 2, [], 0), (.sipush 50, [], 0), (.if_icmp .eq 9, [14], 0), (.iload 2, [], 0), (.sipush 53, [], 0), (.if_icmp .ne 7, [15], 0), (.invokedynamic 4, [14], 0)]
  | 14 => [(.sipush 1, [], 0), (.goto 24, [19], 0)]
  | 15 => [(.sipush 0, [], 0), (.goto 20, [19], 0)]
  | 16 => [(.iload 2, [], 0), (.sipush 51, [], 0), (.if_icmp .eq 9, [17], 0), (.iload 2, [], 0), (.sipush 54, [], 0), (.if_icmp .ne 7, [18], 0), (.invokedynamic 4, [17], 0)]
  | 17 => [(.sipush 1, [], 0), (.goto 4, [19], 0)]
  | 18 => [(.sipush 0, [], 0), (.invokedynamic 4, [19], 0)]
  | 19 => [(.ireturn, [1], 0)]
  | _ => []
def PX12_single : Nat → Nat
  | 0 => 0
  | 1 => 20
  | 2 => 21
  | 3 => 22
  | 4 => 48
  | 5 => 69
  | 6 => 96
  | 7 => 131
  | 8 => 132
  | 9 => 133
  | 10 => 183
  | 11 => 187
  | 12 => 188
  | 13 => 189
  | 14 => 206
  | 15 => 210
  | 16 => 214
  | 17 => 226
  | 18 => 230
  | 19 => 231
  | _ => 0
def BX12_sum : Nat → List MI
  | 0 => [(.aload 0, [], 0), (.invokevirtual 285, [193, 1], 0), (.istore 1, [], 0), (.invokedynamic 4, [1], 0)]
  | 1 => [(.aload 0, [], 0), (.getfield 20, [12, 6, 2], 0), (.getfield 122, [10, 0, 2], 0), (.aload 0, [], 0), (.getfield 253, [12, 9, 0], 0), (.iaload, [], 0), (.sipush 46, [], 0), (.sipush 47, [], 0), (.invokestatic 72, [152, 3], 0), (.ifCond .eq 50, [4], 0), (.aload 0, [], 0), (.getfield 20, [12, 6, 2], 0), (.getfield 122, [10, 0, 2], 0), (.aload 0, [], 0), (.getfield 253, [12, 9, 0], 0), (.iaload, [], 0), (.istore 2, [], 0), (.aload 0, [], 0), (.dup, [], 0), (.getfield 253, [12, 9, 0], 0), (.sipush 1, [], 0), (.iadd, [], 0), (.putfield 253, [12, 9, 0], 0), (.aload 0, [], 0), (.invokevirtual 285, [193, 1], 0), (.istore 3, [], 0), (.iload 2, [], 0), (.sipush 46, [], 0), (.if_icmp .ne 9, [2], 0), (.iload 1, [], 0), (.iload 3, [], 0), (.iadd, [], 0), (.goto 6, [3], 0)]
  | 2 => [(.iload 1, [], 0), (.iload 3, [], 0), (.isub, [], 0), (.invokedynamic 4, [3], 0)]
  | 3 => [(.istore 1, [], 0), (.goto (-66), [1], 0)]
  | 4 => [(.iload 1, [], 0), (.ireturn, [0], 0)]
  | _ => []
def PX12_sum : Nat → Nat
  | 0 => 0
  | 1 => 5
  | 2 => 67
  | 3 => 70
  | 4 => 74
  | _ => 0
def BX12_product : Nat → List MI
  | 0 => [(.aload 0, [], 0), (.invokevirtual 288, [194, 1], 0), (.istore 1, [], 0), (.invokedynamic 4, [1], 0)]
  | 1 => [(.aload 0, [], 0), (.getfield 20, [12, 6, 2], 0), (.getfield 122, [10, 0, 2], 0), (.aload 0, [], 0), (.getfield 253, [12, 9, 0], 0), (.iaload, [], 0), (.sipush 48, [], 0), (.sipush 49, [], 0), (.invokestatic 72, [152, 3], 0), (.ifCond .eq 58, [5], 0), (.aload 0, [], 0), (.getfield 20, [12, 6, 2], 0), (.getfield 122, [10, 0, 2], 0), (.aload 0, [], 0), (.getfield 253, [12, 9, 0], 0), (.iaload, [], 0), (.istore 2, [], 0), (.aload 0, [], 0), (.dup, [], 0), (.getfield 253, [12, 9, 0], 0), (.sipush 1, [], 0), (.iadd, [], 0), (.putfield 253, [12, 9, 0], 0), (.aload 0, [], 0), (.invokevirtual 288, [194, 1], 0), (.istore 3, [], 0), (.iload 2, [], 0), (.sipush 48, [], 0), (.if_icmp .ne 9, [2], 0), (.iload 1, [], 0), (.iload 3, [], 0), (.imul, [], 0), (.goto 14, [4], 0)]
  | 2 => [(.iload 3, [], 0), (.ifCond .ne 7, [3], 0), (.sipush 0, [], 0), (.goto 6, [4], 0)]
  | 3 => [(.iload 1, [], 0), (.iload 3, [], 0), (.idiv, [], 0), (.invokedynamic 4, [4], 0)]
  | 4 => [(.istore 1, [], 0), (.goto (-74), [1], 0)]
  | 5 => [(.iload 1, [], 0), (.ireturn, [0], 0)]
  | _ => []
def PX12_product : Nat → Nat
  | 0 => 0
  | 1 => 5
  | 2 => 67
  | 3 => 75
  | 4 => 78
  | 5 => 82
  | _ => 0
def BX12_value : Nat → List MI
  | 0 => [(.aload 0, [], 0), (.getfield 20, [12, 6, 2], 0), (.getfield 122, [10, 0, 2], 0), (.aload 0, [], 0), (.getfield 253, [12, 9, 0], 0), (.iaload, [], 0), (.istore 1, [], 0), (.aload 0, [], 0), (.dup, [], 0), (.getfield 253, [12, 9, 0], 0), (.sipush 1, [], 0), (.iadd, [], 0), (.putfield 253, [12, 9, 0], 0), (.iload 1, [], 0), (.lookupswitch 179 #[(13, 91), (14, 99), (15, 111), (16, 137), (17, 124), (37, 76), (40, 162), (47, 156)], [9, 2, 3, 4, 6, 5, 1, 8, 7], 0)]
  | 1 => [(.aload 0, [], 0), (.getfield 20, [12, 6, 2], 0), (.getfield 199, [10, 3, 2], 0), (.aload 0, [], 0), (.getfield 253, [12, 9, 0], 0), (.sipush 1, [], 0), (.isub, [], 0), (.iaload, [], 0), (.ireturn, [0], 0)]
  | 2 => [(.aload 0, [], 0), (.getfield 34, [12, 10, 2], 0), (.getfield 291, [11, 0, 0], 0), (.ireturn, [0], 0)]
  | 3 => [(.aload 0, [], 0), (.getfield 34, [12, 10, 2], 0), (.aload 0, [], 0), (.invokevirtual 269, [190, 1], 0), (.invokevirtual 294, [145, 2], 0), (.ireturn, [0], 0)]
  | 4 => [(.aload 0, [], 0), (.getfield 34, [12, 10, 2], 0), (.getfield 296, [11, 5, 2], 0), (.aload 0, [], 0), (.invokevirtual 269, [190, 1], 0), (.iaload, [], 0), (.ireturn, [0], 0)]
  | 5 => [(.aload 0, [], 0), (.aload 0, [], 0), (.getfield 34, [12, 10, 2], 0), (.aload 0, [], 0), (.invokevirtual 269, [190, 1], 0), (.invokevirtual 299, [205, 3], 0), (.ireturn, [0], 0)]
  | 6 => [(.aload 0, [], 0), (.invokevirtual 269, [190, 1], 0), (.istore 2, [], 0), (.aload 0, [], 0), (.aload 0, [], 0), (.getfield 34, [12, 10, 2], 0), (.iload 2, [], 0), (.aload 0, [], 0), (.invokevirtual 269, [190, 1], 0), (.invokevirtual 279, [198, 4], 0), (.ireturn, [0], 0)]
  | 7 => [(.aload 0, [], 0), (.invokevirtual 288, [194, 1], 0), (.ineg, [], 0), (.ireturn, [0], 0)]
  | 8 => [(.aload 0, [], 0), (.invokevirtual 283, [192, 1], 0), (.istore 2, [], 0), (.aload 0, [], 0), (.dup, [], 0), (.getfield 253, [12, 9, 0], 0), (.sipush 1, [], 0), (.iadd, [], 0), (.putfield 253, [12, 9, 0], 0), (.iload 2, [], 0), (.ireturn, [0], 0)]
  | 9 => [(.aload 0, [], 0), (.dup, [], 0), (.getfield 253, [12, 9, 0], 0), (.sipush 1, [], 0), (.iadd, [], 0), (.putfield 253, [12, 9, 0], 0), (.aload 0, [], 0), (.invokevirtual 283, [192, 1], 0), (.istore 2, [], 0), (.aload 0, [], 0), (.dup, [], 0), (.getfield 253, [12, 9, 0], 0), (.sipush 1, [], 0), (.iadd, [], 0), (.putfield 253, [12, 9, 0], 0), (.aload 0, [], 0), (.invokevirtual 283, [192, 1], 0), (.istore 3, [], 0), (.aload 0, [], 0), (.dup, [], 0), (.getfield 253, [12, 9, 0], 0), (.sipush 1, [], 0), (.iadd, [], 0), (.putfield 253, [12, 9, 0], 0), (.iload 1, [], 0), (.sipush 24, [], 0), (.if_icmp .ne 11, [10], 0), (.iload 2, [], 0), (.iload 3, [], 0), (.invokedynamic 2, [303], 0), (.goto 8, [11], 0)]
  | 10 => [(.iload 2, [], 0), (.iload 3, [], 0), (.invokedynamic 1, [308], 0), (.invokedynamic 4, [11], 0)]
  | 11 => [(.ireturn, [0], 0)]
  | _ => []
def PX12_value : Nat → Nat
  | 0 => 0
  | 1 => 100
  | 2 => 115
  | 3 => 123
  | 4 => 135
  | 5 => 148
  | 6 => 161
  | 7 => 180
  | 8 => 186
  | 9 => 203
  | 10 => 257
  | 11 => 262
  | _ => 0
def BX12_isUsed : Nat → List MI
  | 0 => [(.iload 2, [], 0), (.aload 0, [], 0), (.getfield 56, [12, 17, 0], 0), (.if_icmp .eq 15, [1], 0), (.aload 1, [], 0), (.iload 2, [], 0), (.invokevirtual 272, [144, 2], 0), (.ifCond .eq 7, [1], 0), (.sipush 1, [], 0), (.goto 4, [2], 0)]
  | 1 => [(.sipush 0, [], 0), (.invokedynamic 4, [2], 0)]
  | 2 => [(.ireturn, [1], 0)]
  | _ => []
def PX12_isUsed : Nat → Nat
  | 0 => 0
  | 1 => 20
  | 2 => 21
  | _ => 0
def BX12_look : Nat → List MI
  | 0 => [(.aload 0, [], 0), (.getfield 37, [12, 11, 2], 0), (.sipush (-1), [], 0), (.invokestatic 62, [219, 2], 0), (.aload 0, [], 0), (.getfield 37, [12, 11, 2], 0), (.iload 2, [], 0), (.sipush 0, [], 0), (.iastore, [], 0), (.sipush 1, [], 0), (.istore 3, [], 0), (.invokedynamic 4, [1], 0)]
  | 1 => [(.iload 3, [], 0), (.ifCond .eq 100, [6], 0), (.sipush 0, [], 0), (.istore 3, [], 0), (.sipush 0, [], 0), (.istore 4, [], 0), (.invokedynamic 4, [2], 0)]
  | 2 => [(.iload 4, [], 0), (.aload 0, [], 0), (.getfield 20, [12, 6, 2], 0), (.getfield 69, [10, 4, 2], 0), (.sipush 1, [], 0), (.iaload, [], 0), (.if_icmp .ge 78, [5], 0), (.aload 0, [], 0), (.aload 1, [], 0), (.iload 4, [], 0), (.invokevirtual 311, [195, 3], 0), (.ifCond .ne 6, [3], 0), (.goto 59, [4], 0)]
  | 3 => [(.aload 0, [], 0), (.getfield 20, [12, 6, 2], 0), (.getfield 202, [10, 6, 2], 0), (.iload 4, [], 0), (.iaload, [], 0), (.istore 5, [], 0), (.aload 0, [], 0), (.getfield 20, [12, 6, 2], 0), (.getfield 205, [10, 7, 2], 0), (.iload 4, [], 0), (.iaload, [], 0), (.istore 6, [], 0), (.iload 3, [], 0), (.aload 0, [], 0), (.iload 5, [], 0), (.iload 6, [], 0), (.aload 1, [], 0), (.iload 4, [], 0), (.invokevirtual 294, [145, 2], 0), (.invokevirtual 315, [197, 4], 0), (.aload 0, [], 0), (.iload 6, [], 0), (.iload 5, [], 0), (.aload 1, [], 0), (.iload 4, [], 0), (.invokevirtual 294, [145, 2], 0), (.invokevirtual 315, [197, 4], 0), (.ior, [], 0), (.ior, [], 0), (.istore 3, [], 0), (.invokedynamic 4, [4], 0)]
  | 4 => [(.iinc 4 1, [], 0), (.goto (-86), [2], 0)]
  | 5 => [(.goto (-98), [1], 0)]
  | 6 => [(.return_, [], 0)]
  | _ => []
def PX12_look : Nat → Nat
  | 0 => 0
  | 1 => 17
  | 2 => 26
  | 3 => 53
  | 4 => 109
  | 5 => 115
  | 6 => 118
  | _ => 0
def BX12_reaches : Nat → List MI
  | 0 => [(.aload 0, [], 0), (.getfield 37, [12, 11, 2], 0), (.iload 1, [], 0), (.iaload, [], 0), (.sipush (-1), [], 0), (.if_icmp .eq 30, [1], 0), (.aload 0, [], 0), (.getfield 37, [12, 11, 2], 0), (.iload 2, [], 0), (.iaload, [], 0), (.sipush (-1), [], 0), (.if_icmp .eq 22, [2], 0), (.aload 0, [], 0), (.getfield 37, [12, 11, 2], 0), (.iload 2, [], 0), (.iaload, [], 0), (.aload 0, [], 0), (.getfield 37, [12, 11, 2], 0), (.iload 1, [], 0), (.iaload, [], 0), (.iload 3, [], 0), (.iadd, [], 0), (.if_icmp .gt 5, [2], 0), (.invokedynamic 4, [1], 0)]
  | 1 => [(.sipush 0, [], 0), (.ireturn, [1], 0)]
  | 2 => [(.aload 0, [], 0), (.getfield 37, [12, 11, 2], 0), (.iload 2, [], 0), (.aload 0, [], 0), (.getfield 37, [12, 11, 2], 0), (.iload 1, [], 0), (.iaload, [], 0), (.iload 3, [], 0), (.iadd, [], 0), (.iastore, [], 0), (.sipush 1, [], 0), (.ireturn, [1], 0)]
  | _ => []
def PX12_reaches : Nat → Nat
  | 0 => 0
  | 1 => 37
  | 2 => 39
  | _ => 0
def BX12_far : Nat → List MI
  | 0 => [(.aload 0, [], 0), (.aload 1, [], 0), (.iload 2, [], 0), (.invokevirtual 318, [196, 3], 0), (.aload 0, [], 0), (.getfield 37, [12, 11, 2], 0), (.iload 3, [], 0), (.iaload, [], 0), (.ireturn, [0], 0)]
  | _ => []
def PX12_far : Nat → Nat
  | 0 => 0
  | _ => 0
def BX12_part : Nat → List MI
  | 0 => [(.sipush 0, [], 0), (.istore 2, [], 0), (.invokedynamic 4, [1], 0)]
  | 1 => [(.iload 2, [], 0), (.sipush 10, [], 0), (.if_icmp .ge 16, [2], 0), (.aload 0, [], 0), (.getfield 40, [12, 12, 2], 0), (.iload 2, [], 0), (.iload 2, [], 0), (.iastore, [], 0), (.iinc 2 1, [], 0), (.goto (-16), [1], 0)]
  | 2 => [(.sipush 1, [], 0), (.istore 2, [], 0), (.invokedynamic 4, [3], 0)]
  | 3 => [(.iload 2, [], 0), (.ifCond .eq 120, [8], 0), (.sipush 0, [], 0), (.istore 2, [], 0), (.sipush 0, [], 0), (.istore 3, [], 0), (.invokedynamic 4, [4], 0)]
  | 4 => [(.iload 3, [], 0), (.aload 0, [], 0), (.getfield 20, [12, 6, 2], 0), (.getfield 69, [10, 4, 2], 0), (.sipush 1, [], 0), (.iaload, [], 0), (.if_icmp .ge 100, [7], 0), (.aload 0, [], 0), (.getfield 20, [12, 6, 2], 0), (.getfield 202, [10, 6, 2], 0), (.iload 3, [], 0), (.iaload, [], 0), (.istore 4, [], 0), (.aload 0, [], 0), (.getfield 20, [12, 6, 2], 0), (.getfield 205, [10, 7, 2], 0), (.iload 3, [], 0), (.iaload, [], 0), (.istore 5, [], 0), (.aload 0, [], 0), (.aload 1, [], 0), (.iload 3, [], 0), (.invokevirtual 311, [195, 3], 0), (.ifCond .eq 63, [6], 0), (.aload 0, [], 0), (.getfield 40, [12, 12, 2], 0), (.iload 4, [], 0), (.iaload, [], 0), (.aload 0, [], 0), (.getfield 40, [12, 12, 2], 0), (.iload 5, [], 0), (.iaload, [], 0), (.if_icmp .ne 6, [5], 0), (.goto 43, [6], 0)]
  | 5 => [(.aload 0, [], 0), (.getfield 40, [12, 12, 2], 0), (.iload 4, [], 0), (.aload 0, [], 0), (.getfield 40, [12, 12, 2], 0), (.iload 4, [], 0), (.iaload, [], 0), (.aload 0, [], 0), (.getfield 40, [12, 12, 2], 0), (.iload 5, [], 0), (.iaload, [], 0), (.invokedynamic 2, [303], 0), (.iastore, [], 0), (.aload 0, [], 0), (.getfield 40, [12, 12, 2], 0), (.iload 5, [], 0), (.aload 0, [], 0), (.getfield 40, [12, 12, 2], 0), (.iload 4, [], 0), (.iaload, [], 0), (.iastore, [], 0), (.sipush 1, [], 0), (.istore 2, [], 0), (.invokedynamic 4, [6], 0)]
  | 6 => [(.iinc 3 1, [], 0), (.goto (-107), [4], 0)]
  | 7 => [(.goto (-118), [3], 0)]
  | 8 => [(.sipush 0, [], 0), (.istore 3, [], 0), (.sipush 0, [], 0), (.istore 4, [], 0), (.invokedynamic 4, [9], 0)]
  | 9 => [(.iload 4, [], 0), (.aload 0, [], 0), (.getfield 20, [12, 6, 2], 0), (.getfield 69, [10, 4, 2], 0), (.sipush 0, [], 0), (.iaload, [], 0), (.if_icmp .ge 29, [12], 0), (.iload 3, [], 0), (.aload 0, [], 0), (.getfield 40, [12, 12, 2], 0), (.iload 4, [], 0), (.iaload, [], 0), (.iload 4, [], 0), (.if_icmp .ne 7, [10], 0), (.sipush 1, [], 0), (.goto 4, [11], 0)]
  | 10 => [(.sipush 0, [], 0), (.invokedynamic 4, [11], 0)]
  | 11 => [(.iadd, [], 0), (.istore 3, [], 0), (.iinc 4 1, [], 0), (.goto (-37), [9], 0)]
  | 12 => [(.iload 3, [], 0), (.ireturn, [0], 0)]
  | _ => []
def PX12_part : Nat → Nat
  | 0 => 0
  | 1 => 2
  | 2 => 21
  | 3 => 23
  | 4 => 31
  | 5 => 95
  | 6 => 135
  | 7 => 141
  | 8 => 144
  | 9 => 149
  | 10 => 180
  | 11 => 181
  | 12 => 189
  | _ => 0
def BX12_nextOfNet : Nat → List MI
  | 0 => [(.sipush (-1), [], 0), (.istore 2, [], 0), (.sipush 0, [], 0), (.istore 3, [], 0), (.invokedynamic 4, [1], 0)]
  | 1 => [(.iload 3, [], 0), (.aload 0, [], 0), (.getfield 20, [12, 6, 2], 0), (.getfield 69, [10, 4, 2], 0), (.sipush 1, [], 0), (.iaload, [], 0), (.if_icmp .ge 50, [4], 0), (.aload 0, [], 0), (.getfield 53, [12, 16, 2], 0), (.iload 3, [], 0), (.baload, [], 0), (.ifCond .ne 35, [3], 0), (.aload 0, [], 0), (.aload 1, [], 0), (.iload 3, [], 0), (.invokevirtual 311, [195, 3], 0), (.ifCond .eq 26, [3], 0), (.iload 2, [], 0), (.sipush (-1), [], 0), (.if_icmp .eq 19, [2], 0), (.aload 1, [], 0), (.iload 3, [], 0), (.invokevirtual 294, [145, 2], 0), (.aload 1, [], 0), (.iload 2, [], 0), (.invokevirtual 294, [145, 2], 0), (.if_icmp .lt 6, [2], 0), (.goto 5, [3], 0)]
  | 2 => [(.iload 3, [], 0), (.istore 2, [], 0), (.invokedynamic 4, [3], 0)]
  | 3 => [(.iinc 3 1, [], 0), (.goto (-57), [1], 0)]
  | 4 => [(.iload 2, [], 0), (.ireturn, [0], 0)]
  | _ => []
def PX12_nextOfNet : Nat → Nat
  | 0 => 0
  | 1 => 4
  | 2 => 56
  | 3 => 58
  | 4 => 64
  | _ => 0
def BX12_net : Nat → List MI
  | 0 => [(.sipush 0, [], 0), (.istore 2, [], 0), (.sipush 0, [], 0), (.istore 3, [], 0), (.invokedynamic 4, [1], 0)]
  | 1 => [(.iload 3, [], 0), (.sipush 10, [], 0), (.if_icmp .ge 16, [2], 0), (.aload 0, [], 0), (.getfield 43, [12, 13, 2], 0), (.iload 3, [], 0), (.iload 3, [], 0), (.iastore, [], 0), (.iinc 3 1, [], 0), (.goto (-16), [1], 0)]
  | 2 => [(.sipush 0, [], 0), (.istore 3, [], 0), (.invokedynamic 4, [3], 0)]
  | 3 => [(.iload 3, [], 0), (.sipush 14, [], 0), (.if_icmp .ge 23, [4], 0), (.aload 0, [], 0), (.getfield 46, [12, 14, 2], 0), (.iload 3, [], 0), (.sipush 0, [], 0), (.bastore, [], 0), (.aload 0, [], 0), (.getfield 53, [12, 16, 2], 0), (.iload 3, [], 0), (.sipush 0, [], 0), (.bastore, [], 0), (.iinc 3 1, [], 0), (.goto (-23), [3], 0)]
  | 4 => [(.aload 0, [], 0), (.aload 1, [], 0), (.invokevirtual 322, [200, 2], 0), (.istore 3, [], 0), (.invokedynamic 4, [5], 0)]
  | 5 => [(.iload 3, [], 0), (.sipush (-1), [], 0), (.if_icmp .eq 113, [10], 0), (.aload 0, [], 0), (.getfield 53, [12, 16, 2], 0), (.iload 3, [], 0), (.sipush 1, [], 0), (.bastore, [], 0), (.aload 0, [], 0), (.getfield 43, [12, 13, 2], 0), (.aload 0, [], 0), (.getfield 20, [12, 6, 2], 0), (.getfield 202, [10, 6, 2], 0), (.iload 3, [], 0), (.iaload, [], 0), (.iaload, [], 0), (.istore 4, [], 0), (.aload 0, [], 0), (.getfield 43, [12, 13, 2], 0), (.aload 0, [], 0), (.getfield 20, [12, 6, 2], 0), (.getfield 205, [10, 7, 2], 0), (.iload 3, [], 0), (.iaload, [], 0), (.iaload, [], 0), (.istore 5, [], 0), (.iload 4, [], 0), (.iload 5, [], 0), (.if_icmp .ne 6, [6], 0), (.goto 55, [9], 0)]
  | 6 => [(.aload 0, [], 0), (.getfield 46, [12, 14, 2], 0), (.iload 3, [], 0), (.sipush 1, [], 0), (.bastore, [], 0), (.iload 2, [], 0), (.aload 1, [], 0), (.iload 3, [], 0), (.invokevirtual 294, [145, 2], 0), (.iadd, [], 0), (.istore 2, [], 0), (.sipush 0, [], 0), (.istore 6, [], 0), (.invokedynamic 4, [7], 0)]
  | 7 => [(.iload 6, [], 0), (.sipush 10, [], 0), (.if_icmp .ge 30, [9], 0), (.aload 0, [], 0), (.getfield 43, [12, 13, 2], 0), (.iload 6, [], 0), (.iaload, [], 0), (.iload 5, [], 0), (.if_icmp .ne 12, [8], 0), (.aload 0, [], 0), (.getfield 43, [12, 13, 2], 0), (.iload 6, [], 0), (.iload 4, [], 0), (.iastore, [], 0), (.invokedynamic 4, [8], 0)]
  | 8 => [(.iinc 6 1, [], 0), (.goto (-31), [7], 0)]
  | 9 => [(.aload 0, [], 0), (.aload 1, [], 0), (.invokevirtual 322, [200, 2], 0), (.istore 3, [], 0), (.goto (-112), [5], 0)]
  | 10 => [(.iload 2, [], 0), (.ireturn, [0], 0)]
  | _ => []
def PX12_net : Nat → Nat
  | 0 => 0
  | 1 => 4
  | 2 => 23
  | 3 => 25
  | 4 => 51
  | 5 => 57
  | 6 => 111
  | 7 => 129
  | 8 => 157
  | 9 => 163
  | 10 => 172
  | _ => 0
def BX12_detourOf : Nat → List MI
  | 0 => [(.aload 0, [], 0), (.iload 2, [], 0), (.putfield 56, [12, 17, 0], 0), (.aload 0, [], 0), (.aload 1, [], 0), (.aload 0, [], 0), (.getfield 20, [12, 6, 2], 0), (.getfield 202, [10, 6, 2], 0), (.iload 2, [], 0), (.iaload, [], 0), (.aload 0, [], 0), (.getfield 20, [12, 6, 2], 0), (.getfield 205, [10, 7, 2], 0), (.iload 2, [], 0), (.iaload, [], 0), (.invokevirtual 279, [198, 4], 0), (.istore 3, [], 0), (.aload 0, [], 0), (.sipush (-1), [], 0), (.putfield 56, [12, 17, 0], 0), (.iload 3, [], 0), (.ireturn, [0], 0)]
  | _ => []
def PX12_detourOf : Nat → Nat
  | 0 => 0
  | _ => 0
def BX12_isSpan : Nat → List MI
  | 0 => [(.aload 1, [], 0), (.iload 2, [], 0), (.invokevirtual 272, [144, 2], 0), (.ifCond .eq 17, [1], 0), (.aload 0, [], 0), (.aload 1, [], 0), (.iload 2, [], 0), (.invokevirtual 326, [202, 3], 0), (.sipush (-1), [], 0), (.if_icmp .ne 7, [1], 0), (.sipush 1, [], 0), (.goto 4, [2], 0)]
  | 1 => [(.sipush 0, [], 0), (.invokedynamic 4, [2], 0)]
  | 2 => [(.ireturn, [1], 0)]
  | _ => []
def PX12_isSpan : Nat → Nat
  | 0 => 0
  | 1 => 22
  | 2 => 23
  | _ => 0
def BX12_replaceOf : Nat → List MI
  | 0 => [(.aload 0, [], 0), (.aload 1, [], 0), (.invokevirtual 329, [201, 2], 0), (.pop, [], 0), (.aload 0, [], 0), (.getfield 46, [12, 14, 2], 0), (.iload 2, [], 0), (.baload, [], 0), (.ifCond .ne 5, [1], 0), (.sipush (-1), [], 0), (.ireturn, [0], 0)]
  | 1 => [(.aload 0, [], 0), (.getfield 46, [12, 14, 2], 0), (.sipush 0, [], 0), (.aload 0, [], 0), (.getfield 50, [12, 15, 2], 0), (.sipush 0, [], 0), (.sipush 14, [], 0), (.invokedynamic 0, [332], 0), (.aload 0, [], 0), (.iload 2, [], 0), (.putfield 56, [12, 17, 0], 0), (.aload 0, [], 0), (.aload 1, [], 0), (.invokevirtual 329, [201, 2], 0), (.pop, [], 0), (.aload 0, [], 0), (.sipush (-1), [], 0), (.putfield 56, [12, 17, 0], 0), (.sipush 0, [], 0), (.istore 3, [], 0), (.invokedynamic 4, [2], 0)]
  | 2 => [(.iload 3, [], 0), (.aload 0, [], 0), (.getfield 20, [12, 6, 2], 0), (.getfield 69, [10, 4, 2], 0), (.sipush 1, [], 0), (.iaload, [], 0), (.if_icmp .ge 29, [4], 0), (.aload 0, [], 0), (.getfield 46, [12, 14, 2], 0), (.iload 3, [], 0), (.baload, [], 0), (.ifCond .eq 14, [3], 0), (.aload 0, [], 0), (.getfield 50, [12, 15, 2], 0), (.iload 3, [], 0), (.baload, [], 0), (.ifCond .ne 5, [3], 0), (.iload 3, [], 0), (.ireturn, [0], 0)]
  | 3 => [(.iinc 3 1, [], 0), (.goto (-36), [2], 0)]
  | 4 => [(.sipush (-1), [], 0), (.ireturn, [0], 0)]
  | _ => []
def PX12_replaceOf : Nat → Nat
  | 0 => 0
  | 1 => 17
  | 2 => 50
  | 3 => 83
  | 4 => 89
  | _ => 0
def BX12_heard : Nat → List MI
  | 0 => [(.sipush 0, [], 0), (.istore 3, [], 0), (.sipush 0, [], 0), (.istore 4, [], 0), (.invokedynamic 4, [1], 0)]
  | 1 => [(.iload 4, [], 0), (.aload 0, [], 0), (.getfield 20, [12, 6, 2], 0), (.getfield 69, [10, 4, 2], 0), (.sipush 0, [], 0), (.iaload, [], 0), (.if_icmp .ge 27, [4], 0), (.iload 3, [], 0), (.aload 1, [], 0), (.iload 4, [], 0), (.iload 2, [], 0), (.invokevirtual 275, [146, 3], 0), (.ifCond .eq 7, [2], 0), (.sipush 1, [], 0), (.goto 4, [3], 0)]
  | 2 => [(.sipush 0, [], 0), (.invokedynamic 4, [3], 0)]
  | 3 => [(.iadd, [], 0), (.istore 3, [], 0), (.iinc 4 1, [], 0), (.goto (-35), [1], 0)]
  | 4 => [(.iload 3, [], 0), (.ireturn, [0], 0)]
  | _ => []
def PX12_heard : Nat → Nat
  | 0 => 0
  | 1 => 5
  | 2 => 34
  | 3 => 35
  | 4 => 43
  | _ => 0
def BX12_hurtBy : Nat → List MI
  | 0 => [(.aload 1, [], 0), (.getfield 296, [11, 5, 2], 0), (.iload 2, [], 0), (.iaload, [], 0), (.istore 4, [], 0), (.aload 1, [], 0), (.getfield 296, [11, 5, 2], 0), (.iload 2, [], 0), (.sipush 3, [], 0), (.iload 4, [], 0), (.sipush 0, [], 0), (.sipush 3, [], 0), (.iload 3, [], 0), (.invokedynamic 2, [303], 0), (.invokedynamic 1, [308], 0), (.iadd, [], 0), (.invokedynamic 2, [303], 0), (.iastore, [], 0), (.aload 1, [], 0), (.getfield 296, [11, 5, 2], 0), (.iload 2, [], 0), (.iaload, [], 0), (.iload 4, [], 0), (.if_icmp .le 7, [1], 0), (.sipush 1, [], 0), (.goto 4, [2], 0)]
  | 1 => [(.sipush 0, [], 0), (.invokedynamic 4, [2], 0)]
  | 2 => [(.ireturn, [1], 0)]
  | _ => []
def PX12_hurtBy : Nat → Nat
  | 0 => 0
  | 1 => 45
  | 2 => 46
  | _ => 0
def BX12_mended : Nat → List MI
  | 0 => [(.aload 1, [], 0), (.getfield 296, [11, 5, 2], 0), (.iload 2, [], 0), (.iaload, [], 0), (.ifCond .le 7, [1], 0), (.sipush 1, [], 0), (.goto 4, [2], 0)]
  | 1 => [(.sipush 0, [], 0), (.invokedynamic 4, [2], 0)]
  | 2 => [(.istore 3, [], 0), (.aload 1, [], 0), (.getfield 296, [11, 5, 2], 0), (.iload 2, [], 0), (.dup2, [], 0), (.iaload, [], 0), (.iload 3, [], 0), (.ifCond .eq 7, [3], 0), (.sipush 1, [], 0), (.goto 4, [4], 0)]
  | 3 => [(.sipush 0, [], 0), (.invokedynamic 4, [4], 0)]
  | 4 => [(.isub, [], 0), (.iastore, [], 0), (.iload 3, [], 0), (.ireturn, [1], 0)]
  | _ => []
def PX12_mended : Nat → Nat
  | 0 => 0
  | 1 => 13
  | 2 => 14
  | 3 => 30
  | 4 => 31
  | _ => 0
def BX12_hushed : Nat → List MI
  | 0 => [(.aload 1, [], 0), (.getfield 338, [11, 8, 2], 0), (.iload 2, [], 0), (.iaload, [], 0), (.ifCond .ne 7, [1], 0), (.sipush 1, [], 0), (.goto 4, [2], 0)]
  | 1 => [(.sipush 0, [], 0), (.invokedynamic 4, [2], 0)]
  | 2 => [(.istore 3, [], 0), (.aload 1, [], 0), (.getfield 338, [11, 8, 2], 0), (.iload 2, [], 0), (.sipush 1, [], 0), (.iastore, [], 0), (.iload 3, [], 0), (.ireturn, [1], 0)]
  | _ => []
def PX12_hushed : Nat → Nat
  | 0 => 0
  | 1 => 13
  | 2 => 14
  | _ => 0
def BX12_isCarriedOut : Nat → List MI
  | 0 => [(.aload 0, [], 0), (.aload 0, [], 0), (.getfield 20, [12, 6, 2], 0), (.getfield 240, [10, 15, 2], 0), (.iload 2, [], 0), (.iaload, [], 0), (.putfield 253, [12, 9, 0], 0), (.aload 0, [], 0), (.invokevirtual 266, [188, 1], 0), (.ifCond .ne 5, [1], 0), (.sipush 0, [], 0), (.ireturn, [1], 0)]
  | 1 => [(.aload 0, [], 0), (.getfield 20, [12, 6, 2], 0), (.getfield 211, [10, 13, 2], 0), (.iload 2, [], 0), (.iaload, [], 0), (.istore 3, [], 0), (.aload 0, [], 0), (.getfield 20, [12, 6, 2], 0), (.getfield 225, [10, 12, 2], 0), (.iload 2, [], 0), (.iaload, [], 0), (.sipush 10, [], 0), (.if_icmp .ne 10, [2], 0), (.aload 0, [], 0), (.aload 1, [], 0), (.iload 3, [], 0), (.invokevirtual 341, [207, 3], 0), (.ireturn, [1], 0)]
  | 2 => [(.aload 0, [], 0), (.getfield 20, [12, 6, 2], 0), (.getfield 225, [10, 12, 2], 0), (.iload 2, [], 0), (.iaload, [], 0), (.sipush 11, [], 0), (.if_icmp .ne 10, [3], 0), (.aload 0, [], 0), (.aload 1, [], 0), (.iload 3, [], 0), (.invokevirtual 344, [208, 3], 0), (.ireturn, [1], 0)]
  | 3 => [(.aload 0, [], 0), (.aload 0, [], 0), (.getfield 20, [12, 6, 2], 0), (.getfield 237, [10, 14, 2], 0), (.iload 2, [], 0), (.iaload, [], 0), (.putfield 253, [12, 9, 0], 0), (.aload 0, [], 0), (.aload 1, [], 0), (.iload 3, [], 0), (.aload 0, [], 0), (.invokevirtual 283, [192, 1], 0), (.invokevirtual 346, [206, 4], 0), (.ireturn, [1], 0)]
  | _ => []
def PX12_isCarriedOut : Nat → Nat
  | 0 => 0
  | 1 => 22
  | 2 => 53
  | 3 => 74
  | _ => 0
def BX12_lose : Nat → List MI
  | 0 => [(.sipush 0, [], 0), (.istore 2, [], 0), (.sipush 0, [], 0), (.istore 3, [], 0), (.invokedynamic 4, [1], 0)]
  | 1 => [(.iload 3, [], 0), (.aload 1, [], 0), (.getfield 350, [11, 9, 0], 0), (.if_icmp .ge 34, [4], 0), (.aload 1, [], 0), (.aload 1, [], 0), (.getfield 353, [11, 11, 2], 0), (.iload 3, [], 0), (.iaload, [], 0), (.invokevirtual 272, [144, 2], 0), (.ifCond .ne 6, [2], 0), (.goto 12, [3], 0)]
  | 2 => [(.aload 1, [], 0), (.iload 3, [], 0), (.iload 2, [], 0), (.invokevirtual 356, [148, 3], 0), (.iinc 2 1, [], 0), (.invokedynamic 4, [3], 0)]
  | 3 => [(.iinc 3 1, [], 0), (.goto (-36), [1], 0)]
  | 4 => [(.aload 1, [], 0), (.dup, [], 0), (.getfield 360, [11, 2, 0], 0), (.aload 1, [], 0), (.getfield 350, [11, 9, 0], 0), (.iload 2, [], 0), (.isub, [], 0), (.iadd, [], 0), (.putfield 360, [11, 2, 0], 0), (.aload 1, [], 0), (.iload 2, [], 0), (.putfield 350, [11, 9, 0], 0), (.return_, [], 0)]
  | _ => []
def PX12_lose : Nat → Nat
  | 0 => 0
  | 1 => 4
  | 2 => 28
  | 3 => 37
  | 4 => 43
  | _ => 0
def BX12_travel : Nat → List MI
  | 0 => [(.sipush 0, [], 0), (.istore 2, [], 0), (.sipush 0, [], 0), (.istore 3, [], 0), (.invokedynamic 4, [1], 0)]
  | 1 => [(.iload 3, [], 0), (.aload 1, [], 0), (.getfield 350, [11, 9, 0], 0), (.if_icmp .ge 67, [4], 0), (.aload 1, [], 0), (.getfield 363, [11, 13, 2], 0), (.iload 3, [], 0), (.dup2, [], 0), (.iaload, [], 0), (.sipush 1, [], 0), (.iadd, [], 0), (.iastore, [], 0), (.aload 1, [], 0), (.getfield 363, [11, 13, 2], 0), (.iload 3, [], 0), (.iaload, [], 0), (.aload 1, [], 0), (.aload 1, [], 0), (.getfield 353, [11, 11, 2], 0), (.iload 3, [], 0), (.iaload, [], 0), (.invokevirtual 294, [145, 2], 0), (.if_icmp .lt 23, [2], 0), (.aload 1, [], 0), (.aload 1, [], 0), (.getfield 366, [11, 12, 2], 0), (.iload 3, [], 0), (.iaload, [], 0), (.aload 1, [], 0), (.getfield 369, [11, 10, 2], 0), (.iload 3, [], 0), (.iaload, [], 0), (.invokevirtual 372, [147, 3], 0), (.pop, [], 0), (.goto 12, [3], 0)]
  | 2 => [(.aload 1, [], 0), (.iload 3, [], 0), (.iload 2, [], 0), (.invokevirtual 356, [148, 3], 0), (.iinc 2 1, [], 0), (.invokedynamic 4, [3], 0)]
  | 3 => [(.iinc 3 1, [], 0), (.goto (-69), [1], 0)]
  | 4 => [(.aload 1, [], 0), (.iload 2, [], 0), (.putfield 350, [11, 9, 0], 0), (.return_, [], 0)]
  | _ => []
def PX12_travel : Nat → Nat
  | 0 => 0
  | 1 => 4
  | 2 => 61
  | 3 => 70
  | 4 => 76
  | _ => 0
def BX12_setOut : Nat → List MI
  | 0 => [(.aload 1, [], 0), (.getfield 375, [11, 7, 2], 0), (.sipush 6, [], 0), (.iload 2, [], 0), (.imul, [], 0), (.iload 3, [], 0), (.iadd, [], 0), (.sipush 1, [], 0), (.iastore, [], 0), (.sipush 0, [], 0), (.istore 4, [], 0), (.invokedynamic 4, [1], 0)]
  | 1 => [(.iload 4, [], 0), (.aload 0, [], 0), (.getfield 20, [12, 6, 2], 0), (.getfield 69, [10, 4, 2], 0), (.sipush 1, [], 0), (.iaload, [], 0), (.if_icmp .ge 134, [6], 0), (.aload 1, [], 0), (.iload 4, [], 0), (.invokevirtual 272, [144, 2], 0), (.ifCond .eq 119, [5], 0), (.aload 0, [], 0), (.getfield 20, [12, 6, 2], 0), (.getfield 202, [10, 6, 2], 0), (.iload 4, [], 0), (.iaload, [], 0), (.iload 2, [], 0), (.if_icmp .eq 20, [2], 0), (.aload 0, [], 0), (.getfield 20, [12, 6, 2], 0), (.getfield 205, [10, 7, 2], 0), (.iload 4, [], 0), (.iaload, [], 0), (.iload 2, [], 0), (.if_icmp .eq 6, [2], 0), (.goto 88, [5], 0)]
  | 2 => [(.aload 1, [], 0), (.getfield 350, [11, 9, 0], 0), (.istore 5, [], 0), (.aload 1, [], 0), (.getfield 369, [11, 10, 2], 0), (.iload 5, [], 0), (.iload 3, [], 0), (.iastore, [], 0), (.aload 1, [], 0), (.getfield 353, [11, 11, 2], 0), (.iload 5, [], 0), (.iload 4, [], 0), (.iastore, [], 0), (.aload 1, [], 0), (.getfield 366, [11, 12, 2], 0), (.iload 5, [], 0), (.aload 0, [], 0), (.getfield 20, [12, 6, 2], 0), (.getfield 202, [10, 6, 2], 0), (.iload 4, [], 0), (.iaload, [], 0), (.iload 2, [], 0), (.if_icmp .ne 16, [3], 0), (.aload 0, [], 0), (.getfield 20, [12, 6, 2], 0), (.getfield 205, [10, 7, 2], 0), (.iload 4, [], 0), (.iaload, [], 0), (.goto 13, [4], 0)]
  | 3 => [(.aload 0, [], 0), (.getfield 20, [12, 6, 2], 0), (.getfield 202, [10, 6, 2], 0), (.iload 4, [], 0), (.iaload, [], 0), (.invokedynamic 4, [4], 0)]
  | 4 => [(.iastore, [], 0), (.aload 1, [], 0), (.getfield 363, [11, 13, 2], 0), (.iload 5, [], 0), (.sipush 0, [], 0), (.iastore, [], 0), (.aload 1, [], 0), (.dup, [], 0), (.getfield 350, [11, 9, 0], 0), (.sipush 1, [], 0), (.iadd, [], 0), (.putfield 350, [11, 9, 0], 0), (.invokedynamic 4, [5], 0)]
  | 5 => [(.iinc 4 1, [], 0), (.goto (-142), [1], 0)]
  | 6 => [(.return_, [], 0)]
  | _ => []
def PX12_setOut : Nat → Nat
  | 0 => 0
  | 1 => 15
  | 2 => 69
  | 3 => 125
  | 4 => 135
  | 5 => 154
  | 6 => 160
  | _ => 0
def BX12_hourOn : Nat → List MI
  | 0 => [(.aload 0, [], 0), (.aload 1, [], 0), (.putfield 34, [12, 10, 2], 0), (.sipush 0, [], 0), (.istore 2, [], 0), (.invokedynamic 4, [1], 0)]
  | 1 => [(.iload 2, [], 0), (.aload 0, [], 0), (.getfield 20, [12, 6, 2], 0), (.getfield 214, [10, 11, 0], 0), (.if_icmp .ge 32, [4], 0), (.aload 1, [], 0), (.dup, [], 0), (.getfield 378, [11, 1, 0], 0), (.aload 0, [], 0), (.aload 1, [], 0), (.iload 2, [], 0), (.invokevirtual 381, [209, 3], 0), (.ifCond .eq 7, [2], 0), (.sipush 1, [], 0), (.goto 4, [3], 0)]
  | 2 => [(.sipush 0, [], 0), (.invokedynamic 4, [3], 0)]
  | 3 => [(.iadd, [], 0), (.putfield 378, [11, 1, 0], 0), (.iinc 2 1, [], 0), (.goto (-37), [1], 0)]
  | 4 => [(.aload 0, [], 0), (.aload 1, [], 0), (.invokevirtual 384, [210, 2], 0), (.sipush 0, [], 0), (.istore 2, [], 0), (.invokedynamic 4, [5], 0)]
  | 5 => [(.iload 2, [], 0), (.aload 0, [], 0), (.getfield 20, [12, 6, 2], 0), (.getfield 69, [10, 4, 2], 0), (.sipush 5, [], 0), (.iaload, [], 0), (.if_icmp .ge 40, [7], 0), (.aload 0, [], 0), (.getfield 20, [12, 6, 2], 0), (.getfield 223, [10, 10, 2], 0), (.iload 2, [], 0), (.iaload, [], 0), (.aload 1, [], 0), (.getfield 291, [11, 0, 0], 0), (.if_icmp .ne 18, [6], 0), (.aload 1, [], 0), (.aload 0, [], 0), (.getfield 20, [12, 6, 2], 0), (.getfield 208, [10, 9, 2], 0), (.iload 2, [], 0), (.iaload, [], 0), (.iload 2, [], 0), (.invokevirtual 372, [147, 3], 0), (.pop, [], 0), (.invokedynamic 4, [6], 0)]
  | 6 => [(.iinc 2 1, [], 0), (.goto (-47), [5], 0)]
  | 7 => [(.aload 0, [], 0), (.aload 1, [], 0), (.invokevirtual 388, [211, 2], 0), (.sipush 0, [], 0), (.istore 2, [], 0), (.invokedynamic 4, [8], 0)]
  | 8 => [(.iload 2, [], 0), (.aload 0, [], 0), (.getfield 20, [12, 6, 2], 0), (.getfield 69, [10, 4, 2], 0), (.sipush 0, [], 0), (.iaload, [], 0), (.if_icmp .ge 69, [12], 0), (.sipush 0, [], 0), (.istore 3, [], 0), (.invokedynamic 4, [9], 0)]
  | 9 => [(.iload 3, [], 0), (.aload 0, [], 0), (.getfield 20, [12, 6, 2], 0), (.getfield 69, [10, 4, 2], 0), (.sipush 5, [], 0), (.iaload, [], 0), (.if_icmp .ge 48, [11], 0), (.aload 1, [], 0), (.getfield 338, [11, 8, 2], 0), (.iload 2, [], 0), (.iaload, [], 0), (.ifCond .ne 39, [11], 0), (.aload 1, [], 0), (.iload 2, [], 0), (.iload 3, [], 0), (.invokevirtual 275, [146, 3], 0), (.ifCond .eq 24, [10], 0), (.aload 1, [], 0), (.getfield 375, [11, 7, 2], 0), (.sipush 6, [], 0), (.iload 2, [], 0), (.imul, [], 0), (.iload 3, [], 0), (.iadd, [], 0), (.iaload, [], 0), (.ifCond .ne 10, [10], 0), (.aload 0, [], 0), (.aload 1, [], 0), (.iload 2, [], 0), (.iload 3, [], 0), (.invokevirtual 391, [212, 4], 0), (.invokedynamic 4, [10], 0)]
  | 10 => [(.iinc 3 1, [], 0), (.goto (-55), [9], 0)]
  | 11 => [(.iinc 2 1, [], 0), (.goto (-76), [8], 0)]
  | 12 => [(.aload 1, [], 0), (.dup, [], 0), (.getfield 291, [11, 0, 0], 0), (.sipush 1, [], 0), (.iadd, [], 0), (.putfield 291, [11, 0, 0], 0), (.aload 1, [], 0), (.getfield 338, [11, 8, 2], 0), (.sipush 0, [], 0), (.invokestatic 62, [219, 2], 0), (.return_, [], 0)]
  | _ => []
def PX12_hourOn : Nat → Nat
  | 0 => 0
  | 1 => 7
  | 2 => 36
  | 3 => 37
  | 4 => 47
  | 5 => 54
  | 6 => 98
  | 7 => 104
  | 8 => 111
  | 9 => 126
  | 10 => 178
  | 11 => 184
  | 12 => 190
  | _ => 0
def BX12_hoursOn : Nat → List MI
  | 0 => [(.sipush 0, [], 0), (.istore 3, [], 0), (.invokedynamic 4, [1], 0)]
  | 1 => [(.iload 3, [], 0), (.iload 2, [], 0), (.if_icmp .ge 14, [2], 0), (.aload 0, [], 0), (.aload 1, [], 0), (.invokevirtual 395, [213, 2], 0), (.iinc 3 1, [], 0), (.goto (-13), [1], 0)]
  | 2 => [(.return_, [], 0)]
  | _ => []
def PX12_hoursOn : Nat → Nat
  | 0 => 0
  | 1 => 2
  | 2 => 18
  | _ => 0
def BX12_spans : Nat → List MI
  | 0 => [(.sipush 0, [], 0), (.istore 3, [], 0), (.sipush 0, [], 0), (.istore 4, [], 0), (.invokedynamic 4, [1], 0)]
  | 1 => [(.iload 4, [], 0), (.aload 0, [], 0), (.getfield 20, [12, 6, 2], 0), (.getfield 69, [10, 4, 2], 0), (.sipush 1, [], 0), (.iaload, [], 0), (.if_icmp .ge 38, [4], 0), (.iload 3, [], 0), (.aload 1, [], 0), (.getfield 296, [11, 5, 2], 0), (.iload 4, [], 0), (.iaload, [], 0), (.iload 2, [], 0), (.if_icmp .lt 17, [2], 0), (.aload 0, [], 0), (.aload 1, [], 0), (.iload 4, [], 0), (.invokevirtual 398, [203, 3], 0), (.ifCond .eq 7, [2], 0), (.sipush 1, [], 0), (.goto 4, [3], 0)]
  | 2 => [(.sipush 0, [], 0), (.invokedynamic 4, [3], 0)]
  | 3 => [(.iadd, [], 0), (.istore 3, [], 0), (.iinc 4 1, [], 0), (.goto (-46), [1], 0)]
  | 4 => [(.iload 3, [], 0), (.ireturn, [0], 0)]
  | _ => []
def PX12_spans : Nat → Nat
  | 0 => 0
  | 1 => 5
  | 2 => 45
  | 3 => 46
  | 4 => 54
  | _ => 0
def BX12_counted : Nat → List MI
  | 0 => [(.sipush 0, [], 0), (.istore 3, [], 0), (.iload 2, [], 0), (.tableswitch 230 0 13 #[69, 74, 84, 94, 104, 112, 154, 161, 167, 172, 207, 212, 218, 225], [21, 1, 2, 3, 4, 5, 6, 11, 12, 13, 14, 17, 18, 19, 20], 0)]
  | 1 => [(.aload 1, [], 0), (.getfield 291, [11, 0, 0], 0), (.ireturn, [0], 0)]
  | 2 => [(.aload 0, [], 0), (.getfield 20, [12, 6, 2], 0), (.getfield 69, [10, 4, 2], 0), (.sipush 0, [], 0), (.iaload, [], 0), (.ireturn, [0], 0)]
  | 3 => [(.aload 0, [], 0), (.getfield 20, [12, 6, 2], 0), (.getfield 69, [10, 4, 2], 0), (.sipush 1, [], 0), (.iaload, [], 0), (.ireturn, [0], 0)]
  | 4 => [(.aload 0, [], 0), (.getfield 20, [12, 6, 2], 0), (.getfield 69, [10, 4, 2], 0), (.sipush 5, [], 0), (.iaload, [], 0), (.ireturn, [0], 0)]
  | 5 => [(.aload 0, [], 0), (.getfield 20, [12, 6, 2], 0), (.getfield 214, [10, 11, 0], 0), (.ireturn, [0], 0)]
  | 6 => [(.sipush 0, [], 0), (.istore 4, [], 0), (.invokedynamic 4, [7], 0)]
  | 7 => [(.iload 4, [], 0), (.aload 0, [], 0), (.getfield 20, [12, 6, 2], 0), (.getfield 69, [10, 4, 2], 0), (.sipush 1, [], 0), (.iaload, [], 0), (.if_icmp .ge 26, [10], 0), (.iload 3, [], 0), (.aload 1, [], 0), (.iload 4, [], 0), (.invokevirtual 272, [144, 2], 0), (.ifCond .eq 7, [8], 0), (.sipush 1, [], 0), (.goto 4, [9], 0)]
  | 8 => [(.sipush 0, [], 0), (.invokedynamic 4, [9], 0)]
  | 9 => [(.iadd, [], 0), (.istore 3, [], 0), (.iinc 4 1, [], 0), (.goto (-34), [7], 0)]
  | 10 => [(.iload 3, [], 0), (.ireturn, [0], 0)]
  | 11 => [(.aload 0, [], 0), (.aload 1, [], 0), (.sipush 0, [], 0), (.invokevirtual 401, [215, 3], 0), (.ireturn, [0], 0)]
  | 12 => [(.aload 0, [], 0), (.aload 1, [], 0), (.invokevirtual 404, [199, 2], 0), (.ireturn, [0], 0)]
  | 13 => [(.aload 1, [], 0), (.getfield 350, [11, 9, 0], 0), (.ireturn, [0], 0)]
  | 14 => [(.sipush 0, [], 0), (.istore 4, [], 0), (.invokedynamic 4, [15], 0)]
  | 15 => [(.iload 4, [], 0), (.aload 0, [], 0), (.getfield 20, [12, 6, 2], 0), (.getfield 69, [10, 4, 2], 0), (.sipush 5, [], 0), (.iaload, [], 0), (.if_icmp .ge 19, [16], 0), (.iload 3, [], 0), (.aload 0, [], 0), (.aload 1, [], 0), (.iload 4, [], 0), (.invokevirtual 299, [205, 3], 0), (.iadd, [], 0), (.istore 3, [], 0), (.iinc 4 1, [], 0), (.goto (-27), [15], 0)]
  | 16 => [(.iload 3, [], 0), (.ireturn, [0], 0)]
  | 17 => [(.aload 1, [], 0), (.getfield 378, [11, 1, 0], 0), (.ireturn, [0], 0)]
  | 18 => [(.aload 0, [], 0), (.aload 1, [], 0), (.invokevirtual 329, [201, 2], 0), (.ireturn, [0], 0)]
  | 19 => [(.aload 0, [], 0), (.aload 1, [], 0), (.sipush 1, [], 0), (.invokevirtual 401, [215, 3], 0), (.ireturn, [0], 0)]
  | 20 => [(.aload 1, [], 0), (.getfield 360, [11, 2, 0], 0), (.ireturn, [0], 0)]
  | 21 => [(.aload 0, [], 0), (.getfield 76, [12, 2, 0], 0), (.ireturn, [0], 0)]
  | _ => []
def PX12_counted : Nat → Nat
  | 0 => 0
  | 1 => 72
  | 2 => 77
  | 3 => 87
  | 4 => 97
  | 5 => 107
  | 6 => 115
  | 7 => 118
  | 8 => 146
  | 9 => 147
  | 10 => 155
  | 11 => 157
  | 12 => 164
  | 13 => 170
  | 14 => 175
  | 15 => 178
  | 16 => 208
  | 17 => 210
  | 18 => 215
  | 19 => 221
  | 20 => 228
  | 21 => 233
  | _ => 0
def BX12_feed : Nat → List MI
  | 0 => [(.aload 0, [], 0), (.sipush 0, [], 0), (.putfield 66, [12, 0, 0], 0), (.aload 0, [], 0), (.getfield 76, [12, 2, 0], 0), (.sipush 20, [], 0), (.iadd, [], 0), (.sipush 2000, [], 0), (.if_icmp .le 9, [1], 0), (.aload 0, [], 0), (.sipush 1, [], 0), (.invokevirtual 407, [151, 2], 0), (.ireturn, [0], 0)]
  | 1 => [(.sipush 5, [], 0), (.newarray .int, [], 0), (.dup, [], 0), (.sipush 0, [], 0), (.iload 1, [], 0), (.iastore, [], 0), (.dup, [], 0), (.sipush 1, [], 0), (.iload 2, [], 0), (.iastore, [], 0), (.dup, [], 0), (.sipush 2, [], 0), (.iload 3, [], 0), (.iastore, [], 0), (.dup, [], 0), (.sipush 3, [], 0), (.iload 4, [], 0), (.iastore, [], 0), (.dup, [], 0), (.sipush 4, [], 0), (.iload 5, [], 0), (.iastore, [], 0), (.astore 6, [], 0), (.sipush 0, [], 0), (.istore 7, [], 0), (.invokedynamic 4, [2], 0)]
  | 2 => [(.iload 7, [], 0), (.sipush 20, [], 0), (.if_icmp .ge 43, [3], 0), (.aload 0, [], 0), (.getfield 9, [12, 1, 2], 0), (.aload 0, [], 0), (.getfield 76, [12, 2, 0], 0), (.iload 7, [], 0), (.iadd, [], 0), (.aload 6, [], 0), (.iload 7, [], 0), (.sipush 4, [], 0), (.idiv, [], 0), (.iaload, [], 0), (.sipush 24, [], 0), (.iload 7, [], 0), (.sipush 4, [], 0), (.irem, [], 0), (.sipush 8, [], 0), (.imul, [], 0), (.isub, [], 0), (.iushr, [], 0), (.sipush 255, [], 0), (.iand, [], 0), (.iastore, [], 0), (.iinc 7 1, [], 0), (.goto (-44), [2], 0)]
  | 3 => [(.aload 0, [], 0), (.dup, [], 0), (.getfield 76, [12, 2, 0], 0), (.sipush 20, [], 0), (.iadd, [], 0), (.putfield 76, [12, 2, 0], 0), (.aload 0, [], 0), (.getfield 76, [12, 2, 0], 0), (.ireturn, [0], 0)]
  | _ => []
def PX12_feed : Nat → Nat
  | 0 => 0
  | 1 => 24
  | 2 => 54
  | 3 => 101
  | _ => 0
def BX12_trim : Nat → List MI
  | 0 => [(.aload 0, [], 0), (.sipush 0, [], 0), (.putfield 66, [12, 0, 0], 0), (.iload 1, [], 0), (.sipush 0, [], 0), (.aload 0, [], 0), (.getfield 76, [12, 2, 0], 0), (.invokestatic 72, [152, 3], 0), (.ifCond .ne 9, [1], 0), (.aload 0, [], 0), (.sipush 1, [], 0), (.invokevirtual 407, [151, 2], 0), (.ireturn, [0], 0)]
  | 1 => [(.aload 0, [], 0), (.iload 1, [], 0), (.putfield 76, [12, 2, 0], 0), (.iload 1, [], 0), (.ireturn, [0], 0)]
  | _ => []
def PX12_trim : Nat → Nat
  | 0 => 0
  | 1 => 23
  | _ => 0
def BX12_fill : Nat → List MI
  | 0 => [(.sipush 0, [], 0), (.istore 2, [], 0), (.invokedynamic 4, [1], 0)]
  | 1 => [(.iload 2, [], 0), (.aload 0, [], 0), (.arraylength, [], 0), (.if_icmp .ge 13, [2], 0), (.aload 0, [], 0), (.iload 2, [], 0), (.iload 1, [], 0), (.iastore, [], 0), (.iinc 2 1, [], 0), (.goto (-13), [1], 0)]
  | 2 => [(.return_, [], 0)]
  | _ => []
def PX12_fill : Nat → Nat
  | 0 => 0
  | 1 => 2
  | 2 => 18
  | _ => 0
def BX12_begin : Nat → List MI
  | 0 => [(.aload 0, [], 0), (.getfield 27, [12, 7, 2], 0), (.sipush 0, [], 0), (.putfield 378, [11, 1, 0], 0), (.aload 0, [], 0), (.getfield 27, [12, 7, 2], 0), (.sipush 0, [], 0), (.putfield 360, [11, 2, 0], 0), (.aload 0, [], 0), (.getfield 27, [12, 7, 2], 0), (.sipush 0, [], 0), (.putfield 410, [11, 3, 0], 0), (.aload 0, [], 0), (.getfield 27, [12, 7, 2], 0), (.sipush 0, [], 0), (.putfield 350, [11, 9, 0], 0), (.aload 0, [], 0), (.getfield 20, [12, 6, 2], 0), (.getfield 220, [10, 8, 2], 0), (.aload 0, [], 0), (.getfield 27, [12, 7, 2], 0), (.getfield 413, [11, 4, 2], 0), (.invokestatic 414, [142, 2], 0), (.aload 0, [], 0), (.getfield 27, [12, 7, 2], 0), (.getfield 296, [11, 5, 2], 0), (.sipush 0, [], 0), (.invokestatic 62, [219, 2], 0), (.aload 0, [], 0), (.getfield 27, [12, 7, 2], 0), (.getfield 59, [11, 6, 2], 0), (.sipush (-1), [], 0), (.invokestatic 62, [219, 2], 0), (.aload 0, [], 0), (.getfield 27, [12, 7, 2], 0), (.getfield 375, [11, 7, 2], 0), (.sipush 0, [], 0), (.invokestatic 62, [219, 2], 0), (.aload 0, [], 0), (.getfield 27, [12, 7, 2], 0), (.getfield 338, [11, 8, 2], 0), (.sipush 0, [], 0), (.invokestatic 62, [219, 2], 0), (.return_, [], 0)]
  | _ => []
def PX12_begin : Nat → Nat
  | 0 => 0
  | _ => 0
def BX12_teach : Nat → List MI
  | 0 => [(.aload 0, [], 0), (.sipush 0, [], 0), (.putfield 66, [12, 0, 0], 0), (.aload 0, [], 0), (.sipush (-1), [], 0), (.putfield 13, [12, 3, 0], 0), (.new 17, [10], 0), (.dup, [], 0), (.invokespecial 19, [140, 1], 0), (.astore 1, [], 0), (.aload 0, [], 0), (.aload 1, [], 0), (.invokevirtual 418, [186, 2], 0), (.istore 2, [], 0), (.aload 0, [], 0), (.sipush 0, [], 0), (.putfield 76, [12, 2, 0], 0), (.iload 2, [], 0), (.ifCond .le 5, [1], 0), (.iload 2, [], 0), (.ireturn, [0], 0)]
  | 1 => [(.aload 0, [], 0), (.aload 1, [], 0), (.putfield 20, [12, 6, 2], 0), (.aload 0, [], 0), (.invokevirtual 422, [220, 1], 0), (.sipush 0, [], 0), (.ireturn, [0], 0)]
  | _ => []
def PX12_teach : Nat → Nat
  | 0 => 0
  | 1 => 35
  | _ => 0
def BX12_errorAt : Nat → List MI
  | 0 => [(.aload 0, [], 0), (.sipush 0, [], 0), (.putfield 66, [12, 0, 0], 0), (.aload 0, [], 0), (.getfield 13, [12, 3, 0], 0), (.ireturn, [0], 0)]
  | _ => []
def PX12_errorAt : Nat → Nat
  | 0 => 0
  | _ => 0
def BX12_count : Nat → List MI
  | 0 => [(.aload 0, [], 0), (.sipush 0, [], 0), (.putfield 66, [12, 0, 0], 0), (.iload 1, [], 0), (.sipush 0, [], 0), (.sipush 14, [], 0), (.invokestatic 72, [152, 3], 0), (.ifCond .eq 15, [1], 0), (.aload 0, [], 0), (.aload 0, [], 0), (.getfield 27, [12, 7, 2], 0), (.iload 1, [], 0), (.invokevirtual 425, [216, 3], 0), (.goto 8, [2], 0)]
  | 1 => [(.aload 0, [], 0), (.sipush 1, [], 0), (.invokevirtual 407, [151, 2], 0), (.invokedynamic 4, [2], 0)]
  | 2 => [(.ireturn, [0], 0)]
  | _ => []
def PX12_count : Nat → Nat
  | 0 => 0
  | 1 => 27
  | 2 => 32
  | _ => 0
def BX12_tavernTold : Nat → List MI
  | 0 => [(.sipush 0, [], 0), (.istore 3, [], 0), (.iload 2, [], 0), (.tableswitch 160 0 2 #[25, 98, 144], [13, 1, 7, 12], 0)]
  | 1 => [(.sipush 0, [], 0), (.istore 4, [], 0), (.invokedynamic 4, [2], 0)]
  | 2 => [(.iload 4, [], 0), (.aload 0, [], 0), (.getfield 20, [12, 6, 2], 0), (.getfield 69, [10, 4, 2], 0), (.sipush 1, [], 0), (.iaload, [], 0), (.if_icmp .ge 57, [6], 0), (.iload 3, [], 0), (.aload 0, [], 0), (.getfield 27, [12, 7, 2], 0), (.iload 4, [], 0), (.invokevirtual 272, [144, 2], 0), (.ifCond .eq 35, [4], 0), (.aload 0, [], 0), (.getfield 20, [12, 6, 2], 0), (.getfield 202, [10, 6, 2], 0), (.iload 4, [], 0), (.iaload, [], 0), (.iload 1, [], 0), (.if_icmp .eq 17, [3], 0), (.aload 0, [], 0), (.getfield 20, [12, 6, 2], 0), (.getfield 205, [10, 7, 2], 0), (.iload 4, [], 0), (.iaload, [], 0), (.iload 1, [], 0), (.if_icmp .ne 7, [4], 0), (.invokedynamic 4, [3], 0)]
  | 3 => [(.sipush 1, [], 0), (.goto 4, [5], 0)]
  | 4 => [(.sipush 0, [], 0), (.invokedynamic 4, [5], 0)]
  | 5 => [(.iadd, [], 0), (.istore 3, [], 0), (.iinc 4 1, [], 0), (.goto (-65), [2], 0)]
  | 6 => [(.iload 3, [], 0), (.ireturn, [0], 0)]
  | 7 => [(.sipush 0, [], 0), (.istore 4, [], 0), (.invokedynamic 4, [8], 0)]
  | 8 => [(.iload 4, [], 0), (.aload 0, [], 0), (.getfield 20, [12, 6, 2], 0), (.getfield 69, [10, 4, 2], 0), (.sipush 5, [], 0), (.iaload, [], 0), (.if_icmp .ge 30, [11], 0), (.iload 3, [], 0), (.aload 0, [], 0), (.getfield 27, [12, 7, 2], 0), (.iload 1, [], 0), (.iload 4, [], 0), (.invokevirtual 275, [146, 3], 0), (.ifCond .eq 7, [9], 0), (.sipush 1, [], 0), (.goto 4, [10], 0)]
  | 9 => [(.sipush 0, [], 0), (.invokedynamic 4, [10], 0)]
  | 10 => [(.iadd, [], 0), (.istore 3, [], 0), (.iinc 4 1, [], 0), (.goto (-38), [8], 0)]
  | 11 => [(.iload 3, [], 0), (.ireturn, [0], 0)]
  | 12 => [(.aload 0, [], 0), (.aload 0, [], 0), (.getfield 27, [12, 7, 2], 0), (.invokevirtual 404, [199, 2], 0), (.pop, [], 0), (.aload 0, [], 0), (.getfield 40, [12, 12, 2], 0), (.iload 1, [], 0), (.iaload, [], 0), (.ireturn, [0], 0)]
  | 13 => [(.aload 0, [], 0), (.aload 0, [], 0), (.getfield 27, [12, 7, 2], 0), (.iload 1, [], 0), (.invokevirtual 318, [196, 3], 0), (.sipush 0, [], 0), (.istore 4, [], 0), (.invokedynamic 4, [14], 0)]
  | 14 => [(.iload 4, [], 0), (.aload 0, [], 0), (.getfield 20, [12, 6, 2], 0), (.getfield 69, [10, 4, 2], 0), (.sipush 0, [], 0), (.iaload, [], 0), (.if_icmp .ge 21, [15], 0), (.iload 3, [], 0), (.aload 0, [], 0), (.getfield 37, [12, 11, 2], 0), (.iload 4, [], 0), (.iaload, [], 0), (.invokedynamic 1, [308], 0), (.istore 3, [], 0), (.iinc 4 1, [], 0), (.goto (-29), [14], 0)]
  | 15 => [(.iload 3, [], 0), (.ireturn, [0], 0)]
  | _ => []
def PX12_tavernTold : Nat → Nat
  | 0 => 0
  | 1 => 28
  | 2 => 31
  | 3 => 86
  | 4 => 90
  | 5 => 91
  | 6 => 99
  | 7 => 101
  | 8 => 104
  | 9 => 136
  | 10 => 137
  | 11 => 145
  | 12 => 147
  | 13 => 163
  | 14 => 175
  | 15 => 207
  | _ => 0
def BX12_tavern : Nat → List MI
  | 0 => [(.aload 0, [], 0), (.sipush 0, [], 0), (.putfield 66, [12, 0, 0], 0), (.aload 0, [], 0), (.sipush 0, [], 0), (.iload 1, [], 0), (.invokevirtual 428, [153, 3], 0), (.ifCond .eq 21, [1], 0), (.iload 2, [], 0), (.sipush 0, [], 0), (.sipush 3, [], 0), (.invokestatic 72, [152, 3], 0), (.ifCond .eq 12, [1], 0), (.aload 0, [], 0), (.iload 1, [], 0), (.iload 2, [], 0), (.invokevirtual 431, [224, 3], 0), (.goto 8, [2], 0)]
  | 1 => [(.aload 0, [], 0), (.sipush 1, [], 0), (.invokevirtual 407, [151, 2], 0), (.invokedynamic 4, [2], 0)]
  | 2 => [(.ireturn, [0], 0)]
  | _ => []
def PX12_tavern : Nat → Nat
  | 0 => 0
  | 1 => 32
  | 2 => 37
  | _ => 0
def BX12_travellersOn : Nat → List MI
  | 0 => [(.sipush 0, [], 0), (.istore 2, [], 0), (.sipush 0, [], 0), (.istore 3, [], 0), (.invokedynamic 4, [1], 0)]
  | 1 => [(.iload 3, [], 0), (.aload 0, [], 0), (.getfield 27, [12, 7, 2], 0), (.getfield 350, [11, 9, 0], 0), (.if_icmp .ge 30, [4], 0), (.iload 2, [], 0), (.aload 0, [], 0), (.getfield 27, [12, 7, 2], 0), (.getfield 353, [11, 11, 2], 0), (.iload 3, [], 0), (.iaload, [], 0), (.iload 1, [], 0), (.if_icmp .ne 7, [2], 0), (.sipush 1, [], 0), (.goto 4, [3], 0)]
  | 2 => [(.sipush 0, [], 0), (.invokedynamic 4, [3], 0)]
  | 3 => [(.iadd, [], 0), (.istore 2, [], 0), (.iinc 3 1, [], 0), (.goto (-35), [1], 0)]
  | 4 => [(.iload 2, [], 0), (.ireturn, [0], 0)]
  | _ => []
def PX12_travellersOn : Nat → Nat
  | 0 => 0
  | 1 => 4
  | 2 => 33
  | 3 => 34
  | 4 => 42
  | _ => 0
def BX12_roadTold : Nat → List MI
  | 0 => [(.iload 2, [], 0), (.tableswitch 155 0 7 #[47, 57, 67, 77, 87, 96, 113, 131], [15, 1, 2, 3, 4, 5, 6, 9, 12], 0)]
  | 1 => [(.aload 0, [], 0), (.getfield 20, [12, 6, 2], 0), (.getfield 202, [10, 6, 2], 0), (.iload 1, [], 0), (.iaload, [], 0), (.ireturn, [0], 0)]
  | 2 => [(.aload 0, [], 0), (.getfield 20, [12, 6, 2], 0), (.getfield 205, [10, 7, 2], 0), (.iload 1, [], 0), (.iaload, [], 0), (.ireturn, [0], 0)]
  | 3 => [(.aload 0, [], 0), (.getfield 27, [12, 7, 2], 0), (.getfield 413, [11, 4, 2], 0), (.iload 1, [], 0), (.iaload, [], 0), (.ireturn, [0], 0)]
  | 4 => [(.aload 0, [], 0), (.getfield 27, [12, 7, 2], 0), (.getfield 296, [11, 5, 2], 0), (.iload 1, [], 0), (.iaload, [], 0), (.ireturn, [0], 0)]
  | 5 => [(.aload 0, [], 0), (.getfield 27, [12, 7, 2], 0), (.iload 1, [], 0), (.invokevirtual 294, [145, 2], 0), (.ireturn, [0], 0)]
  | 6 => [(.aload 0, [], 0), (.getfield 27, [12, 7, 2], 0), (.iload 1, [], 0), (.invokevirtual 272, [144, 2], 0), (.ifCond .eq 7, [7], 0), (.sipush 1, [], 0), (.goto 4, [8], 0)]
  | 7 => [(.sipush 0, [], 0), (.invokedynamic 4, [8], 0)]
  | 8 => [(.ireturn, [0], 0)]
  | 9 => [(.aload 0, [], 0), (.aload 0, [], 0), (.getfield 27, [12, 7, 2], 0), (.iload 1, [], 0), (.invokevirtual 398, [203, 3], 0), (.ifCond .eq 7, [10], 0), (.sipush 1, [], 0), (.goto 4, [11], 0)]
  | 10 => [(.sipush 0, [], 0), (.invokedynamic 4, [11], 0)]
  | 11 => [(.ireturn, [0], 0)]
  | 12 => [(.aload 0, [], 0), (.aload 0, [], 0), (.getfield 27, [12, 7, 2], 0), (.invokevirtual 329, [201, 2], 0), (.pop, [], 0), (.aload 0, [], 0), (.getfield 46, [12, 14, 2], 0), (.iload 1, [], 0), (.baload, [], 0), (.ifCond .eq 7, [13], 0), (.sipush 1, [], 0), (.goto 4, [14], 0)]
  | 13 => [(.sipush 0, [], 0), (.invokedynamic 4, [14], 0)]
  | 14 => [(.ireturn, [0], 0)]
  | 15 => [(.aload 0, [], 0), (.iload 1, [], 0), (.invokevirtual 434, [226, 2], 0), (.ireturn, [0], 0)]
  | _ => []
def PX12_roadTold : Nat → Nat
  | 0 => 0
  | 1 => 48
  | 2 => 58
  | 3 => 68
  | 4 => 78
  | 5 => 88
  | 6 => 97
  | 7 => 112
  | 8 => 113
  | 9 => 114
  | 10 => 130
  | 11 => 131
  | 12 => 132
  | 13 => 154
  | 14 => 155
  | 15 => 156
  | _ => 0
def BX12_road : Nat → List MI
  | 0 => [(.aload 0, [], 0), (.sipush 0, [], 0), (.putfield 66, [12, 0, 0], 0), (.aload 0, [], 0), (.sipush 1, [], 0), (.iload 1, [], 0), (.invokevirtual 428, [153, 3], 0), (.ifCond .eq 22, [1], 0), (.iload 2, [], 0), (.sipush 0, [], 0), (.sipush 8, [], 0), (.invokestatic 72, [152, 3], 0), (.ifCond .eq 12, [1], 0), (.aload 0, [], 0), (.iload 1, [], 0), (.iload 2, [], 0), (.invokevirtual 437, [227, 3], 0), (.goto 8, [2], 0)]
  | 1 => [(.aload 0, [], 0), (.sipush 1, [], 0), (.invokevirtual 407, [151, 2], 0), (.invokedynamic 4, [2], 0)]
  | 2 => [(.ireturn, [0], 0)]
  | _ => []
def PX12_road : Nat → Nat
  | 0 => 0
  | 1 => 33
  | 2 => 38
  | _ => 0
def BX12_rumourTold : Nat → List MI
  | 0 => [(.sipush 0, [], 0), (.istore 3, [], 0), (.iload 2, [], 0), (.tableswitch 55 0 2 #[25, 35, 45], [4, 1, 2, 3], 0)]
  | 1 => [(.aload 0, [], 0), (.getfield 20, [12, 6, 2], 0), (.getfield 208, [10, 9, 2], 0), (.iload 1, [], 0), (.iaload, [], 0), (.ireturn, [0], 0)]
  | 2 => [(.aload 0, [], 0), (.getfield 20, [12, 6, 2], 0), (.getfield 223, [10, 10, 2], 0), (.iload 1, [], 0), (.iaload, [], 0), (.ireturn, [0], 0)]
  | 3 => [(.aload 0, [], 0), (.aload 0, [], 0), (.getfield 27, [12, 7, 2], 0), (.iload 1, [], 0), (.invokevirtual 299, [205, 3], 0), (.ireturn, [0], 0)]
  | 4 => [(.sipush 0, [], 0), (.istore 4, [], 0), (.invokedynamic 4, [5], 0)]
  | 5 => [(.iload 4, [], 0), (.aload 0, [], 0), (.getfield 27, [12, 7, 2], 0), (.getfield 350, [11, 9, 0], 0), (.if_icmp .ge 31, [8], 0), (.iload 3, [], 0), (.aload 0, [], 0), (.getfield 27, [12, 7, 2], 0), (.getfield 369, [11, 10, 2], 0), (.iload 4, [], 0), (.iaload, [], 0), (.iload 1, [], 0), (.if_icmp .ne 7, [6], 0), (.sipush 1, [], 0), (.goto 4, [7], 0)]
  | 6 => [(.sipush 0, [], 0), (.invokedynamic 4, [7], 0)]
  | 7 => [(.iadd, [], 0), (.istore 3, [], 0), (.iinc 4 1, [], 0), (.goto (-37), [5], 0)]
  | 8 => [(.iload 3, [], 0), (.ireturn, [0], 0)]
  | _ => []
def PX12_rumourTold : Nat → Nat
  | 0 => 0
  | 1 => 28
  | 2 => 38
  | 3 => 48
  | 4 => 58
  | 5 => 61
  | 6 => 92
  | 7 => 93
  | 8 => 101
  | _ => 0
def BX12_rumour : Nat → List MI
  | 0 => [(.aload 0, [], 0), (.sipush 0, [], 0), (.putfield 66, [12, 0, 0], 0), (.aload 0, [], 0), (.sipush 5, [], 0), (.iload 1, [], 0), (.invokevirtual 428, [153, 3], 0), (.ifCond .eq 21, [1], 0), (.iload 2, [], 0), (.sipush 0, [], 0), (.sipush 3, [], 0), (.invokestatic 72, [152, 3], 0), (.ifCond .eq 12, [1], 0), (.aload 0, [], 0), (.iload 1, [], 0), (.iload 2, [], 0), (.invokevirtual 440, [229, 3], 0), (.goto 8, [2], 0)]
  | 1 => [(.aload 0, [], 0), (.sipush 1, [], 0), (.invokevirtual 407, [151, 2], 0), (.invokedynamic 4, [2], 0)]
  | 2 => [(.ireturn, [0], 0)]
  | _ => []
def PX12_rumour : Nat → Nat
  | 0 => 0
  | 1 => 32
  | 2 => 37
  | _ => 0
def BX12_since : Nat → List MI
  | 0 => [(.aload 0, [], 0), (.sipush 0, [], 0), (.putfield 66, [12, 0, 0], 0), (.aload 0, [], 0), (.sipush 0, [], 0), (.iload 1, [], 0), (.invokevirtual 428, [153, 3], 0), (.ifCond .eq 29, [1], 0), (.aload 0, [], 0), (.sipush 5, [], 0), (.iload 2, [], 0), (.invokevirtual 428, [153, 3], 0), (.ifCond .eq 20, [1], 0), (.aload 0, [], 0), (.getfield 27, [12, 7, 2], 0), (.getfield 59, [11, 6, 2], 0), (.sipush 6, [], 0), (.iload 1, [], 0), (.imul, [], 0), (.iload 2, [], 0), (.iadd, [], 0), (.iaload, [], 0), (.goto 8, [2], 0)]
  | 1 => [(.aload 0, [], 0), (.sipush 1, [], 0), (.invokevirtual 407, [151, 2], 0), (.invokedynamic 4, [2], 0)]
  | 2 => [(.ireturn, [0], 0)]
  | _ => []
def PX12_since : Nat → Nat
  | 0 => 0
  | 1 => 40
  | 2 => 45
  | _ => 0
def BX12_far_ : Nat → List MI
  | 0 => [(.aload 0, [], 0), (.sipush 0, [], 0), (.putfield 66, [12, 0, 0], 0), (.aload 0, [], 0), (.sipush 0, [], 0), (.iload 1, [], 0), (.invokevirtual 428, [153, 3], 0), (.ifCond .eq 25, [1], 0), (.aload 0, [], 0), (.sipush 0, [], 0), (.iload 2, [], 0), (.invokevirtual 428, [153, 3], 0), (.ifCond .eq 16, [1], 0), (.aload 0, [], 0), (.aload 0, [], 0), (.getfield 27, [12, 7, 2], 0), (.iload 1, [], 0), (.iload 2, [], 0), (.invokevirtual 279, [198, 4], 0), (.goto 8, [2], 0)]
  | 1 => [(.aload 0, [], 0), (.sipush 1, [], 0), (.invokevirtual 407, [151, 2], 0), (.invokedynamic 4, [2], 0)]
  | 2 => [(.ireturn, [0], 0)]
  | _ => []
def PX12_far_ : Nat → Nat
  | 0 => 0
  | 1 => 36
  | 2 => 41
  | _ => 0
def BX12_stepTold : Nat → List MI
  | 0 => [(.iload 1, [], 0), (.iload 2, [], 0), (.if_icmp .ne 5, [1], 0), (.iload 1, [], 0), (.ireturn, [0], 0)]
  | 1 => [(.aload 0, [], 0), (.aload 0, [], 0), (.getfield 27, [12, 7, 2], 0), (.iload 2, [], 0), (.invokevirtual 318, [196, 3], 0), (.aload 0, [], 0), (.getfield 37, [12, 11, 2], 0), (.iload 1, [], 0), (.iaload, [], 0), (.sipush (-1), [], 0), (.if_icmp .ne 5, [2], 0), (.sipush (-1), [], 0), (.ireturn, [0], 0)]
  | 2 => [(.sipush 10, [], 0), (.istore 3, [], 0), (.sipush 0, [], 0), (.istore 4, [], 0), (.invokedynamic 4, [3], 0)]
  | 3 => [(.iload 4, [], 0), (.aload 0, [], 0), (.getfield 20, [12, 6, 2], 0), (.getfield 69, [10, 4, 2], 0), (.sipush 1, [], 0), (.iaload, [], 0), (.if_icmp .ge 117, [8], 0), (.aload 0, [], 0), (.getfield 20, [12, 6, 2], 0), (.getfield 202, [10, 6, 2], 0), (.iload 4, [], 0), (.iaload, [], 0), (.iload 1, [], 0), (.if_icmp .ne 16, [4], 0), (.aload 0, [], 0), (.getfield 20, [12, 6, 2], 0), (.getfield 205, [10, 7, 2], 0), (.iload 4, [], 0), (.iaload, [], 0), (.goto 31, [6], 0)]
  | 4 => [(.aload 0, [], 0), (.getfield 20, [12, 6, 2], 0), (.getfield 205, [10, 7, 2], 0), (.iload 4, [], 0), (.iaload, [], 0), (.iload 1, [], 0), (.if_icmp .ne 16, [5], 0), (.aload 0, [], 0), (.getfield 20, [12, 6, 2], 0), (.getfield 202, [10, 6, 2], 0), (.iload 4, [], 0), (.iaload, [], 0), (.goto 4, [6], 0)]
  | 5 => [(.sipush (-1), [], 0), (.invokedynamic 4, [6], 0)]
  | 6 => [(.istore 5, [], 0), (.iload 5, [], 0), (.sipush (-1), [], 0), (.if_icmp .eq 48, [7], 0), (.aload 0, [], 0), (.getfield 27, [12, 7, 2], 0), (.iload 4, [], 0), (.invokevirtual 272, [144, 2], 0), (.ifCond .eq 36, [7], 0), (.aload 0, [], 0), (.getfield 37, [12, 11, 2], 0), (.iload 5, [], 0), (.iaload, [], 0), (.aload 0, [], 0), (.getfield 27, [12, 7, 2], 0), (.iload 4, [], 0), (.invokevirtual 294, [145, 2], 0), (.iadd, [], 0), (.aload 0, [], 0), (.getfield 37, [12, 11, 2], 0), (.iload 1, [], 0), (.iaload, [], 0), (.if_icmp .ne 10, [7], 0), (.iload 3, [], 0), (.iload 5, [], 0), (.invokedynamic 2, [303], 0), (.istore 3, [], 0), (.invokedynamic 4, [7], 0)]
  | 7 => [(.iinc 4 1, [], 0), (.goto (-125), [3], 0)]
  | 8 => [(.iload 3, [], 0), (.ireturn, [0], 0)]
  | _ => []
def PX12_stepTold : Nat → Nat
  | 0 => 0
  | 1 => 7
  | 2 => 28
  | 3 => 34
  | 4 => 75
  | 5 => 102
  | 6 => 103
  | 7 => 156
  | 8 => 162
  | _ => 0
def BX12_step : Nat → List MI
  | 0 => [(.aload 0, [], 0), (.sipush 0, [], 0), (.putfield 66, [12, 0, 0], 0), (.aload 0, [], 0), (.sipush 0, [], 0), (.iload 1, [], 0), (.invokevirtual 428, [153, 3], 0), (.ifCond .eq 21, [1], 0), (.aload 0, [], 0), (.sipush 0, [], 0), (.iload 2, [], 0), (.invokevirtual 428, [153, 3], 0), (.ifCond .eq 12, [1], 0), (.aload 0, [], 0), (.iload 1, [], 0), (.iload 2, [], 0), (.invokevirtual 443, [233, 3], 0), (.goto 8, [2], 0)]
  | 1 => [(.aload 0, [], 0), (.sipush 1, [], 0), (.invokevirtual 407, [151, 2], 0), (.invokedynamic 4, [2], 0)]
  | 2 => [(.ireturn, [0], 0)]
  | _ => []
def PX12_step : Nat → Nat
  | 0 => 0
  | 1 => 32
  | 2 => 37
  | _ => 0
def BX12_detour : Nat → List MI
  | 0 => [(.aload 0, [], 0), (.sipush 0, [], 0), (.putfield 66, [12, 0, 0], 0), (.aload 0, [], 0), (.sipush 1, [], 0), (.iload 1, [], 0), (.invokevirtual 428, [153, 3], 0), (.ifCond .eq 15, [1], 0), (.aload 0, [], 0), (.aload 0, [], 0), (.getfield 27, [12, 7, 2], 0), (.iload 1, [], 0), (.invokevirtual 326, [202, 3], 0), (.goto 8, [2], 0)]
  | 1 => [(.aload 0, [], 0), (.sipush 1, [], 0), (.invokevirtual 407, [151, 2], 0), (.invokedynamic 4, [2], 0)]
  | 2 => [(.ireturn, [0], 0)]
  | _ => []
def PX12_detour : Nat → Nat
  | 0 => 0
  | 1 => 26
  | 2 => 31
  | _ => 0
def BX12_replace : Nat → List MI
  | 0 => [(.aload 0, [], 0), (.sipush 0, [], 0), (.putfield 66, [12, 0, 0], 0), (.aload 0, [], 0), (.sipush 1, [], 0), (.iload 1, [], 0), (.invokevirtual 428, [153, 3], 0), (.ifCond .eq 15, [1], 0), (.aload 0, [], 0), (.aload 0, [], 0), (.getfield 27, [12, 7, 2], 0), (.iload 1, [], 0), (.invokevirtual 446, [204, 3], 0), (.goto 8, [2], 0)]
  | 1 => [(.aload 0, [], 0), (.sipush 1, [], 0), (.invokevirtual 407, [151, 2], 0), (.invokedynamic 4, [2], 0)]
  | 2 => [(.ireturn, [0], 0)]
  | _ => []
def PX12_replace : Nat → Nat
  | 0 => 0
  | 1 => 26
  | 2 => 31
  | _ => 0
def BX12_hurt : Nat → List MI
  | 0 => [(.aload 0, [], 0), (.sipush 0, [], 0), (.putfield 66, [12, 0, 0], 0), (.aload 0, [], 0), (.sipush 1, [], 0), (.iload 1, [], 0), (.invokevirtual 428, [153, 3], 0), (.ifCond .ne 9, [1], 0), (.aload 0, [], 0), (.sipush 1, [], 0), (.invokevirtual 407, [151, 2], 0), (.ireturn, [0], 0)]
  | 1 => [(.iload 2, [], 0), (.sipush 1, [], 0), (.sipush 3, [], 0), (.invokestatic 72, [152, 3], 0), (.ifCond .ne 9, [2], 0), (.aload 0, [], 0), (.sipush 2, [], 0), (.invokevirtual 407, [151, 2], 0), (.ireturn, [0], 0)]
  | 2 => [(.aload 0, [], 0), (.aload 0, [], 0), (.getfield 27, [12, 7, 2], 0), (.iload 1, [], 0), (.iload 2, [], 0), (.invokevirtual 346, [206, 4], 0), (.pop, [], 0), (.aload 0, [], 0), (.getfield 27, [12, 7, 2], 0), (.getfield 296, [11, 5, 2], 0), (.iload 1, [], 0), (.iaload, [], 0), (.ireturn, [0], 0)]
  | _ => []
def PX12_hurt : Nat → Nat
  | 0 => 0
  | 1 => 20
  | 2 => 35
  | _ => 0
def BX12_mend : Nat → List MI
  | 0 => [(.aload 0, [], 0), (.sipush 0, [], 0), (.putfield 66, [12, 0, 0], 0), (.aload 0, [], 0), (.sipush 1, [], 0), (.iload 1, [], 0), (.invokevirtual 428, [153, 3], 0), (.ifCond .ne 9, [1], 0), (.aload 0, [], 0), (.sipush 1, [], 0), (.invokevirtual 407, [151, 2], 0), (.ireturn, [0], 0)]
  | 1 => [(.aload 0, [], 0), (.aload 0, [], 0), (.getfield 27, [12, 7, 2], 0), (.iload 1, [], 0), (.invokevirtual 341, [207, 3], 0), (.ifCond .eq 15, [2], 0), (.aload 0, [], 0), (.getfield 27, [12, 7, 2], 0), (.getfield 296, [11, 5, 2], 0), (.iload 1, [], 0), (.iaload, [], 0), (.goto 8, [3], 0)]
  | 2 => [(.aload 0, [], 0), (.sipush 2, [], 0), (.invokevirtual 407, [151, 2], 0), (.invokedynamic 4, [3], 0)]
  | 3 => [(.ireturn, [0], 0)]
  | _ => []
def PX12_mend : Nat → Nat
  | 0 => 0
  | 1 => 20
  | 2 => 44
  | 3 => 49
  | _ => 0
def BX12_tell : Nat → List MI
  | 0 => [(.aload 0, [], 0), (.sipush 0, [], 0), (.putfield 66, [12, 0, 0], 0), (.aload 0, [], 0), (.sipush 0, [], 0), (.iload 1, [], 0), (.invokevirtual 428, [153, 3], 0), (.ifCond .eq 12, [1], 0), (.aload 0, [], 0), (.sipush 5, [], 0), (.iload 2, [], 0), (.invokevirtual 428, [153, 3], 0), (.ifCond .ne 9, [2], 0), (.invokedynamic 4, [1], 0)]
  | 1 => [(.aload 0, [], 0), (.sipush 1, [], 0), (.invokevirtual 407, [151, 2], 0), (.ireturn, [0], 0)]
  | 2 => [(.aload 0, [], 0), (.getfield 27, [12, 7, 2], 0), (.iload 1, [], 0), (.iload 2, [], 0), (.invokevirtual 372, [147, 3], 0), (.ifCond .eq 15, [3], 0), (.aload 0, [], 0), (.aload 0, [], 0), (.getfield 27, [12, 7, 2], 0), (.iload 2, [], 0), (.invokevirtual 299, [205, 3], 0), (.goto 8, [4], 0)]
  | 3 => [(.aload 0, [], 0), (.sipush 2, [], 0), (.invokevirtual 407, [151, 2], 0), (.invokedynamic 4, [4], 0)]
  | 4 => [(.ireturn, [0], 0)]
  | _ => []
def PX12_tell : Nat → Nat
  | 0 => 0
  | 1 => 23
  | 2 => 29
  | 3 => 53
  | 4 => 58
  | _ => 0
def BX12_setMiles : Nat → List MI
  | 0 => [(.aload 0, [], 0), (.sipush 0, [], 0), (.putfield 66, [12, 0, 0], 0), (.aload 0, [], 0), (.sipush 1, [], 0), (.iload 1, [], 0), (.invokevirtual 428, [153, 3], 0), (.ifCond .ne 9, [1], 0), (.aload 0, [], 0), (.sipush 1, [], 0), (.invokevirtual 407, [151, 2], 0), (.ireturn, [0], 0)]
  | 1 => [(.iload 2, [], 0), (.sipush 1, [], 0), (.sipush 30, [], 0), (.invokestatic 72, [152, 3], 0), (.ifCond .ne 9, [2], 0), (.aload 0, [], 0), (.sipush 2, [], 0), (.invokevirtual 407, [151, 2], 0), (.ireturn, [0], 0)]
  | 2 => [(.aload 0, [], 0), (.getfield 27, [12, 7, 2], 0), (.getfield 413, [11, 4, 2], 0), (.iload 1, [], 0), (.iaload, [], 0), (.istore 3, [], 0), (.aload 0, [], 0), (.getfield 27, [12, 7, 2], 0), (.getfield 413, [11, 4, 2], 0), (.iload 1, [], 0), (.iload 2, [], 0), (.iastore, [], 0), (.iload 3, [], 0), (.ireturn, [0], 0)]
  | _ => []
def PX12_setMiles : Nat → Nat
  | 0 => 0
  | 1 => 20
  | 2 => 36
  | _ => 0
def BX12_pass : Nat → List MI
  | 0 => [(.aload 0, [], 0), (.sipush 0, [], 0), (.putfield 66, [12, 0, 0], 0), (.iload 1, [], 0), (.sipush 1, [], 0), (.sipush 100, [], 0), (.invokestatic 72, [152, 3], 0), (.ifCond .ne 9, [1], 0), (.aload 0, [], 0), (.sipush 1, [], 0), (.invokevirtual 407, [151, 2], 0), (.ireturn, [0], 0)]
  | 1 => [(.aload 0, [], 0), (.getfield 27, [12, 7, 2], 0), (.getfield 410, [11, 3, 0], 0), (.istore 2, [], 0), (.aload 0, [], 0), (.aload 0, [], 0), (.getfield 27, [12, 7, 2], 0), (.iload 1, [], 0), (.invokevirtual 449, [214, 3], 0), (.aload 0, [], 0), (.getfield 27, [12, 7, 2], 0), (.getfield 410, [11, 3, 0], 0), (.iload 2, [], 0), (.isub, [], 0), (.ireturn, [0], 0)]
  | _ => []
def PX12_pass : Nat → Nat
  | 0 => 0
  | 1 => 21
  | _ => 0
def BX12_untilAll : Nat → List MI
  | 0 => [(.aload 0, [], 0), (.getfield 31, [12, 8, 2], 0), (.aload 0, [], 0), (.getfield 27, [12, 7, 2], 0), (.invokevirtual 452, [143, 2], 0), (.sipush 0, [], 0), (.istore 2, [], 0), (.invokedynamic 4, [1], 0)]
  | 1 => [(.iload 2, [], 0), (.sipush 120, [], 0), (.if_icmp .gt 40, [3], 0), (.aload 0, [], 0), (.aload 0, [], 0), (.getfield 31, [12, 8, 2], 0), (.iload 1, [], 0), (.invokevirtual 299, [205, 3], 0), (.aload 0, [], 0), (.getfield 20, [12, 6, 2], 0), (.getfield 69, [10, 4, 2], 0), (.sipush 0, [], 0), (.iaload, [], 0), (.if_icmp .ne 5, [2], 0), (.iload 2, [], 0), (.ireturn, [0], 0)]
  | 2 => [(.aload 0, [], 0), (.aload 0, [], 0), (.getfield 31, [12, 8, 2], 0), (.invokevirtual 395, [213, 2], 0), (.iinc 2 1, [], 0), (.goto (-40), [1], 0)]
  | 3 => [(.sipush (-1), [], 0), (.ireturn, [0], 0)]
  | _ => []
def PX12_untilAll : Nat → Nat
  | 0 => 0
  | 1 => 13
  | 2 => 42
  | 3 => 56
  | _ => 0
def BX12_until : Nat → List MI
  | 0 => [(.aload 0, [], 0), (.sipush 0, [], 0), (.putfield 66, [12, 0, 0], 0), (.aload 0, [], 0), (.sipush 5, [], 0), (.iload 1, [], 0), (.invokevirtual 428, [153, 3], 0), (.ifCond .eq 11, [1], 0), (.aload 0, [], 0), (.iload 1, [], 0), (.invokevirtual 455, [242, 2], 0), (.goto 8, [2], 0)]
  | 1 => [(.aload 0, [], 0), (.sipush 1, [], 0), (.invokevirtual 407, [151, 2], 0), (.invokedynamic 4, [2], 0)]
  | 2 => [(.ireturn, [0], 0)]
  | _ => []
def PX12_until : Nat → Nat
  | 0 => 0
  | 1 => 22
  | 2 => 27
  | _ => 0
def BX12_foresee : Nat → List MI
  | 0 => [(.aload 0, [], 0), (.sipush 0, [], 0), (.putfield 66, [12, 0, 0], 0), (.iload 1, [], 0), (.sipush 1, [], 0), (.sipush 100, [], 0), (.invokestatic 72, [152, 3], 0), (.ifCond .ne 9, [1], 0), (.aload 0, [], 0), (.sipush 1, [], 0), (.invokevirtual 407, [151, 2], 0), (.ireturn, [0], 0)]
  | 1 => [(.iload 2, [], 0), (.sipush 5, [], 0), (.sipush 13, [], 0), (.invokestatic 72, [152, 3], 0), (.ifCond .ne 9, [2], 0), (.aload 0, [], 0), (.sipush 2, [], 0), (.invokevirtual 407, [151, 2], 0), (.ireturn, [0], 0)]
  | 2 => [(.aload 0, [], 0), (.getfield 31, [12, 8, 2], 0), (.aload 0, [], 0), (.getfield 27, [12, 7, 2], 0), (.invokevirtual 452, [143, 2], 0), (.aload 0, [], 0), (.aload 0, [], 0), (.getfield 31, [12, 8, 2], 0), (.iload 1, [], 0), (.invokevirtual 449, [214, 3], 0), (.aload 0, [], 0), (.aload 0, [], 0), (.getfield 31, [12, 8, 2], 0), (.iload 2, [], 0), (.invokevirtual 425, [216, 3], 0), (.ireturn, [0], 0)]
  | _ => []
def PX12_foresee : Nat → Nat
  | 0 => 0
  | 1 => 21
  | 2 => 37
  | _ => 0
def BX12_adviseTold : Nat → List MI
  | 0 => [(.aload 0, [], 0), (.getfield 31, [12, 8, 2], 0), (.aload 0, [], 0), (.getfield 27, [12, 7, 2], 0), (.invokevirtual 452, [143, 2], 0), (.aload 0, [], 0), (.aload 0, [], 0), (.getfield 31, [12, 8, 2], 0), (.iload 2, [], 0), (.invokevirtual 449, [214, 3], 0), (.sipush (-1), [], 0), (.istore 3, [], 0), (.aload 0, [], 0), (.aload 0, [], 0), (.getfield 31, [12, 8, 2], 0), (.iload 1, [], 0), (.invokevirtual 299, [205, 3], 0), (.istore 4, [], 0), (.sipush 0, [], 0), (.istore 5, [], 0), (.invokedynamic 4, [1], 0)]
  | 1 => [(.iload 5, [], 0), (.aload 0, [], 0), (.getfield 20, [12, 6, 2], 0), (.getfield 69, [10, 4, 2], 0), (.sipush 0, [], 0), (.iaload, [], 0), (.if_icmp .ge 84, [5], 0), (.aload 0, [], 0), (.getfield 27, [12, 7, 2], 0), (.iload 5, [], 0), (.iload 1, [], 0), (.invokevirtual 275, [146, 3], 0), (.ifCond .eq 6, [2], 0), (.goto 62, [4], 0)]
  | 2 => [(.aload 0, [], 0), (.getfield 31, [12, 8, 2], 0), (.aload 0, [], 0), (.getfield 27, [12, 7, 2], 0), (.invokevirtual 452, [143, 2], 0), (.aload 0, [], 0), (.getfield 31, [12, 8, 2], 0), (.iload 5, [], 0), (.iload 1, [], 0), (.invokevirtual 372, [147, 3], 0), (.pop, [], 0), (.aload 0, [], 0), (.aload 0, [], 0), (.getfield 31, [12, 8, 2], 0), (.iload 2, [], 0), (.invokevirtual 449, [214, 3], 0), (.aload 0, [], 0), (.aload 0, [], 0), (.getfield 31, [12, 8, 2], 0), (.iload 1, [], 0), (.invokevirtual 299, [205, 3], 0), (.istore 6, [], 0), (.iload 6, [], 0), (.iload 4, [], 0), (.if_icmp .gt 6, [3], 0), (.goto 10, [4], 0)]
  | 3 => [(.iload 5, [], 0), (.istore 3, [], 0), (.iload 6, [], 0), (.istore 4, [], 0), (.invokedynamic 4, [4], 0)]
  | 4 => [(.iinc 5 1, [], 0), (.goto (-92), [1], 0)]
  | 5 => [(.iload 3, [], 0), (.ireturn, [0], 0)]
  | _ => []
def PX12_adviseTold : Nat → Nat
  | 0 => 0
  | 1 => 36
  | 2 => 66
  | 3 => 118
  | 4 => 125
  | 5 => 131
  | _ => 0
def BX12_advise : Nat → List MI
  | 0 => [(.aload 0, [], 0), (.sipush 0, [], 0), (.putfield 66, [12, 0, 0], 0), (.aload 0, [], 0), (.sipush 5, [], 0), (.iload 1, [], 0), (.invokevirtual 428, [153, 3], 0), (.ifCond .ne 9, [1], 0), (.aload 0, [], 0), (.sipush 1, [], 0), (.invokevirtual 407, [151, 2], 0), (.ireturn, [0], 0)]
  | 1 => [(.iload 2, [], 0), (.sipush 1, [], 0), (.sipush 60, [], 0), (.invokestatic 72, [152, 3], 0), (.ifCond .eq 12, [2], 0), (.aload 0, [], 0), (.iload 1, [], 0), (.iload 2, [], 0), (.invokevirtual 458, [245, 3], 0), (.goto 8, [3], 0)]
  | 2 => [(.aload 0, [], 0), (.sipush 2, [], 0), (.invokevirtual 407, [151, 2], 0), (.invokedynamic 4, [3], 0)]
  | 3 => [(.ireturn, [0], 0)]
  | _ => []
def PX12_advise : Nat → Nat
  | 0 => 0
  | 1 => 20
  | 2 => 39
  | 3 => 44
  | _ => 0
def BX12_best : Nat → List MI
  | 0 => [(.aload 0, [], 0), (.sipush 0, [], 0), (.putfield 66, [12, 0, 0], 0), (.sipush (-1), [], 0), (.istore 1, [], 0), (.sipush 0, [], 0), (.istore 2, [], 0), (.sipush 0, [], 0), (.istore 3, [], 0), (.sipush 0, [], 0), (.istore 4, [], 0), (.invokedynamic 4, [1], 0)]
  | 1 => [(.iload 4, [], 0), (.aload 0, [], 0), (.getfield 20, [12, 6, 2], 0), (.getfield 69, [10, 4, 2], 0), (.sipush 1, [], 0), (.iaload, [], 0), (.if_icmp .ge 108, [5], 0), (.aload 0, [], 0), (.getfield 27, [12, 7, 2], 0), (.getfield 296, [11, 5, 2], 0), (.iload 4, [], 0), (.iaload, [], 0), (.ifCond .ne 6, [2], 0), (.goto 86, [4], 0)]
  | 2 => [(.aload 0, [], 0), (.getfield 27, [12, 7, 2], 0), (.getfield 296, [11, 5, 2], 0), (.iload 4, [], 0), (.dup2, [], 0), (.iaload, [], 0), (.sipush 1, [], 0), (.isub, [], 0), (.iastore, [], 0), (.aload 0, [], 0), (.aload 0, [], 0), (.getfield 27, [12, 7, 2], 0), (.invokevirtual 404, [199, 2], 0), (.istore 5, [], 0), (.aload 0, [], 0), (.aload 0, [], 0), (.getfield 27, [12, 7, 2], 0), (.invokevirtual 329, [201, 2], 0), (.istore 6, [], 0), (.aload 0, [], 0), (.getfield 27, [12, 7, 2], 0), (.getfield 296, [11, 5, 2], 0), (.iload 4, [], 0), (.dup2, [], 0), (.iaload, [], 0), (.sipush 1, [], 0), (.iadd, [], 0), (.iastore, [], 0), (.iload 1, [], 0), (.sipush (-1), [], 0), (.if_icmp .eq 24, [3], 0), (.iload 5, [], 0), (.iload 2, [], 0), (.if_icmp .gt 27, [4], 0), (.iload 5, [], 0), (.iload 2, [], 0), (.if_icmp .ne 12, [3], 0), (.iload 6, [], 0), (.iload 3, [], 0), (.if_icmp .lt 6, [3], 0), (.goto 12, [4], 0)]
  | 3 => [(.iload 4, [], 0), (.istore 1, [], 0), (.iload 5, [], 0), (.istore 2, [], 0), (.iload 6, [], 0), (.istore 3, [], 0), (.invokedynamic 4, [4], 0)]
  | 4 => [(.iinc 4 1, [], 0), (.goto (-116), [1], 0)]
  | 5 => [(.iload 1, [], 0), (.ireturn, [0], 0)]
  | _ => []
def PX12_best : Nat → Nat
  | 0 => 0
  | 1 => 14
  | 2 => 44
  | 3 => 118
  | 4 => 127
  | 5 => 133
  | _ => 0
def BX12_mean : Nat → List MI
  | 0 => [(.aload 0, [], 0), (.sipush 0, [], 0), (.putfield 66, [12, 0, 0], 0), (.sipush 0, [], 0), (.istore 1, [], 0), (.sipush 0, [], 0), (.istore 2, [], 0), (.sipush 0, [], 0), (.istore 3, [], 0), (.invokedynamic 4, [1], 0)]
  | 1 => [(.iload 3, [], 0), (.aload 0, [], 0), (.getfield 20, [12, 6, 2], 0), (.getfield 69, [10, 4, 2], 0), (.sipush 1, [], 0), (.iaload, [], 0), (.if_icmp .ge 54, [6], 0), (.iload 1, [], 0), (.aload 0, [], 0), (.getfield 27, [12, 7, 2], 0), (.iload 3, [], 0), (.invokevirtual 272, [144, 2], 0), (.ifCond .eq 14, [2], 0), (.aload 0, [], 0), (.getfield 27, [12, 7, 2], 0), (.iload 3, [], 0), (.invokevirtual 294, [145, 2], 0), (.goto 4, [3], 0)]
  | 2 => [(.sipush 0, [], 0), (.invokedynamic 4, [3], 0)]
  | 3 => [(.iadd, [], 0), (.istore 1, [], 0), (.iload 2, [], 0), (.aload 0, [], 0), (.getfield 27, [12, 7, 2], 0), (.iload 3, [], 0), (.invokevirtual 272, [144, 2], 0), (.ifCond .eq 7, [4], 0), (.sipush 1, [], 0), (.goto 4, [5], 0)]
  | 4 => [(.sipush 0, [], 0), (.invokedynamic 4, [5], 0)]
  | 5 => [(.iadd, [], 0), (.istore 2, [], 0), (.iinc 3 1, [], 0), (.goto (-61), [1], 0)]
  | 6 => [(.iload 2, [], 0), (.ifCond .ne 7, [7], 0), (.dconst 0, [], 0), (.goto 8, [8], 0)]
  | 7 => [(.iload 1, [], 0), (.i2d, [], 0), (.iload 2, [], 0), (.i2d, [], 0), (.ddiv, [], 0), (.invokedynamic 4, [8], 0)]
  | 8 => [(.dreturn, [], 0)]
  | _ => []
def PX12_mean : Nat → Nat
  | 0 => 0
  | 1 => 11
  | 2 => 47
  | 3 => 48
  | 4 => 66
  | 5 => 67
  | 6 => 75
  | 7 => 83
  | 8 => 88
  | _ => 0
def BX12_digest : Nat → List MI
  | 0 => [(.aload 0, [], 0), (.sipush 0, [], 0), (.putfield 66, [12, 0, 0], 0), (.ldc2_w 461, [], 1697), (.lstore 1, [], 0), (.sipush 0, [], 0), (.istore 3, [], 0), (.invokedynamic 4, [1], 0)]
  | 1 => [(.iload 3, [], 0), (.sipush 14, [], 0), (.if_icmp .gt 26, [2], 0), (.lload 1, [], 0), (.ldc2_w 463, [], 31), (.lmul, [], 0), (.aload 0, [], 0), (.aload 0, [], 0), (.getfield 27, [12, 7, 2], 0), (.iload 3, [], 0), (.invokevirtual 425, [216, 3], 0), (.i2l, [], 0), (.ladd, [], 0), (.lstore 1, [], 0), (.iinc 3 1, [], 0), (.goto (-26), [1], 0)]
  | 2 => [(.sipush 0, [], 0), (.istore 3, [], 0), (.invokedynamic 4, [3], 0)]
  | 3 => [(.iload 3, [], 0), (.aload 0, [], 0), (.getfield 20, [12, 6, 2], 0), (.getfield 69, [10, 4, 2], 0), (.sipush 0, [], 0), (.iaload, [], 0), (.if_icmp .ge 85, [8], 0), (.sipush 0, [], 0), (.istore 4, [], 0), (.invokedynamic 4, [4], 0)]
  | 4 => [(.iload 4, [], 0), (.sipush 3, [], 0), (.if_icmp .gt 24, [5], 0), (.lload 1, [], 0), (.ldc2_w 463, [], 31), (.lmul, [], 0), (.aload 0, [], 0), (.iload 3, [], 0), (.iload 4, [], 0), (.invokevirtual 431, [224, 3], 0), (.i2l, [], 0), (.ladd, [], 0), (.lstore 1, [], 0), (.iinc 4 1, [], 0), (.goto (-24), [4], 0)]
  | 5 => [(.sipush 0, [], 0), (.istore 4, [], 0), (.invokedynamic 4, [6], 0)]
  | 6 => [(.iload 4, [], 0), (.aload 0, [], 0), (.getfield 20, [12, 6, 2], 0), (.getfield 69, [10, 4, 2], 0), (.sipush 5, [], 0), (.iaload, [], 0), (.if_icmp .ge 32, [7], 0), (.lload 1, [], 0), (.ldc2_w 463, [], 31), (.lmul, [], 0), (.aload 0, [], 0), (.getfield 27, [12, 7, 2], 0), (.getfield 59, [11, 6, 2], 0), (.sipush 6, [], 0), (.iload 3, [], 0), (.imul, [], 0), (.iload 4, [], 0), (.iadd, [], 0), (.iaload, [], 0), (.i2l, [], 0), (.ladd, [], 0), (.lstore 1, [], 0), (.iinc 4 1, [], 0), (.goto (-40), [6], 0)]
  | 7 => [(.iinc 3 1, [], 0), (.goto (-92), [3], 0)]
  | 8 => [(.sipush 0, [], 0), (.istore 3, [], 0), (.invokedynamic 4, [9], 0)]
  | 9 => [(.iload 3, [], 0), (.aload 0, [], 0), (.getfield 20, [12, 6, 2], 0), (.getfield 69, [10, 4, 2], 0), (.sipush 1, [], 0), (.iaload, [], 0), (.if_icmp .ge 72, [12], 0), (.sipush 0, [], 0), (.istore 4, [], 0), (.invokedynamic 4, [10], 0)]
  | 10 => [(.iload 4, [], 0), (.sipush 8, [], 0), (.if_icmp .gt 24, [11], 0), (.lload 1, [], 0), (.ldc2_w 463, [], 31), (.lmul, [], 0), (.aload 0, [], 0), (.iload 3, [], 0), (.iload 4, [], 0), (.invokevirtual 437, [227, 3], 0), (.i2l, [], 0), (.ladd, [], 0), (.lstore 1, [], 0), (.iinc 4 1, [], 0), (.goto (-25), [10], 0)]
  | 11 => [(.lload 1, [], 0), (.ldc2_w 463, [], 31), (.lmul, [], 0), (.aload 0, [], 0), (.aload 0, [], 0), (.getfield 27, [12, 7, 2], 0), (.iload 3, [], 0), (.invokevirtual 326, [202, 3], 0), (.i2l, [], 0), (.ladd, [], 0), (.ldc2_w 463, [], 31), (.lmul, [], 0), (.aload 0, [], 0), (.aload 0, [], 0), (.getfield 27, [12, 7, 2], 0), (.iload 3, [], 0), (.invokevirtual 446, [204, 3], 0), (.i2l, [], 0), (.ladd, [], 0), (.lstore 1, [], 0), (.iinc 3 1, [], 0), (.goto (-79), [9], 0)]
  | 12 => [(.sipush 0, [], 0), (.istore 3, [], 0), (.invokedynamic 4, [13], 0)]
  | 13 => [(.iload 3, [], 0), (.aload 0, [], 0), (.getfield 20, [12, 6, 2], 0), (.getfield 69, [10, 4, 2], 0), (.sipush 5, [], 0), (.iaload, [], 0), (.if_icmp .ge 39, [16], 0), (.sipush 0, [], 0), (.istore 4, [], 0), (.invokedynamic 4, [14], 0)]
  | 14 => [(.iload 4, [], 0), (.sipush 3, [], 0), (.if_icmp .gt 24, [15], 0), (.lload 1, [], 0), (.ldc2_w 463, [], 31), (.lmul, [], 0), (.aload 0, [], 0), (.iload 3, [], 0), (.iload 4, [], 0), (.invokevirtual 440, [229, 3], 0), (.i2l, [], 0), (.ladd, [], 0), (.lstore 1, [], 0), (.iinc 4 1, [], 0), (.goto (-24), [14], 0)]
  | 15 => [(.iinc 3 1, [], 0), (.goto (-46), [13], 0)]
  | 16 => [(.lload 1, [], 0), (.lreturn, [], 0)]
  | _ => []
def PX12_digest : Nat → Nat
  | 0 => 0
  | 1 => 11
  | 2 => 40
  | 3 => 42
  | 4 => 58
  | 5 => 85
  | 6 => 88
  | 7 => 131
  | 8 => 137
  | 9 => 139
  | 10 => 155
  | 11 => 183
  | 12 => 221
  | 13 => 223
  | 14 => 239
  | 15 => 266
  | 16 => 272
  | _ => 0
