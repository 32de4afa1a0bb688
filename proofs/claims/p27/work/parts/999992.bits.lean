/-! ===== FOUR BYTES IN A NUMBER ===== -/
theorem of31 {n : Nat} (h : n < 2147483648) : (Int32.ofInt (n : Int)).toBitVec.toNat = n := by
  show (BitVec.ofInt 32 (n : Int)).toNat = n
  rw [BitVec.toNat_ofInt]
  show ((n : Int) % ((2 ^ 32 : Nat) : Int)).toNat = n
  have e : ((2 ^ 32 : Nat) : Int) = 4294967296 := by decide
  rw [e, Int.emod_eq_of_lt (by omega) (by omega)]
  exact Int.toNat_natCast n
theorem ti31 {y : Int32} (h : y.toBitVec.toNat < 2147483648) : y.toInt = (y.toBitVec.toNat : Int) := by
  show y.toBitVec.toInt = _
  rw [BitVec.toInt_eq_toNat_cond, if_pos (by omega)]
theorem shl8 {n : Nat} (h : n < 8388608) : i32 (fun a b => a <<< (b &&& 31)) (n : Int) 8 = ((n * 256 : Nat) : Int) := by
  have e8 : (Int32.ofInt 8 &&& 31 : Int32) = 8 := by decide
  have e9 : ((8 : Int32).toBitVec.smod 32 : BitVec 32) = 8#32 := by decide
  have en : (Int32.ofInt (n : Int) <<< (Int32.ofInt 8 &&& 31)).toBitVec.toNat = n * 256 := by
    rw [e8, Int32.toBitVec_shiftLeft, e9, BitVec.shiftLeft_eq', BitVec.toNat_shiftLeft, of31 (by omega), Nat.shiftLeft_eq]
    show n * 256 % 4294967296 = _
    omega
  show (Int32.ofInt (n : Int) <<< (Int32.ofInt 8 &&& 31)).toInt = _
  rw [ti31 (by rw [en]; omega), en]
theorem or8 {n c : Nat} (h : n < 8388608) (hc : c < 256) : i32 (fun a b => a ||| b) ((n * 256 : Nat) : Int) (c : Int) = ((n * 256 + c : Nat) : Int) := by
  have en : (Int32.ofInt ((n * 256 : Nat) : Int) ||| Int32.ofInt (c : Int)).toBitVec.toNat = n * 256 + c := by
    rw [Int32.toBitVec_or, BitVec.toNat_or, of31 (by omega), of31 (by omega)]
    have := Nat.shiftLeft_add_eq_or_of_lt (i := 8) (b := c) (by omega) n
    rw [Nat.shiftLeft_eq] at this
    exact this.symm
  show (Int32.ofInt ((n * 256 : Nat) : Int) ||| Int32.ofInt (c : Int)).toInt = _
  rw [ti31 (by rw [en]; omega), en]
theorem shrN {n k : Nat} (h : n < 2147483648) (hk : k < 32) : i32 (fun a b => a >>> (b &&& 31)) (n : Int) (k : Int) = ((n / 2 ^ k : Nat) : Int) := by
  have e8 : ∀ k : Nat, k < 32 → ((Int32.ofInt (k : Int) &&& 31 : Int32).toBitVec.smod 32 : BitVec 32).toNat = k := by decide
  have ex : (Int32.ofInt (n : Int)).toBitVec.toInt = (n : Int) := by
    rw [BitVec.toInt_eq_toNat_cond, of31 h, if_pos (by omega)]
  show (Int32.ofInt (n : Int) >>> (Int32.ofInt (k : Int) &&& 31)).toBitVec.toInt = _
  rw [Int32.toBitVec_shiftRight]
  show ((Int32.ofInt (n : Int)).toBitVec.sshiftRight ((Int32.ofInt (k : Int) &&& 31 : Int32).toBitVec.smod 32 : BitVec 32).toNat).toInt = _
  rw [e8 k hk, BitVec.toInt_sshiftRight, ex, Int.shiftRight_eq_div_pow]
  rfl
theorem cb_word {a b c d : Nat} (ha : a < 128) (hb : b < 128) (hc : c < 128) (hd : d < 128) : cb ((((a * 256 + b) * 256 + c) * 256 + d : Nat) : Int) 0 = a ∧ cb ((((a * 256 + b) * 256 + c) * 256 + d : Nat) : Int) 1 = b ∧ cb ((((a * 256 + b) * 256 + c) * 256 + d : Nat) : Int) 2 = c ∧ cb ((((a * 256 + b) * 256 + c) * 256 + d : Nat) : Int) 3 = d := by
  have s24 := shrN (n := ((a * 256 + b) * 256 + c) * 256 + d) (k := 24) (by omega) (by omega)
  have s16 := shrN (n := ((a * 256 + b) * 256 + c) * 256 + d) (k := 16) (by omega) (by omega)
  have s8 := shrN (n := ((a * 256 + b) * 256 + c) * 256 + d) (k := 8) (by omega) (by omega)
  have s0 := shrN (n := ((a * 256 + b) * 256 + c) * 256 + d) (k := 0) (by omega) (by omega)
  have bm : ∀ x : Int, x.bmod 256 = if x % 256 < 128 then x % 256 else x % 256 - 256 := fun x => by rw [Int.bmod_def]; rfl
  refine ⟨?_, ?_, ?_, ?_⟩
  · show (i32 (fun a b => a >>> (b &&& 31)) _ ((24 : Nat) : Int)).bmod 256 = _
    rw [s24, bm]
    have : (((a * 256 + b) * 256 + c) * 256 + d) / 2 ^ 24 = a := by
      show _ / 16777216 = a
      omega
    rw [this]
    split <;> omega
  · show (i32 (fun a b => a >>> (b &&& 31)) _ ((16 : Nat) : Int)).bmod 256 = _
    rw [s16, bm]
    have : (((a * 256 + b) * 256 + c) * 256 + d) / 2 ^ 16 = a * 256 + b := by
      show _ / 65536 = _
      omega
    rw [this]
    split <;> omega
  · show (i32 (fun a b => a >>> (b &&& 31)) _ ((8 : Nat) : Int)).bmod 256 = _
    rw [s8, bm]
    have : (((a * 256 + b) * 256 + c) * 256 + d) / 2 ^ 8 = (a * 256 + b) * 256 + c := by
      show _ / 256 = _
      omega
    rw [this]
    split <;> omega
  · show (i32 (fun a b => a >>> (b &&& 31)) _ ((0 : Nat) : Int)).bmod 256 = _
    rw [s0, bm]
    have : (((a * 256 + b) * 256 + c) * 256 + d) / 2 ^ 0 = ((a * 256 + b) * 256 + c) * 256 + d := Nat.div_one _
    rw [this]
    split <;> omega
/-- so many bytes of a word -/
def wv (b : Nat → Nat) : Nat → Nat
  | 0 => 0
  | m + 1 => wv b m * 256 + b m
theorem wv_bd {b : Nat → Nat} (hb : ∀ i, b i < 128) : wv b 0 = 0 ∧ wv b 1 < 128 ∧ wv b 2 < 32768 ∧ wv b 3 < 8388608 ∧ wv b 4 < 2147483648 := by
  have h0 := hb 0
  have h1 := hb 1
  have h2 := hb 2
  have h3 := hb 3
  refine ⟨rfl, ?_, ?_, ?_, ?_⟩
  · show 0 * 256 + b 0 < 128; omega
  · show (0 * 256 + b 0) * 256 + b 1 < 32768; omega
  · show ((0 * 256 + b 0) * 256 + b 1) * 256 + b 2 < 8388608; omega
  · show (((0 * 256 + b 0) * 256 + b 1) * 256 + b 2) * 256 + b 3 < 2147483648; omega
theorem wv_cb {b : Nat → Nat} (hb : ∀ i, b i < 128) {j : Nat} (hj : j < 4) : cb ((wv b 4 : Nat) : Int) j = (b j : Int) := by
  have e : wv b 4 = ((b 0 * 256 + b 1) * 256 + b 2) * 256 + b 3 := by
    show (((0 * 256 + b 0) * 256 + b 1) * 256 + b 2) * 256 + b 3 = _
    rw [Nat.zero_mul, Nat.zero_add]
  obtain ⟨c0, c1, c2, c3⟩ := cb_word (hb 0) (hb 1) (hb 2) (hb 3)
  rw [e]
  rcases (by omega : j = 0 ∨ j = 1 ∨ j = 2 ∨ j = 3) with rfl | rfl | rfl | rfl
  · exact c0
  · exact c1
  · exact c2
  · exact c3
theorem wv_up {b : Nat → Nat} (hb : ∀ i, b i < 128) {m : Nat} (hm : m < 4) : i32 (fun a b => a ||| b) (i32 (fun a b => a <<< (b &&& 31)) ((wv b m : Nat) : Int) 8) ((b m : Nat) : Int) = ((wv b (m + 1) : Nat) : Int) := by
  obtain ⟨h0, h1, h2, h3, -⟩ := wv_bd hb
  have hl : wv b m < 8388608 := by
    rcases (by omega : m = 0 ∨ m = 1 ∨ m = 2 ∨ m = 3) with rfl | rfl | rfl | rfl <;> omega
  have := hb m
  rw [shl8 hl, or8 hl (by omega)]
  rfl
theorem cb_rng {x : Int} {j : Nat} : -128 ≤ cb x j ∧ cb x j ≤ 127 := by
  unfold cb
  generalize i32 (fun a b => a >>> (b &&& 31)) x (24 - 8 * (j : Int)) = y
  rw [Int.bmod_def]
  split <;> omega
theorem apT_at {tp : Nat → Int} {len b : Nat} {x : Int} (hb : b < 4) : apT tp len x (len + b) = cb x b := by
  unfold apT
  rcases (by omega : b = 0 ∨ b = 1 ∨ b = 2 ∨ b = 3) with rfl | rfl | rfl | rfl
  · rw [mUp_ne (by omega), mUp_ne (by omega), mUp_ne (by omega)]
    exact mUp_self _ _ _
  · rw [mUp_ne (by omega), mUp_ne (by omega), mUp_self]
  · rw [mUp_ne (by omega), mUp_self]
  · rw [mUp_self]
theorem apT_ne {tp : Nat → Int} {len i : Nat} {x : Int} (hi : i < len ∨ len + 4 ≤ i) : apT tp len x i = tp i := by
  unfold apT
  rw [mUp_ne (by omega), mUp_ne (by omega), mUp_ne (by omega), mUp_ne (by omega)]
theorem apT_rng {tp : Nat → Int} {len : Nat} {x : Int} (h : ∀ i, -128 ≤ tp i ∧ tp i ≤ 127) (i : Nat) : -128 ≤ apT tp len x i ∧ apT tp len x i ≤ 127 := by
  by_cases hi : i < len ∨ len + 4 ≤ i
  · rw [apT_ne hi]
    exact h i
  · have := apT_at (tp := tp) (len := len) (b := i - len) (x := x) (by omega)
    rw [show len + (i - len) = i by omega] at this
    rw [this]
    exact cb_rng
