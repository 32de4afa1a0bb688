/-! ===== THE REFERENCE'S TAPE ===== -/
/-- the same bytes -/
def Tp (T tp : Nat → Int) (len : Nat) : Prop := ∀ i, i < len → 0 ≤ T i ∧ T i < 256 ∧ (T i < 128 → tp i = T i) ∧ (128 ≤ T i → tp i = T i - 256)
def mb (x s : Int) : Int := i32 (fun a b => a &&& b) (i32 (fun a b => (a.toUInt32 >>> (b.toUInt32 &&& Int32.toUInt32 31)).toInt32) x s) 255
theorem bv_low {v : BitVec 32} {s : Nat} (hs : s = 0 ∨ s = 8 ∨ s = 16 ∨ s = 24) : 0 ≤ ((v >>> s) &&& 255#32).toInt ∧ ((v >>> s) &&& 255#32).toInt < 256 ∧ (((v >>> s) &&& 255#32).toInt < 128 → ((v.sshiftRight s).toInt).bmod 256 = ((v >>> s) &&& 255#32).toInt) ∧ (128 ≤ ((v >>> s) &&& 255#32).toInt → ((v.sshiftRight s).toInt).bmod 256 = ((v >>> s) &&& 255#32).toInt - 256) := by
  have h1 : ((v >>> s) &&& 255#32).toNat = (v.toNat >>> s) % 256 := by
    rw [BitVec.toNat_and, BitVec.toNat_ushiftRight]
    exact Nat.and_two_pow_sub_one_eq_mod _ 8
  have h2 : ((v >>> s) &&& 255#32).toInt = (((v.toNat >>> s) % 256 : Nat) : Int) := by
    rw [BitVec.toInt_eq_toNat_of_lt (by rw [h1]; omega), h1]
  have h3 : (v.sshiftRight s).toInt = v.toInt >>> s := BitVec.toInt_sshiftRight
  have h4 : v.toInt = (v.toNat : Int) ∨ v.toInt = (v.toNat : Int) - 4294967296 := by
    rw [BitVec.toInt_eq_toNat_cond]
    split
    · exact Or.inl rfl
    · exact Or.inr rfl
  have h5 : v.toNat < 4294967296 := v.isLt
  rw [h2, h3, Int.shiftRight_eq_div_pow, Nat.shiftRight_eq_div_pow, Int.bmod_def]
  generalize v.toNat = n at *
  generalize v.toInt = m at *
  rcases hs with rfl | rfl | rfl | rfl <;> rcases h4 with rfl | rfl <;> simp only [Nat.reducePow, Int.reducePow] <;> refine ⟨by omega, by omega, fun _ => ?_, fun _ => ?_⟩ <;> split <;> omega
theorem mb_cb {x s : Int} (hs : s = 0 ∨ s = 8 ∨ s = 16 ∨ s = 24) : 0 ≤ mb x s ∧ mb x s < 256 ∧ (mb x s < 128 → (i32 (fun a b => a >>> (b &&& 31)) x s).bmod 256 = mb x s) ∧ (128 ≤ mb x s → (i32 (fun a b => a >>> (b &&& 31)) x s).bmod 256 = mb x s - 256) := by
  have key : ∀ (k : Nat), (k = 0 ∨ k = 8 ∨ k = 16 ∨ k = 24) → mb x k = (((Int32.ofInt x).toBitVec >>> k) &&& 255#32).toInt ∧ i32 (fun a b => a >>> (b &&& 31)) x k = ((Int32.ofInt x).toBitVec.sshiftRight k).toInt := by
    intro k hk
    generalize hv : Int32.ofInt x = v
    refine ⟨?_, ?_⟩
    · unfold mb i32
      rw [Int32.ofInt_toInt, hv]
      show ((v.toUInt32 >>> ((Int32.ofInt k).toUInt32 &&& Int32.toUInt32 31)).toInt32 &&& Int32.ofInt 255).toBitVec.toInt = _
      congr 1
      rcases hk with rfl | rfl | rfl | rfl <;> rfl
    · unfold i32
      rw [hv]
      show (v >>> (Int32.ofInt k &&& 31)).toBitVec.toInt = _
      congr 1
      rw [Int32.toBitVec_shiftRight]
      rcases hk with rfl | rfl | rfl | rfl <;> rfl
  rcases hs with rfl | rfl | rfl | rfl
  · obtain ⟨k1, k2⟩ := key 0 (by decide)
    have k1 : mb x 0 = _ := k1
    have k2 : i32 (fun a b => a >>> (b &&& 31)) x 0 = _ := k2
    rw [k1, k2]
    exact bv_low (by decide)
  · obtain ⟨k1, k2⟩ := key 8 (by decide)
    have k1 : mb x 8 = _ := k1
    have k2 : i32 (fun a b => a >>> (b &&& 31)) x 8 = _ := k2
    rw [k1, k2]
    exact bv_low (by decide)
  · obtain ⟨k1, k2⟩ := key 16 (by decide)
    have k1 : mb x 16 = _ := k1
    have k2 : i32 (fun a b => a >>> (b &&& 31)) x 16 = _ := k2
    rw [k1, k2]
    exact bv_low (by decide)
  · obtain ⟨k1, k2⟩ := key 24 (by decide)
    have k1 : mb x 24 = _ := k1
    have k2 : i32 (fun a b => a >>> (b &&& 31)) x 24 = _ := k2
    rw [k1, k2]
    exact bv_low (by decide)
