/-! eight bytes to a long -/
def byteOf (x : Int64) (i : Nat) : Int32 := (x.toUInt64 >>> (((8 : Int32) * nI i).toInt64.toUInt64 &&& Int64.toUInt64 63)).toInt64.toInt32 &&& 255
def putOf (x : Int64) (i : Nat) (v : Int32) : Int64 := (x &&& (((255 : Int64) <<< (((8 : Int32) * nI i).toInt64 &&& 63)) ^^^ (-1))) ||| (v.toInt64 <<< (((8 : Int32) * nI i).toInt64 &&& 63))
theorem byteOf_bv (x : Int64) : ∀ i, i < 8 → (byteOf x i).toBitVec = ((x.toBitVec >>> (8 * i)).signExtend 32) &&& 255#32 := by
  intro i hi
  have : i = 0 ∨ i = 1 ∨ i = 2 ∨ i = 3 ∨ i = 4 ∨ i = 5 ∨ i = 6 ∨ i = 7 := by omega
  rcases this with rfl | rfl | rfl | rfl | rfl | rfl | rfl | rfl <;> rfl
theorem putOf_bv (x : Int64) (v : Int32) : ∀ i, i < 8 → (putOf x i v).toBitVec = (x.toBitVec &&& ((255#64 <<< (8 * i)) ^^^ BitVec.allOnes 64)) ||| ((v.toBitVec.signExtend 64) <<< (8 * i)) := by
  intro i hi
  have : i = 0 ∨ i = 1 ∨ i = 2 ∨ i = 3 ∨ i = 4 ∨ i = 5 ∨ i = 6 ∨ i = 7 := by omega
  rcases this with rfl | rfl | rfl | rfl | rfl | rfl | rfl | rfl <;> rfl
theorem b255 (t : Nat) : (255#32).getLsbD t = decide (t < 8) := by
  by_cases h : t < 32
  · have : ∀ t : Fin 32, (255#32).getLsbD t.val = decide (t.val < 8) := by decide
    exact this ⟨t, h⟩
  · rw [BitVec.getLsbD_of_ge _ _ (by omega)]
    simp; omega
theorem b255_64 (t : Nat) : (255#64).getLsbD t = decide (t < 8) := by
  by_cases h : t < 64
  · have : ∀ t : Fin 64, (255#64).getLsbD t.val = decide (t.val < 8) := by decide
    exact this ⟨t, h⟩
  · rw [BitVec.getLsbD_of_ge _ _ (by omega)]
    simp; omega
theorem byte_put (x : Int64) {v : Int32} (hv : by8 v) {i : Nat} (hi : i < 8) : byteOf (putOf x i v) i = v := by
  apply Int32.toBitVec_inj.mp
  rw [byteOf_bv _ i hi, putOf_bv _ _ i hi]
  have hv2 : v.toBitVec = v.toBitVec &&& 255#32 := by
    have := congrArg Int32.toBitVec hv.and
    exact this.symm
  apply BitVec.eq_of_getLsbD_eq
  intro t ht
  rw [hv2]
  simp only [BitVec.getLsbD_and, b255, BitVec.getLsbD_setWidth, BitVec.getLsbD_ushiftRight, BitVec.getLsbD_or, BitVec.getLsbD_xor, BitVec.getLsbD_shiftLeft, b255_64, BitVec.getLsbD_signExtend, BitVec.getLsbD_allOnes]
  by_cases h8 : t < 8
  · simp [h8, show 8 * i + t < 64 by omega, show ¬ (8 * i + t < 8 * i) by omega, ht, show t < 64 by omega]
  · simp [h8]
theorem byte_put_ne (x : Int64) (v : Int32) (hv : by8 v) {i j : Nat} (hi : i < 8) (hj : j < 8) (h : j ≠ i) : byteOf (putOf x i v) j = byteOf x j := by
  apply Int32.toBitVec_inj.mp
  rw [byteOf_bv _ j hj, byteOf_bv _ j hj, putOf_bv _ _ i hi]
  have hv2 : v.toBitVec = v.toBitVec &&& 255#32 := by
    have := congrArg Int32.toBitVec hv.and
    exact this.symm
  apply BitVec.eq_of_getLsbD_eq
  intro t ht
  rw [hv2]
  simp only [BitVec.getLsbD_and, b255, BitVec.getLsbD_setWidth, BitVec.getLsbD_ushiftRight, BitVec.getLsbD_or, BitVec.getLsbD_xor, BitVec.getLsbD_shiftLeft, b255_64, BitVec.getLsbD_signExtend, BitVec.getLsbD_allOnes]
  by_cases h8 : t < 8
  · by_cases hlt : j < i
    · simp [h8, show 8 * j + t < 64 by omega, show (8 * j + t < 8 * i) by omega, ht, show t < 64 by omega]
    · have e1 : ¬ (8 * j + t - 8 * i < 8) := by omega
      simp [h8, show 8 * j + t < 64 by omega, show ¬ (8 * j + t < 8 * i) by omega, ht, e1, show t < 64 by omega]
      intro _ _ _ h9
      exact absurd h9 (by decide)
  · simp [h8]
