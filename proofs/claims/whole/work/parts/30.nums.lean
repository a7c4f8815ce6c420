/-! numbers: bytes and words -/
def by8 (x : Int32) : Prop := 0 ≤ x ∧ x ≤ 255
def wd16 (x : Int32) : Prop := 0 ≤ x ∧ x ≤ 65535
def bl1 (x : Int32) : Prop := x = 0 ∨ x = 1
theorem by8_nI {x : Int32} (h : by8 x) : ∃ n : Nat, n < 256 ∧ x = nI n := by
  obtain ⟨j, hj, e⟩ := nI_of2 (x := x) (M := 255) (n := 255) rfl (by have := h.1; grind) h.2
  exact ⟨j, by omega, e⟩
theorem wd16_nI {x : Int32} (h : wd16 x) : ∃ n : Nat, n < 65536 ∧ x = nI n := by
  obtain ⟨j, hj, e⟩ := nI_of2 (x := x) (M := 65535) (n := 65535) rfl (by have := h.1; grind) h.2
  exact ⟨j, by omega, e⟩
theorem by8_of {n : Nat} (h : n < 256) : by8 (nI n) := ⟨nI_pos' (by omega), nI_le (a := n) (b := 255) (by omega) (by omega)⟩
theorem wd16_of {n : Nat} (h : n < 65536) : wd16 (nI n) := ⟨nI_pos' (by omega), nI_le (a := n) (b := 65535) (by omega) (by omega)⟩
theorem by8.wd {x : Int32} (h : by8 x) : wd16 x := ⟨h.1, by have := h.2; grind⟩
theorem by8_and (x : Int32) : by8 (x &&& 255) := by
  obtain ⟨j, hj, e⟩ := pk_andE x (m := 255) 8 rfl
  rw [e]; exact by8_of hj
theorem wd16_and (x : Int32) : wd16 (x &&& 65535) := by
  obtain ⟨j, hj, e⟩ := pk_andE x (m := 65535) 16 rfl
  rw [e]; exact wd16_of hj
theorem by8.and {x : Int32} (h : by8 x) : x &&& 255 = x := by
  obtain ⟨n, hn, rfl⟩ := by8_nI h
  rw [pk_andN (by omega) (m := 255) 8 rfl, Nat.mod_eq_of_lt hn]
theorem wd16.and {x : Int32} (h : wd16 x) : x &&& 65535 = x := by
  obtain ⟨n, hn, rfl⟩ := wd16_nI h
  rw [pk_andN (by omega) (m := 65535) 16 rfl, Nat.mod_eq_of_lt hn]
theorem nI_or (a b : Nat) : nI a ||| nI b = nI (a ||| b) := by
  apply Int32.toBitVec_inj.mp
  show BitVec.ofNat 32 a ||| BitVec.ofNat 32 b = BitVec.ofNat 32 (a ||| b)
  apply BitVec.eq_of_getLsbD_eq
  intro i hi
  simp [BitVec.getLsbD_ofNat, hi]
theorem word_or {lo hi : Int32} (hl : by8 lo) (hh : by8 hi) : wd16 (lo ||| (hi <<< ((8 : Int32) &&& 31))) := by
  obtain ⟨a, ha, rfl⟩ := by8_nI hl
  obtain ⟨b, hb, rfl⟩ := by8_nI hh
  rw [pk_shlN ((8 : Int32) &&& 31) 8 rfl (by omega), nI_or]
  refine wd16_of (Nat.or_lt_two_pow (n := 16) (by omega) (by omega))
theorem wd16_hi {x : Int32} (h : wd16 x) : by8 (x >>> ((8 : Int32) &&& 31)) := by
  obtain ⟨a, ha, rfl⟩ := wd16_nI h
  rw [pk_shrN (by omega) ((8 : Int32) &&& 31) 8 rfl]
  exact by8_of (by omega)
theorem i32_and_or (a b c : Int32) : (a ||| b) &&& c = (a &&& c) ||| (b &&& c) := by
  apply Int32.toBitVec_inj.mp
  show (a.toBitVec ||| b.toBitVec) &&& c.toBitVec = (a.toBitVec &&& c.toBitVec) ||| (b.toBitVec &&& c.toBitVec)
  apply BitVec.eq_of_getLsbD_eq
  intro i hi
  simp [Bool.and_or_distrib_right]
theorem i32_or_comm (a b : Int32) : a ||| b = b ||| a := by
  apply Int32.toBitVec_inj.mp
  show a.toBitVec ||| b.toBitVec = b.toBitVec ||| a.toBitVec
  exact BitVec.or_comm _ _
theorem i32_or_assoc (a b c : Int32) : (a ||| b) ||| c = a ||| (b ||| c) := by
  apply Int32.toBitVec_inj.mp
  show (a.toBitVec ||| b.toBitVec) ||| c.toBitVec = a.toBitVec ||| (b.toBitVec ||| c.toBitVec)
  exact BitVec.or_assoc _ _ _
theorem by8_or {x y : Int32} (hx : by8 x) (hy : by8 y) : by8 (x ||| y) := by
  obtain ⟨a, ha, rfl⟩ := by8_nI hx
  obtain ⟨b, hb, rfl⟩ := by8_nI hy
  rw [nI_or]
  exact by8_of (Nat.or_lt_two_pow (n := 8) ha hb)
theorem i32_nat (y : Int32) : ∃ n : Nat, n < 2 ^ 32 ∧ y = nI n := ⟨y.toBitVec.toNat, y.toBitVec.isLt, Int32.toBitVec_inj.mp (by show y.toBitVec = BitVec.ofNat 32 y.toBitVec.toNat; simp)⟩
theorem nI_and (a b : Nat) : nI a &&& nI b = nI (a &&& b) := by
  apply Int32.toBitVec_inj.mp
  show BitVec.ofNat 32 a &&& BitVec.ofNat 32 b = BitVec.ofNat 32 (a &&& b)
  apply BitVec.eq_of_getLsbD_eq
  intro i hi
  simp [BitVec.getLsbD_ofNat, hi]
theorem by8_andl {x : Int32} (hx : by8 x) (y : Int32) : by8 (x &&& y) := by
  obtain ⟨a, ha, rfl⟩ := by8_nI hx
  obtain ⟨b, hb, rfl⟩ := i32_nat y
  rw [nI_and]
  exact by8_of (Nat.lt_of_le_of_lt Nat.and_le_left ha)
