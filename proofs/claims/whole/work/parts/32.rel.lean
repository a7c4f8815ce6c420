/-! what it means that a predicate transformer comes to a value -/
def Cm1 {α : Type} (P : (α → Prop) → Prop) (x : α) : Prop := ∀ Φ : α → Prop, Φ x → P Φ
def Cm2 {α β : Type} (P : (α → β → Prop) → Prop) (x : α) (y : β) : Prop := ∀ Φ : α → β → Prop, Φ x y → P Φ
/-! the relation -/
abbrev Kp := Int32 × Int32 × (Nat → Int32)
def KK (K : Kp) (u : S_Model) : Prop := u.1 0 = K.1 ∧ u.1 29 = K.2.1 ∧ u.2.2 31 = K.2.2
def lo7 (x : Int32) : Prop := by8 x ∧ x &&& 128 = 0
theorem lo7_andl {x : Int32} (h : lo7 x) (y : Int32) : lo7 (x &&& y) := ⟨by8_andl h.1 y, by rw [Int32.and_assoc, Int32.and_comm y, ← Int32.and_assoc, h.2]; exact Int32.zero_and⟩
def RMem (w : Nat → Int64) (m : Nat → Int32) : Prop := ∀ j : Nat, j < 81920 → by8 (m j) ∧ byteOf (w (j / 8)) (j % 8) = m j
def RTm (t : Nat → Int32) (u : S_Model) : Prop := (t 0 = u.1 12 ∧ t 1 = u.1 13 ∧ t 2 = u.1 14 ∧ t 3 = u.1 17 ∧ t 4 = u.1 18 ∧ t 5 = u.1 15 ∧ t 6 = u.1 16 ∧ t 7 = u.1 20 ∧ t 8 = u.1 21) ∧ wd16 (u.1 12) ∧ wd16 (u.1 13) ∧ wd16 (u.1 14) ∧ by8 (u.1 15) ∧ by8 (u.1 16) ∧ lo7 (u.1 17) ∧ by8 (u.1 18) ∧ bl1 (u.1 20) ∧ bl1 (u.1 21)
def RPt (g : Nat) (q : S_Port) (u : S_Model) : Prop := (q.1 0 = u.1 22 ∧ q.1 1 = u.1 23 ∧ q.1 5 = u.1 19 ∧ by8 (u.1 19)) ∧ (∃ w o : Nat, w ≤ 64 ∧ u.1 22 = nI w ∧ o < 64 ∧ q.1 4 = nI o ∧ ∀ k, k < w → by8 (u.2.2 24 k) ∧ q.2.1 ((o + k) % 64) = u.2.2 24 k) ∧ (∃ t : Nat, t ≤ g ∧ u.1 23 = nI t) ∧ ∀ k, k < 256 → q.2.2 k = u.2.2 25 k
def RB (g : Nat) (b : S_Board) (u : S_Model) : Prop := (b.1 2 = u.1 5 ∧ (u.1 5 = 0 ∨ u.1 5 = 1 ∨ u.1 5 = 2 ∨ u.1 5 = 3)) ∧ RTm b.2.1 u ∧ RPt g b.2.2.1 u ∧ RMem b.2.2.2 (u.2.2 1)
def RPr (g : Nat) (p : Nat → Int32) (u : S_Model) : Prop := (p 0 = u.2.2 2 0 ∧ p 1 = u.2.2 2 1 ∧ p 2 = u.2.2 2 2 ∧ p 3 = u.2.2 2 3 ∧ p 4 = u.1 3 ||| 48 ∧ p 5 = u.1 4 ∧ p 6 = u.1 6 ∧ p 7 = u.1 7 ∧ p 8 = u.1 8) ∧ (by8 (u.2.2 2 0) ∧ by8 (u.2.2 2 1) ∧ by8 (u.2.2 2 2) ∧ by8 (u.2.2 2 3) ∧ by8 (u.1 3) ∧ wd16 (u.1 4) ∧ bl1 (u.1 6) ∧ bl1 (u.1 7) ∧ bl1 (u.1 8)) ∧ ∃ t : Nat, t ≤ g ∧ p 10 = nI t ∧ u.2.1 28 = lN t
def RTr (K : Kp) (g : Nat) (q : S_Trace) (u : S_Model) : Prop := KK K u ∧ (∃ t : Nat, t ≤ g ∧ q.1 0 = nI t ∧ u.1 30 = nI t ∧ u.2.1 27 = lN t) ∧ ∀ k, k < 32 → q.2 k = u.2.2 32 k
def RR (K : Kp) (g : Nat) (s : S_Proc) (u : S_Model) : Prop := RPr g s.1 u ∧ s.2.1 = u.2.1 26 ∧ RTr K g s.2.2.1 u ∧ RB g s.2.2.2 u
/-- what the board's methods leave alone -/
def SameB (u v : S_Model) : Prop := (v.1 0 = u.1 0 ∧ v.1 3 = u.1 3 ∧ v.1 4 = u.1 4 ∧ v.1 6 = u.1 6 ∧ v.1 7 = u.1 7 ∧ v.1 8 = u.1 8 ∧ v.1 9 = u.1 9 ∧ v.1 10 = u.1 10 ∧ v.1 11 = u.1 11 ∧ v.1 29 = u.1 29 ∧ v.1 30 = u.1 30) ∧ v.2.1 = u.2.1 ∧ v.2.2 2 = u.2.2 2 ∧ v.2.2 31 = u.2.2 31 ∧ v.2.2 32 = u.2.2 32
theorem SameB.rfl' (u : S_Model) : SameB u u := ⟨⟨rfl, rfl, rfl, rfl, rfl, rfl, rfl, rfl, rfl, rfl, rfl⟩, rfl, rfl, rfl, rfl⟩
theorem SameB.trans {u v w : S_Model} (h : SameB u v) (k : SameB v w) : SameB u w := by
  obtain ⟨⟨h1, h2, h3, h4, h5, h6, h7, h8, h9, h10, h11⟩, a, b, c, d⟩ := h
  obtain ⟨⟨k1, k2, k3, k4, k5, k6, k7, k8, k9, k10, k11⟩, a', b', c', d'⟩ := k
  exact ⟨⟨k1.trans h1, k2.trans h2, k3.trans h3, k4.trans h4, k5.trans h5, k6.trans h6, k7.trans h7, k8.trans h8, k9.trans h9, k10.trans h10, k11.trans h11⟩, a'.trans a, b'.trans b, c'.trans c, d'.trans d⟩
theorem RPr.same {g : Nat} {p : Nat → Int32} {u v : S_Model} (h : RPr g p u) (k : SameB u v) : RPr g p v := by
  obtain ⟨⟨k1, k2, k3, k4, k5, k6, k7, k8, k9, k10, k11⟩, a', b', c', d'⟩ := k
  unfold RPr at h ⊢
  rw [b', k2, k3, k4, k5, k6, a']
  exact h
theorem RTr.same {K : Kp} {g : Nat} {q : S_Trace} {u v : S_Model} (h : RTr K g q u) (k : SameB u v) : RTr K g q v := by
  obtain ⟨⟨k1, k2, k3, k4, k5, k6, k7, k8, k9, k10, k11⟩, a', b', c', d'⟩ := k
  unfold RTr KK at h ⊢
  rw [k1, k10, c', k11, a', d']
  exact h
theorem RR.board {K : Kp} {g : Nat} {s : S_Proc} {u v : S_Model} {b : S_Board} (h : RR K g s u) (k : SameB u v) (hb : RB g b v) : RR K g (s.1, s.2.1, s.2.2.1, b) v := ⟨h.1.same k, by show s.2.1 = _; rw [k.2.1]; exact h.2.1, h.2.2.1.same k, hb⟩
/-! memory -/
theorem cm_byteAt {w : Nat → Int64} {m : Nat → Int32} (h : RMem w m) {j : Nat} (hj : j < 81920) : Cm1 (wp_X3_byteAt w (nI j)) (m j) := by
  intro Φ hp
  unfold wp_X3_byteAt
  rw [pk_shrN (n := j) (by omega) ((3 : Int32) &&& 31) 3 rfl, pk_andN (n := j) (by omega) (m := 7) 3 rfl, nI_clamp (by omega)]
  refine ⟨vp_in_nI (by omega) (by omega), fun v1 e1 v2 e2 => ?_⟩
  have := (h j hj).2
  rw [e2, e1]
  show Φ (byteOf (w (j / 8)) (j % 8))
  rw [this]; exact hp
theorem cm_store {w : Nat → Int64} {m : Nat → Int32} (h : RMem w m) {j : Nat} (hj : j < 81920) {v : Int32} (hv : by8 v) : ∃ w', Cm1 (wp_X3_store w (nI j) v) w' ∧ RMem w' (upd m j v) := by
  refine ⟨vp_updL w (j / 8) (putOf (w (j / 8)) (j % 8) v), ?_, ?_⟩
  · intro Φ hp
    unfold wp_X3_store
    rw [pk_shrN (n := j) (by omega) ((3 : Int32) &&& 31) 3 rfl, pk_andN (n := j) (by omega) (m := 7) 3 rfl, nI_clamp (by omega)]
    refine ⟨vp_in_nI (by omega) (by omega), fun v1 e1 v2 e2 v3 e3 => ⟨vp_in_nI (by omega) (by omega), ?_⟩⟩
    rw [e1, e2, e3]
    exact hp
  · intro k hk
    by_cases e : k = j
    · subst e
      refine ⟨by rw [pk_us]; exact hv, ?_⟩
      rw [pk_us, pk_uLs]
      exact byte_put _ hv (by omega)
    · refine ⟨by rw [pk_un e]; exact (h k hk).1, ?_⟩
      rw [pk_un e]
      by_cases e2 : k / 8 = j / 8
      · rw [e2, pk_uLs, byte_put_ne _ _ hv (by omega) (by omega) (by omega), ← e2]
        exact (h k hk).2
      · rw [pk_uLn e2]
        exact (h k hk).2
def cellI (b a : Int32) : Int32 := if a < 32768 then a else if a < 40960 then a + b * 8192 else a - 49152 + 65536
theorem cellI_in {b a : Int32} (hb : b = 0 ∨ b = 1 ∨ b = 2 ∨ b = 3) (ha : wd16 a) (hd : a < 40960 ∨ 49152 ≤ a) : ∃ j : Nat, j < 81920 ∧ cellI b a = nI j := by
  obtain ⟨h1, h2⟩ := ha
  have : 0 ≤ cellI b a ∧ cellI b a ≤ 81919 := by
    unfold cellI
    split
    · grind
    · split
      · rcases hb with rfl | rfl | rfl | rfl <;> grind
      · grind
  obtain ⟨j, hj, e⟩ := nI_of2 (x := cellI b a) (M := 81919) (n := 81919) rfl (by have := this.1; grind) this.2
  exact ⟨j, by omega, e⟩
theorem cm_cellC (b : S_Board) (a : Int32) : Cm1 (wp_X0_cell b a) (cellI (b.1 2) a) := by
  intro Φ hp
  unfold wp_X0_cell
  unfold cellI at hp
  refine ⟨fun h => ⟨fun h2 => ?_, fun h2 => ?_⟩, fun h => ?_⟩
  · rwa [if_neg (by grind), if_neg (by grind)] at hp
  · rwa [if_neg (by grind), if_pos (by grind)] at hp
  · rwa [if_pos (by grind)] at hp
theorem cm_cellM (u : S_Model) (a : Int32) (hd : a < 40960 ∨ 49152 ≤ a) : Cm1 (wp_X9_cell u a) (cellI (u.1 5) a) := by
  intro Φ hp
  unfold wp_X9_cell
  unfold cellI at hp
  refine ⟨fun h => ⟨fun h2 => ⟨fun h3 => ?_, fun h3 => ?_⟩, fun h2 v4 e4 => ?_⟩, fun h => ?_⟩
  · rw [if_neg (by grind), if_neg (by grind)] at hp
    rw [show (65536 : Int32) + a - 49152 = a - 49152 + 65536 by grind]; exact hp
  · exact absurd hd (by grind)
  · rw [if_neg (by grind), if_pos (by grind)] at hp
    rw [e4, show (32768 : Int32) + 8192 * u.1 5 + a - 32768 = a + u.1 5 * 8192 by grind]; exact hp
  · rwa [if_pos (by grind)] at hp
theorem cm_cellN (u : S_Model) (a : Int32) (hd : ¬ a < 40960) (hd2 : ¬ 49152 ≤ a) : Cm1 (wp_X9_cell u a) (-1) := by
  intro Φ hp
  unfold wp_X9_cell
  refine ⟨fun h => ⟨fun h2 => ⟨fun h3 => absurd h3 hd2, fun h3 => hp⟩, fun h2 v4 e4 => absurd h2 (by grind)⟩, fun h => absurd h (by grind)⟩
