/-! what is seen at an address -/
theorem devs (a : Int32) (h1 : ¬ a < 40960) (h2 : ¬ 49152 ≤ a) : a = 40964 ∨ a = 40965 ∨ a = 40966 ∨ a = 40967 ∨ a = 40968 ∨ a = 40969 ∨ a = 40971 ∨ a = 40973 ∨ a = 40974 ∨ a = 40976 ∨ a = 40977 ∨ a = 40978 ∨ a = 40992 ∨ (a ≠ 40964 ∧ a ≠ 40965 ∧ a ≠ 40966 ∧ a ≠ 40967 ∧ a ≠ 40968 ∧ a ≠ 40969 ∧ a ≠ 40971 ∧ a ≠ 40973 ∧ a ≠ 40974 ∧ a ≠ 40976 ∧ a ≠ 40977 ∧ a ≠ 40978 ∧ a ≠ 40992) := by
  by_cases e1 : a = 40964
  · exact Or.inl e1
  · grind
theorem cm_isDev (a : Int32) : Cm1 (wp_X0_isDevice a) (if a < 40960 then 0 else if 49152 ≤ a then 0 else 1) := by
  intro Φ hp
  unfold wp_X0_isDevice
  refine ⟨fun h => ?_, fun h => ⟨fun h2 => ?_, fun h2 => ?_⟩⟩
  · rwa [if_pos h] at hp
  · rwa [if_neg h, if_pos h2] at hp
  · rwa [if_neg h, if_neg h2] at hp
theorem ni_le0 {w : Nat} (hw : w ≤ 64) : (nI w ≤ 0 ↔ w = 0) ∧ (nI w = 0 ↔ w = 0) := by
  constructor
  · rw [show (0 : Int32) = nI 0 from rfl, nI_leI (by omega) (by omega)]; omega
  · rw [show (0 : Int32) = nI 0 from rfl, nI_eq (by omega) (by omega)]
/-- the devices, looked at -/
theorem sim_dev {g : Nat} {b : S_Board} {u : S_Model} (h : RB g b u) {a : Int32} (h1 : ¬ a < 40960) (h2 : ¬ 49152 ≤ a) : ∃ v, by8 v ∧ Cm1 (wp_X0_peekDevice b a) v ∧ Cm1 (wp_X9_see u a) v := by
  obtain ⟨⟨hb, hb2⟩, ⟨⟨t0, t1, t2, t3, t4, t5, t6, t7, t8⟩, r0, r1, r2, r3, r4, r5, r6, r7, r8⟩, ⟨⟨p0, p1, p5, p6⟩, ⟨w, o, hw, ew, ho, eo, hq⟩, -, -⟩, -⟩ := h
  obtain ⟨z1, z2⟩ := ni_le0 hw
  rcases devs a h1 h2 with rfl | rfl | rfl | rfl | rfl | rfl | rfl | rfl | rfl | rfl | rfl | rfl | rfl | hn
  · exact ⟨u.1 12 &&& 255, by8_and _, fun Φ hp => by simp [wp_X0_peekDevice, wp_X6_peek, t0]; exact hp, fun Φ hp => cm_cellN u _ h1 h2 _ (by simp; exact hp)⟩
  · exact ⟨u.1 12 >>> ((8 : Int32) &&& 31), wd16_hi r0, fun Φ hp => by simp [wp_X0_peekDevice, wp_X6_peek, t0]; exact hp, fun Φ hp => cm_cellN u _ h1 h2 _ (by simp; exact hp)⟩
  · exact ⟨u.1 14 &&& 255, by8_and _, fun Φ hp => by simp [wp_X0_peekDevice, wp_X6_peek, t2]; exact hp, fun Φ hp => cm_cellN u _ h1 h2 _ (by simp; exact hp)⟩
  · exact ⟨u.1 14 >>> ((8 : Int32) &&& 31), wd16_hi r2, fun Φ hp => by simp [wp_X0_peekDevice, wp_X6_peek, t2]; exact hp, fun Φ hp => cm_cellN u _ h1 h2 _ (by simp; exact hp)⟩
  · exact ⟨u.1 13 &&& 255, by8_and _, fun Φ hp => by simp [wp_X0_peekDevice, wp_X6_peek, t1]; exact hp, fun Φ hp => cm_cellN u _ h1 h2 _ (by simp; exact hp)⟩
  · exact ⟨u.1 13 >>> ((8 : Int32) &&& 31), wd16_hi r1, fun Φ hp => by simp [wp_X0_peekDevice, wp_X6_peek, t1]; exact hp, fun Φ hp => cm_cellN u _ h1 h2 _ (by simp; exact hp)⟩
  · exact ⟨u.1 16, r4, fun Φ hp => by simp [wp_X0_peekDevice, wp_X6_peek, t6]; exact hp, fun Φ hp => cm_cellN u _ h1 h2 _ (by simp; exact hp)⟩
  · by_cases e : u.1 17 &&& u.1 18 = 0
    · exact ⟨u.1 17, r5.1, fun Φ hp => by simp [wp_X0_peekDevice, wp_X6_peek, t3, t4, e]; exact hp, fun Φ hp => cm_cellN u _ h1 h2 _ (by simp [wp_X9_flags, e]; exact hp)⟩
    · exact ⟨u.1 17 ||| 128, by8_or r5.1 (by8_of (n := 128) (by omega)), fun Φ hp => by simp [wp_X0_peekDevice, wp_X6_peek, t3, t4, e]; exact hp, fun Φ hp => cm_cellN u _ h1 h2 _ (by simp [wp_X9_flags, e]; exact hp)⟩
  · exact ⟨u.1 18 ||| 128, by8_or r6 (by8_of (n := 128) (by omega)), fun Φ hp => by simp [wp_X0_peekDevice, wp_X6_peek, t4]; exact hp, fun Φ hp => cm_cellN u _ h1 h2 _ (by simp; exact hp)⟩
  · by_cases e : w = 0
    · exact ⟨0, by8_of (n := 0) (by omega), fun Φ hp => by simp [wp_X0_peekDevice, wp_X4_peek, p0, ew, z1, e, nI_0]; exact hp, fun Φ hp => cm_cellN u _ h1 h2 _ (by simp [ew, z1, e, nI_0]; exact hp)⟩
    · have q0 := hq 0 (by omega)
      rw [Nat.add_zero, Nat.mod_eq_of_lt ho] at q0
      refine ⟨u.2.2 24 0, q0.1, fun Φ hp => ?_, fun Φ hp => cm_cellN u _ h1 h2 _ ?_⟩
      · simp [wp_X0_peekDevice, wp_X4_peek, p0, ew, z1, e, eo]
        exact ⟨vp_in_nI ho (by omega), by rw [nI_clamp (by omega), q0.2]; exact hp⟩
      · simp [ew, z1, e]
        exact ⟨vp_in_nI (n := 0) (by omega) (by omega), hp⟩
  · by_cases e : w = 0
    · exact ⟨16, by8_of (n := 16) (by omega), fun Φ hp => by simp [wp_X0_peekDevice, wp_X4_peek, p0, ew, z2, e, nI_0]; exact hp, fun Φ hp => cm_cellN u _ h1 h2 _ (by simp [wp_X9_see_255, wp_X9_asks, ew, z1, e, nI_0]; exact hp)⟩
    · by_cases e2 : u.1 19 &&& 3 = 1
      · exact ⟨152, by8_of (n := 152) (by omega), fun Φ hp => by simp [wp_X0_peekDevice, wp_X4_peek, p0, p5, ew, z2, e, e2]; exact hp, fun Φ hp => cm_cellN u _ h1 h2 _ (by simp [wp_X9_see_255, wp_X9_asks, ew, z1, e, e2]; exact hp)⟩
      · exact ⟨24, by8_of (n := 24) (by omega), fun Φ hp => by simp [wp_X0_peekDevice, wp_X4_peek, p0, p5, ew, z2, e, e2]; exact hp, fun Φ hp => cm_cellN u _ h1 h2 _ (by simp [wp_X9_see_255, wp_X9_asks, ew, z1, e, e2]; exact hp)⟩
  · exact ⟨u.1 19, p6, fun Φ hp => by simp [wp_X0_peekDevice, wp_X4_peek, p5]; exact hp, fun Φ hp => cm_cellN u _ h1 h2 _ (by simp; exact hp)⟩
  · exact ⟨u.1 5, by rcases hb2 with e | e | e | e <;> rw [e] <;> exact by8_of (n := _) (by decide), fun Φ hp => by simp [wp_X0_peekDevice, hb]; exact hp, fun Φ hp => cm_cellN u _ h1 h2 _ (by simp; exact hp)⟩
  · refine ⟨0, by8_of (n := 0) (by omega), fun Φ hp => ?_, fun Φ hp => cm_cellN u _ h1 h2 _ ?_⟩
    · obtain ⟨n1, n2, n3, n4, n5, n6, n7, n8, n9, n10, n11, n12, n13⟩ := hn
      unfold wp_X0_peekDevice wp_X6_peek
      refine ⟨fun h3 => ⟨fun h4 => ⟨fun e => absurd e n13, fun _ => hp⟩, fun h4 => ?_⟩, fun h3 => ⟨fun e => absurd e (by grind), fun e => absurd e (by grind), fun e => absurd e (by grind), fun e => absurd e (by grind), fun e => absurd e (by grind), fun e => absurd e (by grind), fun e => absurd e (by grind), fun e => absurd e (by grind), fun e => absurd e (by grind), fun _ => hp⟩⟩
      exact absurd h4 (by grind)
    · obtain ⟨n1, n2, n3, n4, n5, n6, n7, n8, n9, n10, n11, n12, n13⟩ := hn
      refine ⟨fun _ => ⟨fun e => absurd e (by grind), fun e => absurd e (by grind), fun e => absurd e (by grind), fun e => absurd e (by grind), fun e => absurd e (by grind), fun e => absurd e (by grind), fun e => absurd e (by grind), fun e => absurd e (by grind), fun e => absurd e (by grind), fun e => absurd e (by grind), fun e => absurd e (by grind), fun e => absurd e (by grind), fun e => absurd e (by grind), fun _ => hp⟩, fun e => absurd e (by decide)⟩
/-- looking and seeing -/
theorem sim_look {g : Nat} {b : S_Board} {u : S_Model} (h : RB g b u) {a : Int32} (ha : wd16 a) : ∃ v, by8 v ∧ Cm1 (wp_X0_peek b a) v ∧ Cm1 (wp_X9_see u a) v := by
  by_cases hd : a < 40960 ∨ 49152 ≤ a
  · obtain ⟨j, hj, ej⟩ := cellI_in h.1.2 ha hd
    have hm := h.2.2.2 j hj
    refine ⟨u.2.2 1 j, hm.1, fun Φ hp => ?_, fun Φ hp => ?_⟩
    · refine cm_isDev a _ ?_
      rw [show (if a < 40960 then (0 : Int32) else if 49152 ≤ a then 0 else 1) = 0 by split; rfl; split; rfl; exact absurd hd (by grind)]
      refine ⟨fun _ => cm_cellC b a _ ?_, fun e => absurd rfl e⟩
      rw [h.1.1, ej]
      exact cm_byteAt h.2.2.2 hj _ hp
    · refine cm_cellM u a hd _ ?_
      rw [ej]
      refine ⟨fun e => absurd e (nI_pos (by omega)), fun _ => cm_cellM u a hd _ ?_⟩
      rw [ej]
      exact ⟨vp_in_nI (by omega) (by omega), by rw [nI_clamp (by omega)]; exact hp⟩
  · obtain ⟨v, hv, hc, hm⟩ := sim_dev h (a := a) (by grind) (by grind)
    refine ⟨v, hv, fun Φ hp => ?_, hm⟩
    refine cm_isDev a _ ?_
    rw [show (if a < 40960 then (0 : Int32) else if 49152 ≤ a then 0 else 1) = 1 by rw [if_neg (by grind), if_neg (by grind)]]
    exact ⟨fun e => absurd e (by decide), fun _ => hc _ hp⟩
