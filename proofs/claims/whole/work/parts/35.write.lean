/-! writing -/
theorem RB.mono {g g' : Nat} {b : S_Board} {u : S_Model} (h : RB g b u) (hg : g ≤ g') : RB g' b u := by
  obtain ⟨hB, hT, ⟨hp, hq, ⟨t, ht, et⟩, hs⟩, hM⟩ := h
  exact ⟨hB, hT, ⟨hp, hq, ⟨t, by omega, et⟩, hs⟩, hM⟩
theorem wd16_mix {x v : Int32} (hv : by8 v) : wd16 ((x &&& 65280) ||| v) := by
  obtain ⟨a, ha, rfl⟩ := i32_nat x
  obtain ⟨c, hc, rfl⟩ := by8_nI hv
  rw [show (65280 : Int32) = nI 65280 from rfl, nI_and, nI_or]
  exact wd16_of (Nat.or_lt_two_pow (n := 16) (Nat.lt_of_le_of_lt Nat.and_le_right (by omega)) (by omega))
theorem wd16_mix2 {x v : Int32} (hv : by8 v) : wd16 ((x &&& 255) ||| (v <<< ((8 : Int32) &&& 31))) := word_or (by8_and x) hv
theorem wd16_mix3 {x v : Int32} (hx : by8 x) (hv : by8 v) : wd16 ((v <<< ((8 : Int32) &&& 31)) ||| x) := by
  rw [i32_or_comm]; exact word_or hx hv
theorem b128 {v : Int32} (hv : by8 v) : v &&& 128 = 0 ↔ v ≤ 127 := by
  obtain ⟨n, hn, rfl⟩ := by8_nI hv
  have : ∀ n : Fin 256, (nI n.val &&& 128 = 0 ↔ nI n.val ≤ 127) := by decide +kernel
  exact this ⟨n, hn⟩
theorem devw (a : Int32) : a < 40960 ∨ a = 40964 ∨ a = 40965 ∨ a = 40966 ∨ a = 40967 ∨ a = 40968 ∨ a = 40969 ∨ a = 40971 ∨ a = 40973 ∨ a = 40974 ∨ a = 40976 ∨ a = 40977 ∨ a = 40978 ∨ a = 40992 ∨ (¬ a < 40960 ∧ a ≠ 40964 ∧ a ≠ 40965 ∧ a ≠ 40966 ∧ a ≠ 40967 ∧ a ≠ 40968 ∧ a ≠ 40969 ∧ a ≠ 40971 ∧ a ≠ 40973 ∧ a ≠ 40974 ∧ a ≠ 40976 ∧ a ≠ 40977 ∧ a ≠ 40978 ∧ a ≠ 40992) := by
  by_cases e1 : a < 40960
  · exact Or.inl e1
  · by_cases e2 : a = 40964
    · exact Or.inr (Or.inl e2)
    · grind
theorem sent_ix {t : Nat} (h : t < 2 ^ 31) : nI t - nI t / 256 * 256 = nI (t % 256) ∧ nI t &&& 255 = nI (t % 256) := ⟨pk_rem (a := t) (d := 256) h (by omega) (by omega), pk_andN (n := t) (by omega) (m := 255) 8 rfl⟩
theorem bank3 (v : Int32) : v &&& 3 = 0 ∨ v &&& 3 = 1 ∨ v &&& 3 = 2 ∨ v &&& 3 = 3 := by
  obtain ⟨j, hj, e⟩ := pk_andE v (m := 3) 2 rfl
  rw [e]
  have : j = 0 ∨ j = 1 ∨ j = 2 ∨ j = 3 := by omega
  rcases this with rfl | rfl | rfl | rfl
  · exact Or.inl rfl
  · exact Or.inr (Or.inl rfl)
  · exact Or.inr (Or.inr (Or.inl rfl))
  · exact Or.inr (Or.inr (Or.inr rfl))
theorem sim_write {g : Nat} (hg : g < 2 ^ 30) {b : S_Board} {u : S_Model} (h : RB g b u) {a v : Int32} (ha : wd16 a) (hv : by8 v) : ∃ b' u', Cm1 (wp_X0_write b a v) b' ∧ Cm1 (wp_X9_write u a v) u' ∧ RB (g + 1) b' u' ∧ SameB u u' := by
  have h' : RB (g + 1) b u := h.mono (by omega)
  obtain ⟨hB, hT, hP, hM⟩ := h'
  obtain ⟨⟨t0, t1, t2, t3, t4, t5, t6, t7, t8⟩, r0, r1, r2, r3, r4, r5, r6, r7, r8⟩ := hT
  have hT : RTm b.2.1 u := ⟨⟨t0, t1, t2, t3, t4, t5, t6, t7, t8⟩, r0, r1, r2, r3, r4, r5, r6, r7, r8⟩
  rcases devw a with hlt | rfl | rfl | rfl | rfl | rfl | rfl | rfl | rfl | rfl | rfl | rfl | rfl | rfl | hn
  · obtain ⟨j, hj, ej⟩ := cellI_in hB.2 ha (Or.inl hlt)
    obtain ⟨w', hw, hr⟩ := cm_store hM hj hv
    refine ⟨(b.1, b.2.1, b.2.2.1, w'), (u.1, u.2.1, va_up u.2.2 1 (upd (u.2.2 1) j v)), fun Φ hp => ?_, fun Φ hp => ?_, ⟨hB, hT, hP, hr⟩, SameB.rfl' _⟩
    · unfold wp_X0_write
      refine ⟨fun e => absurd e (by grind), fun _ => cm_cellC b a _ ?_⟩
      rw [hB.1, ej]
      exact hw _ hp
    · unfold wp_X9_write
      refine ⟨fun e => absurd e (by grind), fun _ => cm_cellM u a (Or.inl hlt) _ ?_⟩
      rw [ej]
      refine ⟨vp_in_nI hj (by omega), ?_⟩
      rw [nI_clamp (by omega)]; exact hp
  · refine ⟨(b.1, upd b.2.1 2 ((u.1 14 &&& 65280) ||| v), b.2.2.1, b.2.2.2), (upd u.1 14 ((u.1 14 &&& 65280) ||| v), u.2.1, u.2.2), fun Φ hp => by simp [wp_X0_write, wp_X6_write, t2]; exact hp, fun Φ hp => by simp [wp_X9_write]; exact hp, ⟨hB, ⟨⟨t0, t1, rfl, t3, t4, t5, t6, t7, t8⟩, r0, r1, wd16_mix hv, r3, r4, r5, r6, r7, r8⟩, hP, hM⟩, SameB.rfl' _⟩
  · refine ⟨(b.1, upd (upd (upd (upd b.2.1 2 ((u.1 14 &&& 255) ||| (v <<< ((8 : Int32) &&& 31)))) 0 ((u.1 14 &&& 255) ||| (v <<< ((8 : Int32) &&& 31)))) 7 1) 3 (u.1 17 &&& -65), b.2.2.1, b.2.2.2), (upd (upd (upd (upd u.1 14 ((u.1 14 &&& 255) ||| (v <<< ((8 : Int32) &&& 31)))) 12 ((u.1 14 &&& 255) ||| (v <<< ((8 : Int32) &&& 31)))) 20 1) 17 (u.1 17 &&& -65), u.2.1, u.2.2), fun Φ hp => by simp [wp_X0_write, wp_X6_write, t2, t3]; exact hp, fun Φ hp => by simp [wp_X9_write]; exact hp, ⟨hB, ⟨⟨rfl, t1, rfl, rfl, t4, t5, t6, rfl, t8⟩, wd16_mix2 hv, r1, wd16_mix2 hv, r3, r4, lo7_andl r5 _, r6, Or.inr rfl, r8⟩, hP, hM⟩, SameB.rfl' _⟩
  · refine ⟨(b.1, upd b.2.1 2 ((u.1 14 &&& 65280) ||| v), b.2.2.1, b.2.2.2), (upd u.1 14 ((u.1 14 &&& 65280) ||| v), u.2.1, u.2.2), fun Φ hp => by simp [wp_X0_write, wp_X6_write, t2]; exact hp, fun Φ hp => by simp [wp_X9_write]; exact hp, ⟨hB, ⟨⟨t0, t1, rfl, t3, t4, t5, t6, t7, t8⟩, r0, r1, wd16_mix hv, r3, r4, r5, r6, r7, r8⟩, hP, hM⟩, SameB.rfl' _⟩
  · refine ⟨(b.1, upd (upd b.2.1 2 ((u.1 14 &&& 255) ||| (v <<< ((8 : Int32) &&& 31)))) 3 (u.1 17 &&& -65), b.2.2.1, b.2.2.2), (upd (upd u.1 14 ((u.1 14 &&& 255) ||| (v <<< ((8 : Int32) &&& 31)))) 17 (u.1 17 &&& -65), u.2.1, u.2.2), fun Φ hp => by simp [wp_X0_write, wp_X6_write, t2, t3]; exact hp, fun Φ hp => by simp [wp_X9_write]; exact hp, ⟨hB, ⟨⟨t0, t1, rfl, rfl, t4, t5, t6, t7, t8⟩, r0, r1, wd16_mix2 hv, r3, r4, lo7_andl r5 _, r6, r7, r8⟩, hP, hM⟩, SameB.rfl' _⟩
  · refine ⟨(b.1, upd b.2.1 5 v, b.2.2.1, b.2.2.2), (upd u.1 15 v, u.2.1, u.2.2), fun Φ hp => by simp [wp_X0_write, wp_X6_write]; exact hp, fun Φ hp => by simp [wp_X9_write]; exact hp, ⟨hB, ⟨⟨t0, t1, t2, t3, t4, rfl, t6, t7, t8⟩, r0, r1, r2, hv, r4, r5, r6, r7, r8⟩, hP, hM⟩, SameB.rfl' _⟩
  · refine ⟨(b.1, upd (upd (upd b.2.1 1 ((v <<< ((8 : Int32) &&& 31)) ||| u.1 15)) 8 1) 3 (u.1 17 &&& -33), b.2.2.1, b.2.2.2), (upd (upd (upd u.1 13 ((v <<< ((8 : Int32) &&& 31)) ||| u.1 15)) 21 1) 17 (u.1 17 &&& -33), u.2.1, u.2.2), fun Φ hp => by simp [wp_X0_write, wp_X6_write, t5, t3]; exact hp, fun Φ hp => by simp [wp_X9_write]; exact hp, ⟨hB, ⟨⟨t0, rfl, t2, rfl, t4, t5, t6, t7, rfl⟩, r0, wd16_mix3 r3 hv, r2, r3, r4, lo7_andl r5 _, r6, r7, Or.inr rfl⟩, hP, hM⟩, SameB.rfl' _⟩
  · refine ⟨(b.1, upd b.2.1 6 v, b.2.2.1, b.2.2.2), (upd u.1 16 v, u.2.1, u.2.2), fun Φ hp => by simp [wp_X0_write, wp_X6_write]; exact hp, fun Φ hp => by simp [wp_X9_write]; exact hp, ⟨hB, ⟨⟨t0, t1, t2, t3, t4, t5, rfl, t7, t8⟩, r0, r1, r2, r3, hv, r5, r6, r7, r8⟩, hP, hM⟩, SameB.rfl' _⟩
  · refine ⟨(b.1, upd b.2.1 3 (u.1 17 &&& ~~~v), b.2.2.1, b.2.2.2), (upd u.1 17 (u.1 17 &&& ~~~v), u.2.1, u.2.2), fun Φ hp => by simp [wp_X0_write, wp_X6_write, t3]; exact hp, fun Φ hp => by simp [wp_X9_write]; exact hp, ⟨hB, ⟨⟨t0, t1, t2, rfl, t4, t5, t6, t7, t8⟩, r0, r1, r2, r3, r4, lo7_andl r5 _, r6, r7, r8⟩, hP, hM⟩, SameB.rfl' _⟩
  · by_cases e : v ≤ 127
    · have e2 := (b128 hv).mpr e
      refine ⟨(b.1, upd b.2.1 4 (u.1 18 &&& ~~~v), b.2.2.1, b.2.2.2), (upd u.1 18 (u.1 18 &&& ~~~v), u.2.1, u.2.2), fun Φ hp => by simp [wp_X0_write, wp_X6_write, t4, e2]; exact hp, fun Φ hp => by unfold wp_X9_write; simp only [e]; simp; exact hp, ⟨hB, ⟨⟨t0, t1, t2, t3, rfl, t5, t6, t7, t8⟩, r0, r1, r2, r3, r4, r5, by8_andl r6 _, r7, r8⟩, hP, hM⟩, SameB.rfl' _⟩
    · have e2 : ¬ v &&& 128 = 0 := fun q => e ((b128 hv).mp q)
      refine ⟨(b.1, upd b.2.1 4 (u.1 18 ||| (v &&& 127)), b.2.2.1, b.2.2.2), (upd u.1 18 (u.1 18 ||| (v &&& 127)), u.2.1, u.2.2), fun Φ hp => by simp [wp_X0_write, wp_X6_write, t4, e2]; exact hp, fun Φ hp => by unfold wp_X9_write; simp only [e]; simp; exact hp, ⟨hB, ⟨⟨t0, t1, t2, t3, rfl, t5, t6, t7, t8⟩, r0, r1, r2, r3, r4, r5, by8_or r6 (by8_andl hv _), r7, r8⟩, hP, hM⟩, SameB.rfl' _⟩
  · obtain ⟨⟨p0, p1, p5, p6⟩, hq, -, hs⟩ := hP
    obtain ⟨t, ht, et⟩ := h.2.2.1.2.2.1
    obtain ⟨x1, x2⟩ := sent_ix (t := t) (by omega)
    refine ⟨(b.1, b.2.1, (upd b.2.2.1.1 1 (nI (t + 1)), b.2.2.1.2.1, upd b.2.2.1.2.2 (t % 256) v), b.2.2.2), (upd u.1 23 (nI (t + 1)), u.2.1, va_up u.2.2 25 (upd (u.2.2 25) (t % 256) v)), fun Φ hp => ?_, fun Φ hp => ?_, ⟨hB, hT, ⟨⟨p0, rfl, p5, p6⟩, hq, ⟨t + 1, by omega, rfl⟩, fun k hk => ?_⟩, hM⟩, SameB.rfl' _⟩
    · simp [wp_X0_write, wp_X4_write, p1, et, x2, nI_1]
      refine ⟨vp_in_nI (by omega) (by omega), ?_⟩
      rw [nI_clamp (by omega)]; exact hp
    · simp [wp_X9_write, et, x1, nI_1]
      refine ⟨vp_in_nI (by omega) (by omega), ?_⟩
      rw [nI_clamp (by omega)]; exact hp
    · show upd b.2.2.1.2.2 (t % 256) v k = upd (u.2.2 25) (t % 256) v k
      by_cases e : k = t % 256
      · rw [e, pk_us, pk_us]
      · rw [pk_un e, pk_un e]; exact hs k hk
  · obtain ⟨⟨p0, p1, p5, p6⟩, hq, ht, hs⟩ := hP
    exact ⟨(b.1, b.2.1, (upd b.2.2.1.1 5 0, b.2.2.1.2.1, b.2.2.1.2.2), b.2.2.2), (upd u.1 19 0, u.2.1, u.2.2), fun Φ hp => by simp [wp_X0_write, wp_X4_write]; exact hp, fun Φ hp => by simp [wp_X9_write]; exact hp, ⟨hB, hT, ⟨⟨p0, p1, rfl, by8_of (n := 0) (by omega)⟩, hq, ht, hs⟩, hM⟩, SameB.rfl' _⟩
  · obtain ⟨⟨p0, p1, p5, p6⟩, hq, ht, hs⟩ := hP
    exact ⟨(b.1, b.2.1, (upd b.2.2.1.1 5 v, b.2.2.1.2.1, b.2.2.1.2.2), b.2.2.2), (upd u.1 19 v, u.2.1, u.2.2), fun Φ hp => by simp [wp_X0_write, wp_X4_write]; exact hp, fun Φ hp => by simp [wp_X9_write]; exact hp, ⟨hB, hT, ⟨⟨p0, p1, rfl, hv⟩, hq, ht, hs⟩, hM⟩, SameB.rfl' _⟩
  · exact ⟨(upd b.1 2 (v &&& 3), b.2.1, b.2.2.1, b.2.2.2), (upd u.1 5 (v &&& 3), u.2.1, u.2.2), fun Φ hp => by simp [wp_X0_write]; exact hp, fun Φ hp => by simp [wp_X9_write]; exact hp, ⟨⟨rfl, bank3 v⟩, hT, hP, hM⟩, SameB.rfl' _⟩
  · obtain ⟨n0, n1, n2, n3, n4, n5, n6, n7, n8, n9, n10, n11, n12, n13⟩ := hn
    refine ⟨b, u, fun Φ hp => ?_, fun Φ hp => ?_, ⟨hB, hT, hP, hM⟩, SameB.rfl' _⟩
    · unfold wp_X0_write wp_X6_write
      refine ⟨fun _ => ⟨fun _ => ⟨fun _ => ⟨fun e => absurd e n13, fun _ => hp⟩, fun e => absurd e (by grind)⟩, fun _ => ⟨fun e => absurd e (by grind), fun e => absurd e (by grind), fun e => absurd e (by grind), fun e => absurd e (by grind), fun e => absurd e (by grind), fun e => absurd e (by grind), fun e => absurd e (by grind), fun e => absurd e (by grind), fun e => absurd e (by grind), fun _ => hp⟩⟩, fun e => absurd e (by grind)⟩
    · unfold wp_X9_write
      refine ⟨fun _ => ⟨fun e => absurd e (by grind), fun e => absurd e (by grind), fun e => absurd e (by grind), fun e => absurd e (by grind), fun e => absurd e (by grind), fun e => absurd e (by grind), fun e => absurd e (by grind), fun e => absurd e (by grind), fun e => absurd e (by grind), fun e => absurd e (by grind), fun e => absurd e (by grind), fun e => absurd e (by grind), fun e => absurd e (by grind), fun _ => hp⟩, fun e => absurd e (by grind)⟩
