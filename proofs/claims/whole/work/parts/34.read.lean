/-! reading -/
theorem shift_loop (i1 : Nat → Int32) (i2 : Nat → Int64) {w : Nat} (hw : w ≤ 63) (h22 : i1 22 = nI w) (x2 : Int32) : ∀ (d i : Nat) (arr : Nat → Nat → Int32), i + d = w → ∃ arr', (∀ k, k ≠ 24 → arr' k = arr k) ∧ (∀ j, arr' 24 j = if i ≤ j ∧ j < w then arr 24 (j + 1) else arr 24 j) ∧ Cm2 (fun Φ => wp_X9_read_65 (d + 1) (i1, i2, arr) x2 (nI i) Φ) x2 (i1, i2, arr') := by
  intro d
  induction d with
  | zero =>
    intro i arr hi
    refine ⟨arr, fun _ _ => rfl, fun j => by rw [if_neg (by omega)], fun Φ hp => ?_⟩
    show wp_X9_read_65 (0 + 1) (i1, i2, arr) x2 (nI i) Φ
    rw [wp_X9_read_65]
    refine ⟨fun _ => hp, fun hc => absurd ?_ hc⟩
    show i1 22 ≤ nI i
    rw [h22]; exact nI_le (by omega) (by omega)
  | succ d ih =>
    intro i arr hi
    obtain ⟨arr', h1, h2, h3⟩ := ih (i + 1) (va_up arr 24 (upd (arr 24) i (arr 24 (i + 1)))) (by omega)
    refine ⟨arr', fun k hk => by rw [h1 k hk, va_up_ne _ _ hk], fun j => ?_, fun Φ hp => ?_⟩
    · rw [h2 j, va_up_self]
      by_cases e : j = i
      · subst e
        rw [if_neg (by omega), if_pos (by omega), pk_us]
      · by_cases e2 : i + 1 ≤ j ∧ j < w
        · rw [if_pos e2, if_pos (by omega), pk_un (by omega)]
        · rw [if_neg e2, if_neg (by omega), pk_un e]
    · show wp_X9_read_65 (d + 1 + 1) (i1, i2, arr) x2 (nI i) Φ
      rw [wp_X9_read_65]
      refine ⟨fun hc => absurd ?_ (nI_ge (a := i) (b := w) (by omega) (by omega)), fun _ => ?_⟩
      · have hc : i1 22 ≤ nI i := hc
        rw [h22] at hc; exact hc
      · rw [nI_1]
        refine ⟨vp_in_nI (by omega) (by omega), vp_in_nI (by omega) (by omega), fun v2 e2 => ?_⟩
        rw [e2, nI_clamp (by omega), nI_clamp (by omega)]
        exact h3 Φ hp
theorem and63 (o : Nat) (h : o < 64) : (nI o + 1) &&& 63 = nI ((o + 1) % 64) := by
  rw [nI_1, pk_andN (n := o + 1) (by omega) (m := 63) 6 rfl]
theorem RTm.ifr {t : Nat → Int32} {u : S_Model} (h : RTm t u) {x : Int32} (hx : lo7 x) : RTm (upd t 3 x) (upd u.1 17 x, u.2.1, u.2.2) := by
  obtain ⟨⟨t0, t1, t2, t3, t4, t5, t6, t7, t8⟩, r0, r1, r2, r3, r4, r5, r6, r7, r8⟩ := h
  exact ⟨⟨t0, t1, t2, rfl, t4, t5, t6, t7, t8⟩, r0, r1, r2, r3, r4, hx, r6, r7, r8⟩
theorem sim_read {g : Nat} {b : S_Board} {u : S_Model} (h : RB g b u) {a : Int32} (ha : wd16 a) : ∃ v b' u', by8 v ∧ Cm2 (wp_X0_read b a) v b' ∧ Cm2 (wp_X9_read u a) v u' ∧ RB g b' u' ∧ SameB u u' := by
  by_cases hd : a < 40960 ∨ 49152 ≤ a
  · obtain ⟨j, hj, ej⟩ := cellI_in h.1.2 ha hd
    have hm := h.2.2.2 j hj
    refine ⟨u.2.2 1 j, b, u, hm.1, fun Φ hp => ?_, fun Φ hp => ?_, h, SameB.rfl' u⟩
    · refine cm_isDev a _ ?_
      rw [show (if a < 40960 then (0 : Int32) else if 49152 ≤ a then 0 else 1) = 0 by split; rfl; split; rfl; exact absurd hd (by grind)]
      refine ⟨fun _ => cm_cellC b a _ ?_, fun e => absurd rfl e⟩
      rw [h.1.1, ej]
      exact cm_byteAt h.2.2.2 hj _ hp
    · unfold wp_X9_read wp_X9_see
      refine cm_cellM u a hd _ ?_
      rw [ej]
      refine ⟨fun e => absurd e (nI_pos (by omega)), fun _ => cm_cellM u a hd _ ?_⟩
      rw [ej]
      refine ⟨vp_in_nI (by omega) (by omega), ?_⟩
      rw [nI_clamp (by omega)]
      refine ⟨fun e => absurd e (by grind), fun _ => ⟨fun e => absurd e (by grind), fun _ => ⟨fun e => absurd e (by grind), fun _ => hp⟩⟩⟩
  · obtain ⟨v, hv, hc, hm⟩ := sim_dev h (a := a) (by grind) (by grind)
    have key : ∀ b' u', Cm1 (wp_X0_afterReading b a) b' → (∀ Φ : Int32 → S_Model → Prop, Φ v u' → ((a = 40964 → wp_X9_read_23 (upd u.1 17 (u.1 17 &&& -65), u.2.1, u.2.2) a v Φ) ∧ (¬ a = 40964 → wp_X9_read_23 u a v Φ))) → RB g b' u' → SameB u u' → ∃ v b' u', by8 v ∧ Cm2 (wp_X0_read b a) v b' ∧ Cm2 (wp_X9_read u a) v u' ∧ RB g b' u' ∧ SameB u u' := by
      intro b' u' k1 k2 k3 k4
      refine ⟨v, b', u', hv, fun Φ hp => ?_, fun Φ hp => hm _ (k2 Φ hp), k3, k4⟩
      refine cm_isDev a _ ?_
      rw [show (if a < 40960 then (0 : Int32) else if 49152 ≤ a then 0 else 1) = 1 by rw [if_neg (by grind), if_neg (by grind)]]
      exact ⟨fun e => absurd e (by decide), fun _ => hc _ (k1 _ hp)⟩
    have hT := h.2.1
    by_cases e1 : a = 40964
    · subst e1
      refine key (b.1, upd b.2.1 3 (u.1 17 &&& -65), b.2.2.1, b.2.2.2) (upd u.1 17 (u.1 17 &&& -65), u.2.1, u.2.2) (fun Φ hp => ?_) (fun Φ hp => ?_) ⟨h.1, RTm.ifr hT (lo7_andl hT.2.2.2.2.2.2.1 _), h.2.2.1, h.2.2.2⟩ (SameB.rfl' _)
      · simp [wp_X0_afterReading, wp_X6_afterReading, hT.1.2.2.2.1]; exact hp
      · simp [wp_X9_read_23, wp_X9_read_40]; exact hp
    · by_cases e2 : a = 40968
      · subst e2
        refine key (b.1, upd b.2.1 3 (u.1 17 &&& -33), b.2.2.1, b.2.2.2) (upd u.1 17 (u.1 17 &&& -33), u.2.1, u.2.2) (fun Φ hp => ?_) (fun Φ hp => ?_) ⟨h.1, RTm.ifr hT (lo7_andl hT.2.2.2.2.2.2.1 _), h.2.2.1, h.2.2.2⟩ (SameB.rfl' _)
        · simp [wp_X0_afterReading, wp_X6_afterReading, hT.1.2.2.2.1]; exact hp
        · simp [wp_X9_read_23, wp_X9_read_40]; exact hp
      · by_cases e3 : a = 40976
        · subst e3
          obtain ⟨hB, -, ⟨⟨p0, p1, p5, p6⟩, ⟨w, o, hw, ew, ho, eo, hq⟩, ht, hs⟩, hM⟩ := h
          obtain ⟨z1, z2⟩ := ni_le0 hw
          by_cases ez : w = 0
          · refine key b u (fun Φ hp => ?_) (fun Φ hp => ?_) ⟨hB, hT, ⟨⟨p0, p1, p5, p6⟩, ⟨w, o, hw, ew, ho, eo, hq⟩, ht, hs⟩, hM⟩ (SameB.rfl' _)
            · simp [wp_X0_afterReading, wp_X4_afterReading, p0, ew, ez, nI_0]; exact hp
            · simp [wp_X9_read_23, wp_X9_read_40, ew, ez, nI_0]; exact hp
          · obtain ⟨arr', h1, h2, h3⟩ := shift_loop (upd u.1 22 (nI (w - 1))) u.2.1 (w := w - 1) (by omega) rfl v (w - 1) 0 u.2.2 (by omega)
            have ew1 : nI w - 1 = nI (w - 1) := by
              obtain ⟨k, rfl⟩ : ∃ k, w = k + 1 := ⟨w - 1, by omega⟩
              exact nI_pred k
            refine key (b.1, b.2.1, (upd (upd b.2.2.1.1 4 (nI ((o + 1) % 64))) 0 (nI (w - 1)), b.2.2.1.2.1, b.2.2.1.2.2), b.2.2.2) (upd u.1 22 (nI (w - 1)), u.2.1, arr') (fun Φ hp => ?_) (fun Φ hp => ?_) ⟨hB, hT, ⟨⟨rfl, p1, p5, p6⟩, ⟨w - 1, (o + 1) % 64, by omega, rfl, by omega, rfl, fun k hk => ?_⟩, ht, fun k hk => ?_⟩, ?_⟩ ⟨⟨rfl, rfl, rfl, rfl, rfl, rfl, rfl, rfl, rfl, rfl, rfl⟩, rfl, h1 2 (by omega), h1 31 (by omega), h1 32 (by omega)⟩
            · simp [wp_X0_afterReading, wp_X4_afterReading, p0, ew, z1, ez, eo, and63 o ho, ew1]; exact hp
            · simp [wp_X9_read_23, wp_X9_read_40, ew, z1, ez]
              exact ⟨_, by rw [ew1]; exact h3 _ hp⟩
            · show by8 (arr' 24 k) ∧ _ = arr' 24 k
              rw [h2 k, if_pos (by omega)]
              have := hq (k + 1) (by omega)
              refine ⟨this.1, ?_⟩
              show b.2.2.1.2.1 (((o + 1) % 64 + k) % 64) = _
              rw [← this.2, show ((o + 1) % 64 + k) % 64 = (o + (k + 1)) % 64 by omega]
            · show _ = arr' 25 k
              rw [h1 25 (by omega)]; exact hs k hk
            · show RMem _ (arr' 1)
              rw [h1 1 (by omega)]; exact hM
        · refine key b u (fun Φ hp => ?_) (fun Φ hp => ?_) h (SameB.rfl' _)
          · unfold wp_X0_afterReading wp_X4_afterReading wp_X6_afterReading
            refine ⟨fun _ => ⟨fun _ => hp, fun _ => ⟨fun e => absurd e (by grind), fun _ => hp⟩⟩, fun _ => ⟨fun e => absurd e (by grind), fun _ => ⟨fun e => absurd e (by grind), fun _ => hp⟩⟩⟩
          · exact ⟨fun e => absurd e e1, fun _ => ⟨fun e => absurd e e2, fun _ => ⟨fun e => absurd e e3, fun _ => hp⟩⟩⟩
