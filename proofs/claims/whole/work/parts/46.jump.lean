theorem cmC_indexed (s : S_Proc) (a k : Int32) : ∃ cr, Cm2 (wp_X5_indexed s a k) ((a + k) &&& 65535) (sP s 14 cr) := by
  by_cases e : ((a + k) &&& 65535) >>> ((8 : Int32) &&& 31) = a >>> ((8 : Int32) &&& 31)
  · exact ⟨0, fun Φ hp v1 e1 => ⟨fun _ => hp, fun q => absurd (e1.trans e) q⟩⟩
  · exact ⟨1, fun Φ hp v1 e1 => ⟨fun q => absurd (e1.symm.trans q) e, fun _ => hp⟩⟩
theorem RR.wordY {K : Kp} {g : Nat} {s : S_Proc} {u : S_Model} (h : RR K g s u) {y : Int32} (h1 : 0 ≤ y) (h2 : y ≤ 100000) : ∃ v s' u', wd16 v ∧ Cm2 (wp_X5_wordAt s (y &&& 65535)) v s' ∧ Cm2 (wp_X9_wordAt u y) v u' ∧ RR K g s' u' ∧ s'.1 = s.1 := by
  obtain ⟨v, b1, u1, hv, hc, hm, hR, hs⟩ := h.read (wd16_and y)
  obtain ⟨v2, b2, u2, hv2, hc2, hm2, hR2, hs2⟩ := hR.read (wd16_and (y + 1))
  refine ⟨v ||| (v2 <<< ((8 : Int32) &&& 31)), (s.1, s.2.1, s.2.2.1, b2), u2, word_or hv hv2, fun Φ hp => ?_, fun Φ hp => hm _ (hm2 _ hp), hR2, rfl⟩
  unfold wp_X5_wordAt
  rw [mask_nextw h1 h2]
  exact hc _ (hc2 _ hp)
theorem ins_jmx {K : Kp} {g : Nat} {s : S_Proc} {u : S_Model} (h : RR K g s u) {c o : Int32} (ho : wd16 o) (eo : u.1 10 = o) (hc : vp_in c 256) (ht : tab 2 c.toNatClampNeg = nI 6) : InsOK K g s c 113 11 o (fun Φ => vp_in 1 4 ∧ ∀ v10 : Int32, v10 = u.1 10 + u.2.2 2 (1 : Int32).toNatClampNeg → wp_X9_wordAt u v10 (fun r11 u12 => Φ 6 (upd u12.1 4 r11, u12.2.1, u12.2.2))) := by
  have e1 := h.1.1.2.1
  have b1 := h.1.2.1.2.1
  rw [← e1] at b1
  have y1 : 0 ≤ o + s.1 1 := by have := ho; have := b1; unfold by8 wd16 at *; grind
  have y2 : o + s.1 1 ≤ 100000 := by have := ho; have := b1; unfold by8 wd16 at *; grind
  obtain ⟨cr, i1⟩ := cmC_indexed (sP s 14 0) o (s.1 1)
  have hR1 : RR K g (sP (sP (sP s 14 0) 14 cr) 13 (nI 6)) u := h
  obtain ⟨v, s', u', hv, k1, k2, k3, k4⟩ := hR1.wordY y1 y2
  have ka : Cm2 (wp_X5_addressOf (sP s 14 0) 11 o) ((o + s.1 1) &&& 65535) (sP (sP s 14 0) 14 cr) := fun Φ hp => by simp [wp_X5_addressOf]; exact i1 _ hp
  have hR := k3.pc hv
  refine ⟨_, nI 6, _, fun Φ hp => c61_no ka hc ht (pays_w (by decide) (Or.inr (by decide))) (c108_7 (by decide) ?_), fun Φ hp => ⟨vp14, fun v10 e10 => ?_⟩, hR.mono (by omega), by show s'.1 13 = _; rw [k4]; rfl, nIT (by omega) (by omega)⟩
  · simp [wp_X5_jump]; exact k1 _ hp
  · have e10 : v10 = u.1 10 + u.2.2 2 1 := e10
    rw [e10, eo, ← e1]
    exact k2 _ hp
/-- JSR -/
theorem jsr_hl {p : Int32} (hp : wd16 p) : ((p - 1) &&& 65535) >>> ((8 : Int32) &&& 31) = ((p - 1) >>> ((8 : Int32) &&& 31)) &&& 255 ∧ ((p - 1) &&& 65535) &&& 255 = (p - 1) &&& 255 := by
  obtain ⟨n, hn, rfl⟩ := wd16_nI hp
  rcases Nat.eq_zero_or_pos n with rfl | hpos
  · decide
  · obtain ⟨k, rfl⟩ : ∃ k, n = k + 1 := ⟨n - 1, by omega⟩
    rw [nI_pred]
    have hw : wd16 (nI k) := wd16_of (by omega)
    rw [hw.and]
    exact ⟨(wd16_hi hw).and.symm, rfl⟩
theorem ins_jsr {K : Kp} {g : Nat} (hg : g < 2 ^ 30 - 4) {s : S_Proc} {u : S_Model} (h : RR K g s u) {o : Int32} (ho : wd16 o) (eo : u.1 10 = o) (hc : vp_in 32 256) (ht : tab 2 (32 : Int32).toNatClampNeg = nI 6) : InsOK K g s 32 114 10 o (wp_X9_calls u 32) := by
  have e5 : (sP (sP s 14 0) 13 (nI 6)).1 5 = u.1 4 := h.1.1.2.2.2.2.2.1
  have w4 := h.1.2.1.2.2.2.2.2.1
  obtain ⟨x1, x2⟩ := jsr_hl w4
  obtain ⟨s1, u1, k1, k2, k3, k4, k5⟩ := (h.beg 6).push (by omega) (v := ((u.1 4 - 1) >>> ((8 : Int32) &&& 31)) &&& 255) (by8_and _)
  have e51 : s1.1 5 = u.1 4 := by rw [k4]; exact e5
  have e41 : u1.1 4 = u.1 4 := by rw [← k3.1.1.2.2.2.2.2.1, e51]
  obtain ⟨s2, u2, q1, q2, q3, q4, q5⟩ := k3.push (by omega) (v := (u.1 4 - 1) &&& 255) (by8_and _)
  have hR := q3.pc ho
  refine ⟨_, nI 6, _, fun Φ hp => c61_p ⟨by decide, by decide, by decide, by decide, by decide, by decide, by decide⟩ hc ht (c108_7 (by decide) ?_), fun Φ hp => ⟨fun _ v13 e13 => ?_, fun q => absurd rfl q⟩, hR.mono (by omega), by show s2.1 13 = _; rw [q4, k4]; rfl, nIT (by omega) (by omega)⟩
  · unfold wp_X5_jump
    refine ⟨fun q => absurd q (by decide), fun q => absurd q (by decide), fun _ v6 e6 => ?_, fun q => absurd q (by decide), fun q => absurd q (by decide), fun q => absurd rfl q.2.2.1⟩
    rw [e5] at e6 ⊢
    rw [e6, x1]
    refine k1 _ (fun v8 e8 => ?_)
    rw [e8, x2]
    exact q1 _ hp
  · rw [e13]
    refine k2 _ ?_
    rw [e41]
    refine q2 _ ?_
    have e10 : u2.1 10 = o := by rw [q5.2.2.1, k5.2.2.1, eo]
    rw [e10]
    exact hp
theorem ins_rts {K : Kp} {g : Nat} {s : S_Proc} {u : S_Model} (h : RR K g s u) {o : Int32} (hc : vp_in 96 256) (ht : tab 2 (96 : Int32).toNatClampNeg = nI 6) : InsOK K g s 96 115 0 o (wp_X9_calls u 96) := by
  obtain ⟨v, s1, u1, hv, k1, k2, k3, k4, k5⟩ := (h.beg 6).pull
  obtain ⟨w, s2, u2, hw, q1, q2, q3, q4, q5⟩ := k3.pull
  have hR := q3.pc (wd16_and ((v ||| (w <<< ((8 : Int32) &&& 31))) + 1))
  refine ⟨_, nI 6, _, fun Φ hp => c61_p ⟨by decide, by decide, by decide, by decide, by decide, by decide, by decide⟩ hc ht (c108_7 (by decide) ?_), fun Φ hp => ?_, hR.mono (by omega), by show s2.1 13 = _; rw [q4, k4]; rfl, nIT (by omega) (by omega)⟩
  · unfold wp_X5_jump
    refine ⟨fun q => absurd q (by decide), fun q => absurd q (by decide), fun q => absurd q (by decide), fun _ => k1 _ (q1 _ (fun v15 e15 => ?_)), fun q => absurd q (by decide), fun q => absurd rfl q.2.2.2.1⟩
    rw [e15]; exact hp
  · refine ⟨fun q => absurd q (by decide), fun _ => ⟨fun q => absurd q (by decide), fun _ => ⟨fun q => absurd q (by decide), fun _ => k2 _ (q2 _ ⟨fun _ v6 e6 => ?_, fun q => absurd rfl q⟩)⟩⟩⟩
    rw [e6]; exact hp
theorem ins_rti {K : Kp} {g : Nat} {s : S_Proc} {u : S_Model} (h : RR K g s u) {o : Int32} (hc : vp_in 64 256) (ht : tab 2 (64 : Int32).toNatClampNeg = nI 6) : InsOK K g s 64 116 0 o (wp_X9_calls u 64) := by
  obtain ⟨p, s0, u0, hpp, j1, j2, j3, j4, j5⟩ := (h.beg 6).pull
  have hRp := j3.p (x := p ||| 48) (by8_or hpp (by8_of (n := 48) (by omega)))
  rw [or48] at hRp
  obtain ⟨v, s1, u1, hv, k1, k2, k3, k4, k5⟩ := hRp.pull
  obtain ⟨w, s2, u2, hw, q1, q2, q3, q4, q5⟩ := k3.pull
  have hR := q3.pc (word_or hv hw)
  refine ⟨_, nI 6, _, fun Φ hp => c61_p ⟨by decide, by decide, by decide, by decide, by decide, by decide, by decide⟩ hc ht (c108_7 (by decide) ?_), fun Φ hp => ?_, hR.mono (by omega), by show s2.1 13 = _; rw [q4, k4]; show s0.1 13 = _; rw [j4]; rfl, nIT (by omega) (by omega)⟩
  · unfold wp_X5_jump
    exact ⟨fun q => absurd q (by decide), fun q => absurd q (by decide), fun q => absurd q (by decide), fun q => absurd q (by decide), fun _ => j1 _ (k1 _ (q1 _ hp)), fun q => absurd rfl q.2.2.2.2⟩
  · exact ⟨fun q => absurd q (by decide), fun _ => ⟨fun q => absurd q (by decide), fun _ => ⟨fun _ => j2 _ (k2 _ (q2 _ ⟨fun q => absurd q (by decide), fun _ => hp⟩)), fun q => absurd rfl q⟩⟩⟩
/-! interrupts -/
theorem int_p {x : Int32} (hx : by8 x) : ((x ||| 48) &&& -9) ||| 4 = fl (fl x 4 1) 8 0 ||| 48 := by
  obtain ⟨n, hn, rfl⟩ := by8_nI hx
  have : ∀ n : Fin 256, ((nI n.val ||| 48) &&& -9) ||| 4 = fl (fl (nI n.val) 4 1) 8 0 ||| 48 := by decide +kernel
  exact this ⟨n, hn⟩
theorem int_b {x : Int32} (hx : by8 x) : (x ||| 48) &&& -17 = (x &&& -17) ||| 32 := by
  obtain ⟨n, hn, rfl⟩ := by8_nI hx
  have : ∀ n : Fin 256, (nI n.val ||| 48) &&& -17 = (nI n.val &&& -17) ||| 32 := by decide +kernel
  exact this ⟨n, hn⟩
theorem RR.inter {K : Kp} {g : Nat} (hg : g < 2 ^ 30 - 4) {s : S_Proc} {u : S_Model} (h : RR K g s u) {vec a2 own : Int32} (hvec : vec = 65534 ∨ vec = 65530) (hown : (own = 0 ∧ a2 = s.1 4 &&& -17) ∨ (own = 1 ∧ a2 = s.1 4)) : ∃ s' u', Cm1 (wp_X5_interrupt s vec a2) s' ∧ Cm1 (wp_X9_interrupt u vec own) u' ∧ RR K (g + 4) s' u' ∧ s'.1 13 = s.1 13 := by
  have e5 := h.1.1.2.2.2.2.2.1
  have w4 := h.1.2.1.2.2.2.2.2.1
  have e4 := h.1.1.2.2.2.2.1
  have p8 := h.1.2.1.2.2.2.2.1
  have hvw : wd16 vec := by rcases hvec with rfl | rfl <;> exact ⟨by decide, by decide⟩
  obtain ⟨s1, u1, k1, k2, k3, k4, k5⟩ := h.push (by omega) (v := u.1 4 >>> ((8 : Int32) &&& 31)) (wd16_hi w4)
  have e51 : s1.1 5 = u.1 4 := by rw [k4]; exact e5
  have e41 : u1.1 4 = u.1 4 := by rw [← k3.1.1.2.2.2.2.2.1, e51]
  obtain ⟨s2, u2, q1, q2, q3, q4, q5⟩ := k3.push (by omega) (v := u.1 4 &&& 255) (by8_and _)
  have f4 : s2.1 4 = s.1 4 := by rw [q4, k4]; rfl
  have e32 : u2.1 3 ||| 48 = u.1 3 ||| 48 := by rw [← q3.1.1.2.2.2.2.1, f4, e4]
  have p82 := q3.1.2.1.2.2.2.2.1
  have b2 : by8 a2 := by
    rcases hown with ⟨-, e⟩ | ⟨-, e⟩
    · rw [e, e4]; exact by8_andl (by8_or p8 (by8_of (n := 48) (by omega))) _
    · rw [e, e4]; exact by8_or p8 (by8_of (n := 48) (by omega))
  obtain ⟨s3, u3, t1, t2, t3, t4, t5⟩ := q3.push (by omega) (v := a2) b2
  have p83 := t3.1.2.1.2.2.2.2.1
  have hF := (t3.mark 4 1 (by decide) (by8_of (n := 4) (by omega))).mark 8 0 (by decide) (by8_of (n := 8) (by omega))
  obtain ⟨v, b4, u4, hv, r1, r2, hR4, hs4⟩ := hF.read hvw
  obtain ⟨w, b5, u5, hw, y1, y2, hR5, hs5⟩ := hR4.read (wd16_and (vec + 1))
  have hR := hR5.pc (word_or hv hw)
  have ev : (vec + 1) &&& 65535 = vec + 1 := by rcases hvec with rfl | rfl <;> decide
  refine ⟨_, _, fun Φ hp => ?_, fun Φ hp => ?_, hR.mono (by omega), by show s3.1 13 = _; rw [t4, q4, k4]; rfl⟩
  · unfold wp_X5_interrupt
    rw [e5]
    refine k1 _ ?_
    rw [e51]
    refine q1 _ (t1 _ (r1 _ ?_))
    rw [ev] at y1
    refine y1 _ ?_
    have ep : fl (fl (s3.1 4) 4 1) 8 0 = ((s3.1 4) &&& -9) ||| 4 := by
      rw [t3.1.1.2.2.2.2.1, int_p p83, fl_48 _ _ (by decide), fl_48 _ _ (by decide)]
    have hp : Φ (upd (upd (upd s3.1 4 (fl (s3.1 4) 4 1)) 4 (fl (fl (s3.1 4) 4 1) 8 0)) 5 (v ||| (w <<< ((8 : Int32) &&& 31))), s3.2.1, s3.2.2.1, b5) := hp
    rw [upd_upd, ep] at hp
    exact hp
  · unfold wp_X9_interrupt
    refine k2 _ ?_
    rw [e41]
    refine q2 _ ?_
    have i48 : wp_X9_interrupt_48 u2 vec a2 Φ := by
      refine t2 _ (cmM_flag u3 4 1 _ (cmM_flag _ 8 0 _ ?_))
      unfold wp_X9_wordAt
      rw [hvw.and]
      exact r2 _ (y2 _ hp)
    rcases hown with ⟨rfl, e⟩ | ⟨rfl, e⟩
    · refine ⟨fun _ v9 e9 => ?_, fun q => absurd rfl q⟩
      rw [e9, ← int_b p82, e32, ← e4, ← e]
      exact i48
    · refine ⟨fun q => absurd q (by decide), fun _ => ?_⟩
      rw [e32, ← e4, ← e]
      exact i48
theorem ins_brk {K : Kp} {g : Nat} (hg : g < 2 ^ 30 - 4) {s : S_Proc} {u : S_Model} (h : RR K g s u) {o : Int32} (hc : vp_in 0 256) (ht : tab 2 (0 : Int32).toNatClampNeg = nI 7) : InsOK K g s 0 117 0 o (wp_X9_calls u 0) := by
  have e5 : (sP (sP s 14 0) 13 (nI 7)).1 5 = u.1 4 := h.1.1.2.2.2.2.2.1
  have hR0 := (h.beg 7).pc (wd16_and (u.1 4 + 1))
  obtain ⟨s', u', k1, k2, k3, k4⟩ := hR0.inter hg (vec := 65534) (own := 1) (Or.inl rfl) (Or.inr ⟨rfl, rfl⟩)
  refine ⟨s', nI 7, u', fun Φ hp => c61_p ⟨by decide, by decide, by decide, by decide, by decide, by decide, by decide⟩ hc ht (c108_7 (by decide) ?_), fun Φ hp => ⟨fun q => absurd q (by decide), fun _ => ⟨fun _ => k2 _ hp, fun q => absurd rfl q⟩⟩, k3, k4, nIT (by omega) (by omega)⟩
  unfold wp_X5_jump
  refine ⟨fun q => absurd q (by decide), fun q => absurd q (by decide), fun q => absurd q (by decide), fun q => absurd q (by decide), fun q => absurd q (by decide), fun _ => ?_⟩
  rw [e5]
  exact k1 _ hp
