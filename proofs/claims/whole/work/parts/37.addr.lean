/-! reading, writing, the stack, words: the processor's side -/
theorem RR.read {K : Kp} {g : Nat} {s : S_Proc} {u : S_Model} (h : RR K g s u) {a : Int32} (ha : wd16 a) : ∃ v b' u', by8 v ∧ Cm2 (wp_X0_read s.2.2.2 a) v b' ∧ Cm2 (wp_X9_read u a) v u' ∧ RR K g (s.1, s.2.1, s.2.2.1, b') u' ∧ SameB u u' := by
  obtain ⟨v, b', u', hv, hc, hm, hb, hs⟩ := sim_read h.2.2.2 ha
  exact ⟨v, b', u', hv, hc, hm, h.board hs hb, hs⟩
theorem RR.write {K : Kp} {g : Nat} (hg : g < 2 ^ 30) {s : S_Proc} {u : S_Model} (h : RR K g s u) {a v : Int32} (ha : wd16 a) (hv : by8 v) : ∃ b' u', Cm1 (wp_X0_write s.2.2.2 a v) b' ∧ Cm1 (wp_X9_write u a v) u' ∧ RR K (g + 1) (s.1, s.2.1, s.2.2.1, b') u' ∧ SameB u u' := by
  obtain ⟨b', u', hc, hm, hb, hs⟩ := sim_write hg h.2.2.2 ha hv
  exact ⟨b', u', hc, hm, (h.mono (Nat.le_succ g)).board hs hb, hs⟩
def ScrM (u v : S_Model) : Prop := v.1 0 = u.1 0 ∧ v.1 9 = u.1 9 ∧ v.1 10 = u.1 10 ∧ v.1 11 = u.1 11
theorem SameB.scr {u v : S_Model} (h : SameB u v) : ScrM u v := ⟨h.1.1, h.1.2.2.2.2.2.2.1, h.1.2.2.2.2.2.2.2.1, h.1.2.2.2.2.2.2.2.2.1⟩
theorem ScrM.rfl' (u : S_Model) : ScrM u u := ⟨rfl, rfl, rfl, rfl⟩
theorem ScrM.trans {u v w : S_Model} (h : ScrM u v) (k : ScrM v w) : ScrM u w := ⟨k.1.trans h.1, k.2.1.trans h.2.1, k.2.2.1.trans h.2.2.1, k.2.2.2.trans h.2.2.2⟩
theorem vp34 : vp_in 3 4 := vp_in_nI (n := 3) (N := 4) (by omega) (by omega)
theorem vp24 : vp_in 2 4 := vp_in_nI (n := 2) (N := 4) (by omega) (by omega)
theorem vp14 : vp_in 1 4 := vp_in_nI (n := 1) (N := 4) (by omega) (by omega)
theorem vp04 : vp_in 0 4 := vp_in_nI (n := 0) (N := 4) (by omega) (by omega)
theorem stk_wd {x : Int32} (h : by8 x) : wd16 (256 + x) := by
  obtain ⟨h1, h2⟩ := h
  exact ⟨by grind, by grind⟩
theorem RR.push {K : Kp} {g : Nat} (hg : g < 2 ^ 30) {s : S_Proc} {u : S_Model} (h : RR K g s u) {v : Int32} (hv : by8 v) : ∃ s' u', Cm1 (wp_X5_push s v) s' ∧ Cm1 (wp_X9_push u v) u' ∧ RR K (g + 1) s' u' ∧ s'.1 = upd s.1 3 ((s.1 3 - 1) &&& 255) ∧ ScrM u u' := by
  have h3 := h.1.1.2.2.2.1
  have r3 := h.1.2.1.2.2.2.1
  obtain ⟨b', u', hc, hm, hR, hs⟩ := h.write hg (stk_wd r3) hv
  have e3 : u'.2.2 2 3 = u.2.2 2 3 := by rw [hs.2.2.1]
  refine ⟨(upd s.1 3 ((s.1 3 - 1) &&& 255), s.2.1, s.2.2.1, b'), mR u' 3 ((u'.2.2 2 3 - 1) &&& 255), fun Φ hp => ?_, fun Φ hp => ?_, ?_, rfl, hs.scr⟩
  · unfold wp_X5_push
    rw [h3]
    rw [h3] at hp
    exact hc _ hp
  · unfold wp_X9_push
    refine ⟨vp34, fun v1 e1 => ?_⟩
    rw [e1]
    refine hm _ ⟨vp34, fun v3 e3 => ⟨vp34, ?_⟩⟩
    rw [e3]; exact hp
  · have := hR.r3 (by8_and (u'.2.2 2 3 - 1))
    rw [e3, ← h3] at this
    rw [e3, ← h3]
    exact this
theorem RR.pull {K : Kp} {g : Nat} {s : S_Proc} {u : S_Model} (h : RR K g s u) : ∃ v s' u', by8 v ∧ Cm2 (wp_X5_pull s) v s' ∧ Cm2 (wp_X9_pull u) v u' ∧ RR K g s' u' ∧ s'.1 = upd s.1 3 ((s.1 3 + 1) &&& 255) ∧ ScrM u u' := by
  have h3 := h.1.1.2.2.2.1
  have hA := h.r3 (by8_and (s.1 3 + 1))
  obtain ⟨v, b', u', hv, hc, hm, hR, hs⟩ := hA.read (stk_wd (by8_and (s.1 3 + 1)))
  refine ⟨v, (upd s.1 3 ((s.1 3 + 1) &&& 255), s.2.1, s.2.2.1, b'), u', hv, fun Φ hp => ?_, fun Φ hp => ?_, hR, rfl, hs.scr⟩
  · unfold wp_X5_pull
    intro v1 e1
    rw [e1]
    exact hc _ hp
  · unfold wp_X9_pull
    refine ⟨vp34, fun v1 e1 => ⟨vp34, vp34, fun v2 e2 => ?_⟩⟩
    rw [e1] at e2 ⊢
    rw [show (upd (u.2.2 2) (3 : Int32).toNatClampNeg ((u.2.2 2 (3 : Int32).toNatClampNeg + 1) &&& 255)) (3 : Int32).toNatClampNeg = (s.1 3 + 1) &&& 255 by rw [pk_us, h3]; rfl] at e2
    rw [e2]
    have := hm Φ hp
    rw [h3] at this ⊢
    exact this
theorem RR.word {K : Kp} {g : Nat} {s : S_Proc} {u : S_Model} (h : RR K g s u) {a : Int32} (ha : wd16 a) : ∃ v s' u', wd16 v ∧ Cm2 (wp_X5_wordAt s a) v s' ∧ Cm2 (wp_X9_wordAt u a) v u' ∧ RR K g s' u' ∧ s'.1 = s.1 ∧ ScrM u u' := by
  obtain ⟨v, b1, u1, hv, hc, hm, hR, hs⟩ := h.read ha
  obtain ⟨v2, b2, u2, hv2, hc2, hm2, hR2, hs2⟩ := hR.read (wd16_and (a + 1))
  refine ⟨v ||| (v2 <<< ((8 : Int32) &&& 31)), (s.1, s.2.1, s.2.2.1, b2), u2, word_or hv hv2, fun Φ hp => hc _ (hc2 _ hp), fun Φ hp => ?_, hR2, rfl, hs.scr.trans hs2.scr⟩
  unfold wp_X9_wordAt
  rw [ha.and]
  exact hm _ (hm2 _ hp)
theorem mask_next {y : Int32} (h1 : 0 ≤ y) (h2 : y ≤ 1000) : ((y &&& 255) + 1) &&& 255 = (y + 1) &&& 255 := by
  obtain ⟨n, hn, rfl⟩ := nI_of2 (x := y) (M := 1000) (n := 1000) rfl (by grind) h2
  rw [pk_andN (n := n) (by omega) (m := 255) 8 rfl, nI_1, nI_1, pk_andN (n := n % 2 ^ 8 + 1) (by omega) (m := 255) 8 rfl, pk_andN (n := n + 1) (by omega) (m := 255) 8 rfl]
  congr 1; omega
theorem RR.zword {K : Kp} {g : Nat} {s : S_Proc} {u : S_Model} (h : RR K g s u) {y : Int32} (h1 : 0 ≤ y) (h2 : y ≤ 1000) : ∃ v s' u', wd16 v ∧ Cm2 (wp_X5_pointerAt s (y &&& 255)) v s' ∧ Cm2 (wp_X9_zeroWord u y) v u' ∧ RR K g s' u' ∧ s'.1 = s.1 ∧ ScrM u u' := by
  obtain ⟨v, b1, u1, hv, hc, hm, hR, hs⟩ := h.read (by8_and y).wd
  obtain ⟨v2, b2, u2, hv2, hc2, hm2, hR2, hs2⟩ := hR.read (by8_and (y + 1)).wd
  refine ⟨v ||| (v2 <<< ((8 : Int32) &&& 31)), (s.1, s.2.1, s.2.2.1, b2), u2, word_or hv hv2, fun Φ hp => ?_, fun Φ hp => hm _ (hm2 _ hp), hR2, rfl, hs.scr.trans hs2.scr⟩
  unfold wp_X5_pointerAt
  rw [mask_next h1 h2]
  exact hc _ (hc2 _ hp)
/-! addresses -/
theorem RR.indexed {K : Kp} {g : Nat} {s : S_Proc} {u : S_Model} (h : RR K g s u) (a k : Int32) : ∃ v s' u', wd16 v ∧ Cm2 (wp_X5_indexed s a k) v s' ∧ Cm2 (wp_X9_indexed u a k) v u' ∧ RR K g s' u' ∧ bl1 (s'.1 14) ∧ s'.1 14 = u'.1 11 ∧ s'.1 = upd s.1 14 (s'.1 14) := by
  by_cases e : ((a + k) &&& 65535) >>> ((8 : Int32) &&& 31) = a >>> ((8 : Int32) &&& 31)
  · refine ⟨(a + k) &&& 65535, sP s 14 0, mI u 11 0, wd16_and _, fun Φ hp => ?_, fun Φ hp => ?_, (h.c14 0).m11 0, Or.inl rfl, rfl, rfl⟩
    · exact fun v1 e1 => ⟨fun _ => hp, fun q => absurd (e1.trans e) q⟩
    · exact fun v1 e1 => ⟨fun _ => hp, fun q => absurd (e1.trans e) q⟩
  · refine ⟨(a + k) &&& 65535, sP s 14 1, mI u 11 1, wd16_and _, fun Φ hp => ?_, fun Φ hp => ?_, (h.c14 1).m11 1, Or.inr rfl, rfl, rfl⟩
    · exact fun v1 e1 => ⟨fun q => absurd (e1.symm.trans q) e, fun _ => hp⟩
    · exact fun v1 e1 => ⟨fun q => absurd (e1.symm.trans q) e, fun _ => hp⟩
def AddrOK (K : Kp) (g : Nat) (s : S_Proc) (u : S_Model) (mc o mm : Int32) : Prop := ∃ at_ s' u', wd16 at_ ∧ Cm2 (wp_X5_addressOf (sP s 14 0) mc o) at_ s' ∧ Cm2 (wp_X9_address u mm) at_ u' ∧ RR K g s' u' ∧ bl1 (s'.1 14) ∧ s'.1 14 = u'.1 11 ∧ s'.1 = upd s.1 14 (s'.1 14)
theorem upd14 (f : Nat → Int32) (a b : Int32) : upd (upd f 14 a) 14 b = upd f 14 b := upd_upd f 14 a b
theorem addr_ZP {K : Kp} {g : Nat} {s : S_Proc} {u : S_Model} (h : RR K g s u) {o : Int32} (ho : by8 o) (eo : u.1 9 = o) : AddrOK K g s u 4 o 1 :=
  ⟨o, sP s 14 0, mI u 11 0, ho.wd, fun Φ hp => by simp [wp_X5_addressOf]; exact hp, fun Φ hp => by simp [wp_X9_address, eo]; exact hp, (h.c14 0).m11 0, Or.inl rfl, rfl, rfl⟩
theorem addr_ABS {K : Kp} {g : Nat} {s : S_Proc} {u : S_Model} (h : RR K g s u) {o : Int32} (ho : wd16 o) (eo : u.1 10 = o) : AddrOK K g s u 10 o 4 :=
  ⟨o, sP s 14 0, mI u 11 0, ho, fun Φ hp => by simp [wp_X5_addressOf]; exact hp, fun Φ hp => by simp [wp_X9_address, eo]; exact hp, (h.c14 0).m11 0, Or.inl rfl, rfl, rfl⟩
theorem addr_ZX {K : Kp} {g : Nat} {s : S_Proc} {u : S_Model} (h : RR K g s u) {o : Int32} (eo : u.1 9 = o) : AddrOK K g s u 5 o 2 := by
  have e1 := h.1.1.2.1
  refine ⟨(o + s.1 1) &&& 255, sP s 14 0, mI u 11 0, (by8_and _).wd, fun Φ hp => ?_, fun Φ hp => ?_, (h.c14 0).m11 0, Or.inl rfl, rfl, rfl⟩
  · simp [wp_X5_addressOf]; exact hp
  · rw [e1, ← eo] at hp
    simp [wp_X9_address]
    exact ⟨vp14, hp⟩
theorem addr_ZY {K : Kp} {g : Nat} {s : S_Proc} {u : S_Model} (h : RR K g s u) {o : Int32} (eo : u.1 9 = o) : AddrOK K g s u 6 o 3 := by
  have e1 := h.1.1.2.2.1
  refine ⟨(o + s.1 2) &&& 255, sP s 14 0, mI u 11 0, (by8_and _).wd, fun Φ hp => ?_, fun Φ hp => ?_, (h.c14 0).m11 0, Or.inl rfl, rfl, rfl⟩
  · simp [wp_X5_addressOf]; exact hp
  · rw [e1, ← eo] at hp
    simp [wp_X9_address]
    exact ⟨vp24, hp⟩
theorem addr_AX {K : Kp} {g : Nat} {s : S_Proc} {u : S_Model} (h : RR K g s u) {o : Int32} (eo : u.1 10 = o) : AddrOK K g s u 11 o 5 := by
  have e1 := h.1.1.2.1
  obtain ⟨v, s', u', hv, hc, hm, hR, hb, he, hs⟩ := ((h.c14 0).m11 0).indexed o (s.1 1)
  refine ⟨v, s', u', hv, fun Φ hp => ?_, fun Φ hp => ?_, hR, hb, he, hs.trans (upd14 _ _ _)⟩
  · simp [wp_X5_addressOf]; exact hc _ hp
  · simp [wp_X9_address]
    refine ⟨vp14, ?_⟩
    rw [e1] at hm
    rw [eo]
    exact hm _ hp
theorem addr_AY {K : Kp} {g : Nat} {s : S_Proc} {u : S_Model} (h : RR K g s u) {o : Int32} (eo : u.1 10 = o) : AddrOK K g s u 12 o 6 := by
  have e1 := h.1.1.2.2.1
  obtain ⟨v, s', u', hv, hc, hm, hR, hb, he, hs⟩ := ((h.c14 0).m11 0).indexed o (s.1 2)
  refine ⟨v, s', u', hv, fun Φ hp => ?_, fun Φ hp => ?_, hR, hb, he, hs.trans (upd14 _ _ _)⟩
  · simp [wp_X5_addressOf]; exact hc _ hp
  · simp [wp_X9_address]
    refine ⟨vp24, ?_⟩
    rw [e1] at hm
    rw [eo]
    exact hm _ hp
theorem addr_IX {K : Kp} {g : Nat} {s : S_Proc} {u : S_Model} (h : RR K g s u) {o : Int32} (ho : by8 o) (eo : u.1 9 = o) : AddrOK K g s u 7 o 7 := by
  have e1 := h.1.1.2.1
  have b1 := h.1.2.1.2.1
  rw [← e1] at b1
  obtain ⟨v, s', u', hv, hc, hm, hR, hs, hk⟩ := ((h.c14 0).m11 0).zword (y := o + s.1 1) (by have := ho; have := b1; unfold by8 at *; grind) (by have := ho; have := b1; unfold by8 at *; grind)
  refine ⟨v, s', u', hv, fun Φ hp => ?_, fun Φ hp => ?_, hR, by rw [hs]; exact Or.inl rfl, by rw [hs, hk.2.2.2]; rfl, by rw [hs]; rfl⟩
  · simp [wp_X5_addressOf]; exact hc _ hp
  · simp [wp_X9_address]
    refine ⟨vp14, ?_⟩
    rw [e1] at hm
    rw [eo]
    exact hm _ hp
theorem addr_IP {K : Kp} {g : Nat} {s : S_Proc} {u : S_Model} (h : RR K g s u) {o : Int32} (ho : by8 o) (eo : u.1 9 = o) : AddrOK K g s u 9 o 9 := by
  obtain ⟨v, s', u', hv, hc, hm, hR, hs, hk⟩ := ((h.c14 0).m11 0).zword (y := o) ho.1 (by have := ho.2; grind)
  rw [ho.and] at hc
  refine ⟨v, s', u', hv, fun Φ hp => ?_, fun Φ hp => ?_, hR, by rw [hs]; exact Or.inl rfl, by rw [hs, hk.2.2.2]; rfl, by rw [hs]; rfl⟩
  · simp [wp_X5_addressOf]; exact hc _ hp
  · simp [wp_X9_address]
    rw [eo]
    exact hm _ hp
theorem addr_IY {K : Kp} {g : Nat} {s : S_Proc} {u : S_Model} (h : RR K g s u) {o : Int32} (ho : by8 o) (eo : u.1 9 = o) : AddrOK K g s u 8 o 8 := by
  obtain ⟨v, s1, u1, hv, hc, hm, hR, hs, hk⟩ := ((h.c14 0).m11 0).zword (y := o) ho.1 (by have := ho.2; grind)
  rw [ho.and] at hc
  have e1 := hR.1.1.2.2.1
  obtain ⟨v2, s', u', hv2, hc2, hm2, hR2, hb, he, hs2⟩ := hR.indexed v (s1.1 2)
  refine ⟨v2, s', u', hv2, fun Φ hp => ?_, fun Φ hp => ?_, hR2, hb, he, by rw [hs] at hs2; exact hs2.trans (upd14 _ _ _)⟩
  · simp [wp_X5_addressOf]; exact hc _ (hc2 _ hp)
  · simp [wp_X9_address]
    rw [eo]
    refine hm _ ⟨vp24, ?_⟩
    rw [e1] at hm2
    exact hm2 _ hp
